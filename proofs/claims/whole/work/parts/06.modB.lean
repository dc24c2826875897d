theorem dX7_laysEdges_0 : decode cX7_laysEdges 0 = .ok (.aload_n 0, 1) := by decide +kernel
theorem dX7_laysEdges_1 : decode cX7_laysEdges 1 = .ok (.iconst 0, 1) := by decide +kernel
theorem dX7_laysEdges_2 : decode cX7_laysEdges 2 = .ok (.putfield 138, 3) := by decide +kernel
theorem dX7_laysEdges_5 : decode cX7_laysEdges 5 = .ok (.iconst 0, 1) := by decide +kernel
theorem dX7_laysEdges_6 : decode cX7_laysEdges 6 = .ok (.istore_n 1, 1) := by decide +kernel
theorem dX7_laysEdges_7 : decode cX7_laysEdges 7 = .ok (.iload_n 1, 1) := by decide +kernel
theorem dX7_laysEdges_8 : decode cX7_laysEdges 8 = .ok (.aload_n 0, 1) := by decide +kernel
theorem dX7_laysEdges_9 : decode cX7_laysEdges 9 = .ok (.getfield 104, 3) := by decide +kernel
theorem dX7_laysEdges_12 : decode cX7_laysEdges 12 = .ok (.if_icmp .ge 87, 3) := by decide +kernel
theorem dX7_laysEdges_15 : decode cX7_laysEdges 15 = .ok (.iconst (-1), 1) := by decide +kernel
theorem dX7_laysEdges_16 : decode cX7_laysEdges 16 = .ok (.istore_n 2, 1) := by decide +kernel
theorem dX7_laysEdges_17 : decode cX7_laysEdges 17 = .ok (.iconst 0, 1) := by decide +kernel
theorem dX7_laysEdges_18 : decode cX7_laysEdges 18 = .ok (.istore_n 3, 1) := by decide +kernel
theorem dX7_laysEdges_19 : decode cX7_laysEdges 19 = .ok (.iload_n 3, 1) := by decide +kernel
theorem dX7_laysEdges_20 : decode cX7_laysEdges 20 = .ok (.aload_n 0, 1) := by decide +kernel
theorem dX7_laysEdges_21 : decode cX7_laysEdges 21 = .ok (.getfield 123, 3) := by decide +kernel
theorem dX7_laysEdges_24 : decode cX7_laysEdges 24 = .ok (.if_icmp .ge 69, 3) := by decide +kernel
theorem dX7_laysEdges_27 : decode cX7_laysEdges 27 = .ok (.aload_n 0, 1) := by decide +kernel
theorem dX7_laysEdges_28 : decode cX7_laysEdges 28 = .ok (.iload_n 3, 1) := by decide +kernel
theorem dX7_laysEdges_29 : decode cX7_laysEdges 29 = .ok (.iload_n 1, 1) := by decide +kernel
theorem dX7_laysEdges_30 : decode cX7_laysEdges 30 = .ok (.invokevirtual 141, 3) := by decide +kernel
theorem dX7_laysEdges_33 : decode cX7_laysEdges 33 = .ok (.ifCond .eq 54, 3) := by decide +kernel
theorem dX7_laysEdges_36 : decode cX7_laysEdges 36 = .ok (.aload_n 0, 1) := by decide +kernel
theorem dX7_laysEdges_37 : decode cX7_laysEdges 37 = .ok (.getfield 38, 3) := by decide +kernel
theorem dX7_laysEdges_40 : decode cX7_laysEdges 40 = .ok (.aload_n 0, 1) := by decide +kernel
theorem dX7_laysEdges_41 : decode cX7_laysEdges 41 = .ok (.getfield 138, 3) := by decide +kernel
theorem dX7_laysEdges_44 : decode cX7_laysEdges 44 = .ok (.iload_n 1, 1) := by decide +kernel
theorem dX7_laysEdges_45 : decode cX7_laysEdges 45 = .ok (.iastore, 1) := by decide +kernel
theorem dX7_laysEdges_46 : decode cX7_laysEdges 46 = .ok (.aload_n 0, 1) := by decide +kernel
theorem dX7_laysEdges_47 : decode cX7_laysEdges 47 = .ok (.getfield 41, 3) := by decide +kernel
theorem dX7_laysEdges_50 : decode cX7_laysEdges 50 = .ok (.aload_n 0, 1) := by decide +kernel
theorem dX7_laysEdges_51 : decode cX7_laysEdges 51 = .ok (.getfield 138, 3) := by decide +kernel
theorem dX7_laysEdges_54 : decode cX7_laysEdges 54 = .ok (.iload_n 2, 1) := by decide +kernel
theorem dX7_laysEdges_55 : decode cX7_laysEdges 55 = .ok (.iastore, 1) := by decide +kernel
theorem dX7_laysEdges_56 : decode cX7_laysEdges 56 = .ok (.aload_n 0, 1) := by decide +kernel
theorem dX7_laysEdges_57 : decode cX7_laysEdges 57 = .ok (.getfield 44, 3) := by decide +kernel
theorem dX7_laysEdges_60 : decode cX7_laysEdges 60 = .ok (.aload_n 0, 1) := by decide +kernel
theorem dX7_laysEdges_61 : decode cX7_laysEdges 61 = .ok (.getfield 138, 3) := by decide +kernel
theorem dX7_laysEdges_64 : decode cX7_laysEdges 64 = .ok (.iload_n 3, 1) := by decide +kernel
theorem dX7_laysEdges_65 : decode cX7_laysEdges 65 = .ok (.iastore, 1) := by decide +kernel
theorem dX7_laysEdges_66 : decode cX7_laysEdges 66 = .ok (.aload_n 0, 1) := by decide +kernel
theorem dX7_laysEdges_67 : decode cX7_laysEdges 67 = .ok (.dup, 1) := by decide +kernel
theorem dX7_laysEdges_68 : decode cX7_laysEdges 68 = .ok (.getfield 138, 3) := by decide +kernel
theorem dX7_laysEdges_71 : decode cX7_laysEdges 71 = .ok (.iload_n 2, 1) := by decide +kernel
theorem dX7_laysEdges_72 : decode cX7_laysEdges 72 = .ok (.iconst (-1), 1) := by decide +kernel
theorem dX7_laysEdges_73 : decode cX7_laysEdges 73 = .ok (.if_icmp .ne 7, 3) := by decide +kernel
theorem dX7_laysEdges_76 : decode cX7_laysEdges 76 = .ok (.iconst 0, 1) := by decide +kernel
theorem dX7_laysEdges_77 : decode cX7_laysEdges 77 = .ok (.goto 4, 3) := by decide +kernel
theorem dX7_laysEdges_80 : decode cX7_laysEdges 80 = .ok (.iconst 1, 1) := by decide +kernel
theorem dX7_laysEdges_81 : decode cX7_laysEdges 81 = .ok (.iadd, 1) := by decide +kernel
theorem dX7_laysEdges_82 : decode cX7_laysEdges 82 = .ok (.putfield 138, 3) := by decide +kernel
theorem dX7_laysEdges_85 : decode cX7_laysEdges 85 = .ok (.iload_n 3, 1) := by decide +kernel
theorem dX7_laysEdges_86 : decode cX7_laysEdges 86 = .ok (.istore_n 2, 1) := by decide +kernel
theorem dX7_laysEdges_87 : decode cX7_laysEdges 87 = .ok (.iinc 3 1, 3) := by decide +kernel
theorem dX7_laysEdges_90 : decode cX7_laysEdges 90 = .ok (.goto (-71), 3) := by decide +kernel
theorem dX7_laysEdges_93 : decode cX7_laysEdges 93 = .ok (.iinc 1 1, 3) := by decide +kernel
theorem dX7_laysEdges_96 : decode cX7_laysEdges 96 = .ok (.goto (-89), 3) := by decide +kernel
theorem dX7_laysEdges_99 : decode cX7_laysEdges 99 = .ok (.return_, 1) := by decide +kernel
def f_laysEdges_b87 (F : Nat) (k7 : MS → Int32 → Option MS) (k19 : MS → Int32 → Int32 → Int32 → Option MS) (M : MS) (x1 : Int32) (x2 : Int32) (x3 : Int32) : Option MS := k19 M x1 x2 (x3 + 1)
def f_laysEdges_b81 (F : Nat) (k7 : MS → Int32 → Option MS) (k19 : MS → Int32 → Int32 → Int32 → Option MS) (M : MS) (x1 : Int32) (x3 : Int32) (s0 : Int32) (s1 : Int32) : Option MS := wrF M 11 (s1 + s0) fun M1 => f_laysEdges_b87 F k7 k19 M1 x1 x3 x3
def f_laysEdges_L19 (F : Nat) (k7 : MS → Int32 → Option MS) : Nat → MS → Int32 → Int32 → Int32 → Option MS
  | 0, _, _, _, _ => none
  | n19 + 1, M, x1, x2, x3 => (if (M.1 5) ≤ x3 then k7 M (x1 + 1) else cal (f_isOn F M x3 x1) fun t3 => (if t3 = 0 then f_laysEdges_b87 F k7 ((f_laysEdges_L19 F k7 n19)) M x1 x2 x3 else wrI 160 M 12 (M.1 11) x1 fun M7 => wrI 160 M7 13 (M7.1 11) x2 fun M10 => wrI 160 M10 14 (M10.1 11) x3 fun M13 => (if x2 = ((-1)) then f_laysEdges_b81 F k7 ((f_laysEdges_L19 F k7 n19)) M13 x1 x3 0 (M13.1 11) else f_laysEdges_b81 F k7 ((f_laysEdges_L19 F k7 n19)) M13 x1 x3 1 (M13.1 11))))
def f_laysEdges_L7 (F : Nat) : Nat → MS → Int32 → Option MS
  | 0, _, _ => none
  | n7 + 1, M, x1 => (if (M.1 0) ≤ x1 then some M else f_laysEdges_L19 F ((f_laysEdges_L7 F n7)) F M x1 ((-1)) 0)
def f_laysEdges (F : Nat) (M : MS) : Option MS := wrF M 11 0 fun M1 => f_laysEdges_L7 F F M1 0
set_option maxRecDepth 100000 in
set_option maxHeartbeats 4000000 in
theorem c_laysEdges (l : Launch) (G : mG) (F : Nat) (M M2 : MS) (h : f_laysEdges F M = some M2) : mMV l yX7_laysEdges vX7_laysEdges ({ frames := 2, cells := 0, slots := 0, locals := 59 }) G [.ref (mO G)] M M2 := by
  refine mBodyV (cc := cX7_laysEdges) (maxL := 4) (ret := none) (by decide) rfl rfl ?_
  intro sz p e s m below meth c hC hP
  have hC0 := hC
  obtain ⟨hx, hb, -, hts, -, -, -, -, -, -⟩ := hC0
  have hS : va_S (mA G sz) s.heap s.heap [] := va_S.rf
  have hin : ∀ w ∈ wsX70, w ∈ vX7_laysEdges := fun w h => List.mem_cons_of_mem _ (List.mem_append_right _ h)
  have fl_edges := hts _ (List.mem_cons_of_mem _ wm_62)
  have fl_segments := hts _ (List.mem_cons_of_mem _ wm_53)
  have fl_vertices := hts _ (List.mem_cons_of_mem _ wm_43)
  have fl_ofs := hts _ (List.mem_cons_of_mem _ wm_63)
  have fl_froms := hts _ (List.mem_cons_of_mem _ wm_64)
  have fl_tos := hts _ (List.mem_cons_of_mem _ wm_65)
  have L7 : ∀ (n7 : Nat) (H : Heap) (locs : List Loc) (ls : Array Slot) (M : MS) (x1 : Int32), va_P G.1 vwCl (mW G M) H → va_S (mA G sz) s.heap H locs → lv_has ls 4 [(0, .ref (mO G)), (1, .int x1)] → f_laysEdges_L7 F n7 M x1 = some M2 → W p l e (headSpec vX7_laysEdges ({ frames := 2, cells := 0, slots := 0, locals := 59 })).room s m ([.ref (mO G)] : List Value).toArray below meth c H locs 0 0 (mQV below G M2 sz ([.ref (mO G)] : List Value).toArray s) (F0 m 7 ls []) := by
    intro n7
    induction n7 with
    | zero =>
      intro H locs ls M x1 hP hS hl h
      rw [f_laysEdges_L7] at h; cases h
    | succ n7 ih7 =>
      have L19 : ∀ (n19 : Nat) (H : Heap) (locs : List Loc) (ls : Array Slot) (M : MS) (x1 : Int32) (x2 : Int32) (x3 : Int32), va_P G.1 vwCl (mW G M) H → va_S (mA G sz) s.heap H locs → lv_has ls 4 [(0, .ref (mO G)), (1, .int x1), (2, .int x2), (3, .int x3)] → f_laysEdges_L19 F ((f_laysEdges_L7 F n7)) n19 M x1 x2 x3 = some M2 → W p l e (headSpec vX7_laysEdges ({ frames := 2, cells := 0, slots := 0, locals := 59 })).room s m ([.ref (mO G)] : List Value).toArray below meth c H locs 0 0 (mQV below G M2 sz ([.ref (mO G)] : List Value).toArray s) (F0 m 19 ls []) := by
        intro n19
        induction n19 with
        | zero =>
          intro H locs ls M x1 x2 x3 hP hS hl h
          rw [f_laysEdges_L19] at h; cases h
        | succ n19 ih19 =>
          have b87 : ∀ (H : Heap) (locs : List Loc) (ls : Array Slot) (M : MS) (x1 : Int32) (x2 : Int32) (x3 : Int32), va_P G.1 vwCl (mW G M) H → va_S (mA G sz) s.heap H locs → lv_has ls 4 [(0, .ref (mO G)), (1, .int x1), (2, .int x2), (3, .int x3)] → f_laysEdges_b87 F ((f_laysEdges_L7 F n7)) ((f_laysEdges_L19 F ((f_laysEdges_L7 F n7)) n19)) M x1 x2 x3 = some M2 → W p l e (headSpec vX7_laysEdges ({ frames := 2, cells := 0, slots := 0, locals := 59 })).room s m ([.ref (mO G)] : List Value).toArray below meth c H locs 0 0 (mQV below G M2 sz ([.ref (mO G)] : List Value).toArray s) (F0 m 87 ls []) := by
            intro H locs ls M x1 x2 x3 hP hS hl h
            unfold f_laysEdges_b87 at h
            refine lv_iinc (v := x3 + 1) (lv' := [(3, .int (x3 + 1)), (0, .ref (mO G)), (1, .int x1), (2, .int x2)]) hx hb dX7_laysEdges_87 hl (k := 3) rfl rfl (by decide) rfl (fun ls hl => ?_)
            refine lv_goto (tgt := 19) hx hb dX7_laysEdges_90 (by decide) ?_
            exact ih19 _ _ _ M x1 x2 (x3 + 1) hP hS (lv_sub hl [1, 2, 3, 0] rfl) h
          have b81 : ∀ (H : Heap) (locs : List Loc) (ls : Array Slot) (M : MS) (x1 : Int32) (x3 : Int32) (s0 : Int32) (s1 : Int32), va_P G.1 vwCl (mW G M) H → va_S (mA G sz) s.heap H locs → lv_has ls 4 [(0, .ref (mO G)), (1, .int x1), (3, .int x3)] → f_laysEdges_b81 F ((f_laysEdges_L7 F n7)) ((f_laysEdges_L19 F ((f_laysEdges_L7 F n7)) n19)) M x1 x3 s0 s1 = some M2 → W p l e (headSpec vX7_laysEdges ({ frames := 2, cells := 0, slots := 0, locals := 59 })).room s m ([.ref (mO G)] : List Value).toArray below meth c H locs 0 0 (mQV below G M2 sz ([.ref (mO G)] : List Value).toArray s) (F0 m 81 ls [.int s0, .int s1, .ref (mO G)]) := by
            intro H locs ls M x1 x3 s0 s1 hP hS hl h
            unfold f_laysEdges_b81 at h
            refine lv_iadd hx hb dX7_laysEdges_81 ?_
            obtain ⟨M1, e2, h⟩ := wrF_el h
            refine m_put hC hin hP hS 11 (by decide) fl_edges rfl rfl (by decide +kernel) (mset_11 G _ _) e2 dX7_laysEdges_82 (fun H locs hP hS => ?_)
            refine lv_iload_n hx hb dX7_laysEdges_85 rfl (lv_at hl 2 rfl) ?_
            refine lv_istore_n (lv' := [(2, .int x3), (0, .ref (mO G)), (1, .int x1), (3, .int x3)]) hx hb dX7_laysEdges_86 rfl hl (by decide) rfl (fun ls hl => ?_)
            exact b87 _ _ _ M1 x1 x3 x3 hP hS (lv_sub hl [1, 2, 0, 3] rfl) h
          intro H locs ls M x1 x2 x3 hP hS hl h
          rw [f_laysEdges_L19] at h
          refine lv_iload_n hx hb dX7_laysEdges_19 rfl (lv_at hl 3 rfl) ?_
          refine lv_aload_n hx hb dX7_laysEdges_20 rfl (lv_at hl 0 rfl) ?_
          refine m_get hC hin hP 5 (by decide) fl_vertices rfl (v := .int (M.1 5)) rfl dX7_laysEdges_21 ?_
          refine lv_icmp_ge (tgt := 93) hx hb dX7_laysEdges_24 (by decide) (fun u1 => ?_) (fun u1 => ?_)
          · have h := ite_t u1 h
            refine lv_iinc (v := x1 + 1) (lv' := [(1, .int (x1 + 1)), (0, .ref (mO G)), (2, .int x2), (3, .int x3)]) hx hb dX7_laysEdges_93 hl (k := 1) rfl rfl (by decide) rfl (fun ls hl => ?_)
            refine lv_goto (tgt := 7) hx hb dX7_laysEdges_96 (by decide) ?_
            exact ih7 _ _ _ M (x1 + 1) hP hS (lv_sub hl [1, 0] rfl) h
          · have h := ite_f u1 h
            refine lv_aload_n hx hb dX7_laysEdges_27 rfl (lv_at hl 0 rfl) ?_
            refine lv_iload_n hx hb dX7_laysEdges_28 rfl (lv_at hl 3 rfl) ?_
            refine lv_iload_n hx hb dX7_laysEdges_29 rfl (lv_at hl 1 rfl) ?_
            obtain ⟨t3, e2, h⟩ := cal_el h
            refine m_VI (As := [.int x3, .int x1]) (rest := []) hC hP hS (c_isOn l G F M x3 x1 t3 e2) (cwV 2 hts (gWM wm_66 wm_67 wm_68 wm_7 wm_60) rfl rfl rfl (by decide +kernel) ⟨Nat.le_of_ble_eq_true rfl, Nat.le_of_ble_eq_true rfl⟩) rfl hl.1 rfl (Nat.le_of_ble_eq_true rfl) dX7_laysEdges_30 (fun H locs hP hS => ?_)
            refine lv_if_eq (tgt := 87) hx hb dX7_laysEdges_33 (by decide) (fun u4 => ?_) (fun u4 => ?_)
            · have h := ite_t u4 h
              exact b87 _ _ _ M x1 x2 x3 hP hS (lv_sub hl [0, 1, 2, 3] rfl) h
            · have h := ite_f u4 h
              refine lv_aload_n hx hb dX7_laysEdges_36 rfl (lv_at hl 0 rfl) ?_
              refine m_get hC hin hP 12 (by decide) fl_ofs rfl (v := .ref (mAd G 12)) rfl dX7_laysEdges_37 ?_
              refine lv_aload_n hx hb dX7_laysEdges_40 rfl (lv_at hl 0 rfl) ?_
              refine m_get hC hin hP 11 (by decide) fl_edges rfl (v := .int (M.1 11)) rfl dX7_laysEdges_41 ?_
              refine lv_iload_n hx hb dX7_laysEdges_44 rfl (lv_at hl 1 rfl) ?_
              obtain ⟨z5, M7, e6, h⟩ := wrI_el h
              refine m_ist hC hP hS 10 (N := 160) rfl z5 (maset_12 G) e6 dX7_laysEdges_45 (fun H locs hP hS => ?_)
              refine lv_aload_n hx hb dX7_laysEdges_46 rfl (lv_at hl 0 rfl) ?_
              refine m_get hC hin hP 13 (by decide) fl_froms rfl (v := .ref (mAd G 13)) rfl dX7_laysEdges_47 ?_
              refine lv_aload_n hx hb dX7_laysEdges_50 rfl (lv_at hl 0 rfl) ?_
              refine m_get hC hin hP 11 (by decide) fl_edges rfl (v := .int (M7.1 11)) rfl dX7_laysEdges_51 ?_
              refine lv_iload_n hx hb dX7_laysEdges_54 rfl (lv_at hl 2 rfl) ?_
              obtain ⟨z8, M10, e9, h⟩ := wrI_el h
              refine m_ist hC hP hS 11 (N := 160) rfl z8 (maset_13 G) e9 dX7_laysEdges_55 (fun H locs hP hS => ?_)
              refine lv_aload_n hx hb dX7_laysEdges_56 rfl (lv_at hl 0 rfl) ?_
              refine m_get hC hin hP 14 (by decide) fl_tos rfl (v := .ref (mAd G 14)) rfl dX7_laysEdges_57 ?_
              refine lv_aload_n hx hb dX7_laysEdges_60 rfl (lv_at hl 0 rfl) ?_
              refine m_get hC hin hP 11 (by decide) fl_edges rfl (v := .int (M10.1 11)) rfl dX7_laysEdges_61 ?_
              refine lv_iload_n hx hb dX7_laysEdges_64 rfl (lv_at hl 3 rfl) ?_
              obtain ⟨z11, M13, e12, h⟩ := wrI_el h
              refine m_ist hC hP hS 12 (N := 160) rfl z11 (maset_14 G) e12 dX7_laysEdges_65 (fun H locs hP hS => ?_)
              refine lv_aload_n hx hb dX7_laysEdges_66 rfl (lv_at hl 0 rfl) ?_
              refine lv_dup hx hb dX7_laysEdges_67 rfl ?_
              refine m_get hC hin hP 11 (by decide) fl_edges rfl (v := .int (M13.1 11)) rfl dX7_laysEdges_68 ?_
              refine lv_iload_n hx hb dX7_laysEdges_71 rfl (lv_at hl 2 rfl) ?_
              refine lv_iconst (v := (-1)) hx hb dX7_laysEdges_72 (by decide) ?_
              refine lv_icmp_ne (tgt := 80) hx hb dX7_laysEdges_73 (by decide) (fun u14 => ?_) (fun u14 => ?_)
              · have h := ite_f u14 h
                refine lv_iconst (v := 1) hx hb dX7_laysEdges_80 (by decide) ?_
                exact b81 _ _ _ M13 x1 x3 1 (M13.1 11) hP hS (lv_sub hl [0, 1, 3] rfl) h
              · have h := ite_t u14 h
                refine lv_iconst (v := 0) hx hb dX7_laysEdges_76 (by decide) ?_
                refine lv_goto (tgt := 81) hx hb dX7_laysEdges_77 (by decide) ?_
                exact b81 _ _ _ M13 x1 x3 0 (M13.1 11) hP hS (lv_sub hl [0, 1, 3] rfl) h
      intro H locs ls M x1 hP hS hl h
      rw [f_laysEdges_L7] at h
      refine lv_iload_n hx hb dX7_laysEdges_7 rfl (lv_at hl 1 rfl) ?_
      refine lv_aload_n hx hb dX7_laysEdges_8 rfl (lv_at hl 0 rfl) ?_
      refine m_get hC hin hP 0 (by decide) fl_segments rfl (v := .int (M.1 0)) rfl dX7_laysEdges_9 ?_
      refine lv_icmp_ge (tgt := 99) hx hb dX7_laysEdges_12 (by decide) (fun u1 => ?_) (fun u1 => ?_)
      · have h := ite_t u1 h
        cases h
        exact m_vret hC hP hS dX7_laysEdges_99
      · have h := ite_f u1 h
        refine lv_iconst (v := (-1)) hx hb dX7_laysEdges_15 (by decide) ?_
        refine lv_istore_n (lv' := [(2, .int ((-1))), (0, .ref (mO G)), (1, .int x1)]) hx hb dX7_laysEdges_16 rfl hl (by decide) rfl (fun ls hl => ?_)
        refine lv_iconst (v := 0) hx hb dX7_laysEdges_17 (by decide) ?_
        refine lv_istore_n (lv' := [(3, .int 0), (2, .int ((-1))), (0, .ref (mO G)), (1, .int x1)]) hx hb dX7_laysEdges_18 rfl hl (by decide) rfl (fun ls hl => ?_)
        exact L19 F _ _ _ M x1 ((-1)) 0 hP hS (lv_sub hl [2, 3, 1, 0] rfl) h
  refine m_entry (Nat.le_of_ble_eq_true rfl) (fun ls hl => ?_)
  have hl : lv_has ls 4 [(0, .ref (mO G))] := hl
  unfold f_laysEdges at h
  refine lv_aload_n hx hb dX7_laysEdges_0 rfl (lv_at hl 0 rfl) ?_
  refine lv_iconst (v := 0) hx hb dX7_laysEdges_1 (by decide) ?_
  obtain ⟨M1, e2, h⟩ := wrF_el h
  refine m_put hC hin hP hS 11 (by decide) fl_edges rfl rfl (by decide +kernel) (mset_11 G _ _) e2 dX7_laysEdges_2 (fun H locs hP hS => ?_)
  refine lv_iconst (v := 0) hx hb dX7_laysEdges_5 (by decide) ?_
  refine lv_istore_n (lv' := [(1, .int 0), (0, .ref (mO G))]) hx hb dX7_laysEdges_6 rfl hl (by decide) rfl (fun ls hl => ?_)
  exact L7 F _ _ _ M1 0 hP hS (lv_sub hl [1, 0] rfl) h

theorem dX7_laysParts_0 : decode cX7_laysParts 0 = .ok (.iconst 0, 1) := by decide +kernel
theorem dX7_laysParts_1 : decode cX7_laysParts 1 = .ok (.istore_n 1, 1) := by decide +kernel
theorem dX7_laysParts_2 : decode cX7_laysParts 2 = .ok (.iload_n 1, 1) := by decide +kernel
theorem dX7_laysParts_3 : decode cX7_laysParts 3 = .ok (.aload_n 0, 1) := by decide +kernel
theorem dX7_laysParts_4 : decode cX7_laysParts 4 = .ok (.getfield 123, 3) := by decide +kernel
theorem dX7_laysParts_7 : decode cX7_laysParts 7 = .ok (.if_icmp .ge 16, 3) := by decide +kernel
theorem dX7_laysParts_10 : decode cX7_laysParts 10 = .ok (.aload_n 0, 1) := by decide +kernel
theorem dX7_laysParts_11 : decode cX7_laysParts 11 = .ok (.getfield 35, 3) := by decide +kernel
theorem dX7_laysParts_14 : decode cX7_laysParts 14 = .ok (.iload_n 1, 1) := by decide +kernel
theorem dX7_laysParts_15 : decode cX7_laysParts 15 = .ok (.iload_n 1, 1) := by decide +kernel
theorem dX7_laysParts_16 : decode cX7_laysParts 16 = .ok (.iastore, 1) := by decide +kernel
theorem dX7_laysParts_17 : decode cX7_laysParts 17 = .ok (.iinc 1 1, 3) := by decide +kernel
theorem dX7_laysParts_20 : decode cX7_laysParts 20 = .ok (.goto (-18), 3) := by decide +kernel
theorem dX7_laysParts_23 : decode cX7_laysParts 23 = .ok (.iconst 1, 1) := by decide +kernel
theorem dX7_laysParts_24 : decode cX7_laysParts 24 = .ok (.istore_n 1, 1) := by decide +kernel
theorem dX7_laysParts_25 : decode cX7_laysParts 25 = .ok (.iload_n 1, 1) := by decide +kernel
theorem dX7_laysParts_26 : decode cX7_laysParts 26 = .ok (.ifCond .eq 111, 3) := by decide +kernel
theorem dX7_laysParts_29 : decode cX7_laysParts 29 = .ok (.iconst 0, 1) := by decide +kernel
theorem dX7_laysParts_30 : decode cX7_laysParts 30 = .ok (.istore_n 1, 1) := by decide +kernel
theorem dX7_laysParts_31 : decode cX7_laysParts 31 = .ok (.iconst 0, 1) := by decide +kernel
theorem dX7_laysParts_32 : decode cX7_laysParts 32 = .ok (.istore_n 2, 1) := by decide +kernel
theorem dX7_laysParts_33 : decode cX7_laysParts 33 = .ok (.iload_n 2, 1) := by decide +kernel
theorem dX7_laysParts_34 : decode cX7_laysParts 34 = .ok (.aload_n 0, 1) := by decide +kernel
theorem dX7_laysParts_35 : decode cX7_laysParts 35 = .ok (.getfield 138, 3) := by decide +kernel
theorem dX7_laysParts_38 : decode cX7_laysParts 38 = .ok (.if_icmp .ge 96, 3) := by decide +kernel
theorem dX7_laysParts_41 : decode cX7_laysParts 41 = .ok (.aload_n 0, 1) := by decide +kernel
theorem dX7_laysParts_42 : decode cX7_laysParts 42 = .ok (.getfield 35, 3) := by decide +kernel
theorem dX7_laysParts_45 : decode cX7_laysParts 45 = .ok (.aload_n 0, 1) := by decide +kernel
theorem dX7_laysParts_46 : decode cX7_laysParts 46 = .ok (.getfield 41, 3) := by decide +kernel
theorem dX7_laysParts_49 : decode cX7_laysParts 49 = .ok (.iload_n 2, 1) := by decide +kernel
theorem dX7_laysParts_50 : decode cX7_laysParts 50 = .ok (.iaload, 1) := by decide +kernel
theorem dX7_laysParts_51 : decode cX7_laysParts 51 = .ok (.iaload, 1) := by decide +kernel
theorem dX7_laysParts_52 : decode cX7_laysParts 52 = .ok (.istore_n 3, 1) := by decide +kernel
theorem dX7_laysParts_53 : decode cX7_laysParts 53 = .ok (.aload_n 0, 1) := by decide +kernel
theorem dX7_laysParts_54 : decode cX7_laysParts 54 = .ok (.getfield 35, 3) := by decide +kernel
theorem dX7_laysParts_57 : decode cX7_laysParts 57 = .ok (.aload_n 0, 1) := by decide +kernel
theorem dX7_laysParts_58 : decode cX7_laysParts 58 = .ok (.getfield 44, 3) := by decide +kernel
theorem dX7_laysParts_61 : decode cX7_laysParts 61 = .ok (.iload_n 2, 1) := by decide +kernel
theorem dX7_laysParts_62 : decode cX7_laysParts 62 = .ok (.iaload, 1) := by decide +kernel
theorem dX7_laysParts_63 : decode cX7_laysParts 63 = .ok (.iaload, 1) := by decide +kernel
theorem dX7_laysParts_64 : decode cX7_laysParts 64 = .ok (.istore 4, 2) := by decide +kernel
theorem dX7_laysParts_66 : decode cX7_laysParts 66 = .ok (.iload_n 1, 1) := by decide +kernel
theorem dX7_laysParts_67 : decode cX7_laysParts 67 = .ok (.ifCond .ne 9, 3) := by decide +kernel
theorem dX7_laysParts_70 : decode cX7_laysParts 70 = .ok (.iload_n 3, 1) := by decide +kernel
theorem dX7_laysParts_71 : decode cX7_laysParts 71 = .ok (.iload 4, 2) := by decide +kernel
theorem dX7_laysParts_73 : decode cX7_laysParts 73 = .ok (.if_icmp .eq 7, 3) := by decide +kernel
theorem dX7_laysParts_76 : decode cX7_laysParts 76 = .ok (.iconst 1, 1) := by decide +kernel
theorem dX7_laysParts_77 : decode cX7_laysParts 77 = .ok (.goto 4, 3) := by decide +kernel
theorem dX7_laysParts_80 : decode cX7_laysParts 80 = .ok (.iconst 0, 1) := by decide +kernel
theorem dX7_laysParts_81 : decode cX7_laysParts 81 = .ok (.istore_n 1, 1) := by decide +kernel
theorem dX7_laysParts_82 : decode cX7_laysParts 82 = .ok (.aload_n 0, 1) := by decide +kernel
theorem dX7_laysParts_83 : decode cX7_laysParts 83 = .ok (.getfield 35, 3) := by decide +kernel
theorem dX7_laysParts_86 : decode cX7_laysParts 86 = .ok (.aload_n 0, 1) := by decide +kernel
theorem dX7_laysParts_87 : decode cX7_laysParts 87 = .ok (.getfield 41, 3) := by decide +kernel
theorem dX7_laysParts_90 : decode cX7_laysParts 90 = .ok (.iload_n 2, 1) := by decide +kernel
theorem dX7_laysParts_91 : decode cX7_laysParts 91 = .ok (.iaload, 1) := by decide +kernel
theorem dX7_laysParts_92 : decode cX7_laysParts 92 = .ok (.iload_n 3, 1) := by decide +kernel
theorem dX7_laysParts_93 : decode cX7_laysParts 93 = .ok (.iload 4, 2) := by decide +kernel
theorem dX7_laysParts_95 : decode cX7_laysParts 95 = .ok (.if_icmp .ge 7, 3) := by decide +kernel
theorem dX7_laysParts_98 : decode cX7_laysParts 98 = .ok (.iload_n 3, 1) := by decide +kernel
theorem dX7_laysParts_99 : decode cX7_laysParts 99 = .ok (.goto 5, 3) := by decide +kernel
theorem dX7_laysParts_102 : decode cX7_laysParts 102 = .ok (.iload 4, 2) := by decide +kernel
theorem dX7_laysParts_104 : decode cX7_laysParts 104 = .ok (.iastore, 1) := by decide +kernel
theorem dX7_laysParts_105 : decode cX7_laysParts 105 = .ok (.aload_n 0, 1) := by decide +kernel
theorem dX7_laysParts_106 : decode cX7_laysParts 106 = .ok (.getfield 35, 3) := by decide +kernel
theorem dX7_laysParts_109 : decode cX7_laysParts 109 = .ok (.aload_n 0, 1) := by decide +kernel
theorem dX7_laysParts_110 : decode cX7_laysParts 110 = .ok (.getfield 44, 3) := by decide +kernel
theorem dX7_laysParts_113 : decode cX7_laysParts 113 = .ok (.iload_n 2, 1) := by decide +kernel
theorem dX7_laysParts_114 : decode cX7_laysParts 114 = .ok (.iaload, 1) := by decide +kernel
theorem dX7_laysParts_115 : decode cX7_laysParts 115 = .ok (.iload_n 3, 1) := by decide +kernel
theorem dX7_laysParts_116 : decode cX7_laysParts 116 = .ok (.iload 4, 2) := by decide +kernel
theorem dX7_laysParts_118 : decode cX7_laysParts 118 = .ok (.if_icmp .ge 7, 3) := by decide +kernel
theorem dX7_laysParts_121 : decode cX7_laysParts 121 = .ok (.iload_n 3, 1) := by decide +kernel
theorem dX7_laysParts_122 : decode cX7_laysParts 122 = .ok (.goto 5, 3) := by decide +kernel
theorem dX7_laysParts_125 : decode cX7_laysParts 125 = .ok (.iload 4, 2) := by decide +kernel
theorem dX7_laysParts_127 : decode cX7_laysParts 127 = .ok (.iastore, 1) := by decide +kernel
theorem dX7_laysParts_128 : decode cX7_laysParts 128 = .ok (.iinc 2 1, 3) := by decide +kernel
theorem dX7_laysParts_131 : decode cX7_laysParts 131 = .ok (.goto (-98), 3) := by decide +kernel
theorem dX7_laysParts_134 : decode cX7_laysParts 134 = .ok (.goto (-109), 3) := by decide +kernel
theorem dX7_laysParts_137 : decode cX7_laysParts 137 = .ok (.aload_n 0, 1) := by decide +kernel
theorem dX7_laysParts_138 : decode cX7_laysParts 138 = .ok (.iconst 0, 1) := by decide +kernel
theorem dX7_laysParts_139 : decode cX7_laysParts 139 = .ok (.putfield 144, 3) := by decide +kernel
theorem dX7_laysParts_142 : decode cX7_laysParts 142 = .ok (.iconst 0, 1) := by decide +kernel
theorem dX7_laysParts_143 : decode cX7_laysParts 143 = .ok (.istore_n 2, 1) := by decide +kernel
theorem dX7_laysParts_144 : decode cX7_laysParts 144 = .ok (.iload_n 2, 1) := by decide +kernel
theorem dX7_laysParts_145 : decode cX7_laysParts 145 = .ok (.aload_n 0, 1) := by decide +kernel
theorem dX7_laysParts_146 : decode cX7_laysParts 146 = .ok (.getfield 123, 3) := by decide +kernel
theorem dX7_laysParts_149 : decode cX7_laysParts 149 = .ok (.if_icmp .ge 33, 3) := by decide +kernel
theorem dX7_laysParts_152 : decode cX7_laysParts 152 = .ok (.aload_n 0, 1) := by decide +kernel
theorem dX7_laysParts_153 : decode cX7_laysParts 153 = .ok (.dup, 1) := by decide +kernel
theorem dX7_laysParts_154 : decode cX7_laysParts 154 = .ok (.getfield 144, 3) := by decide +kernel
theorem dX7_laysParts_157 : decode cX7_laysParts 157 = .ok (.aload_n 0, 1) := by decide +kernel
theorem dX7_laysParts_158 : decode cX7_laysParts 158 = .ok (.getfield 35, 3) := by decide +kernel
theorem dX7_laysParts_161 : decode cX7_laysParts 161 = .ok (.iload_n 2, 1) := by decide +kernel
theorem dX7_laysParts_162 : decode cX7_laysParts 162 = .ok (.iaload, 1) := by decide +kernel
theorem dX7_laysParts_163 : decode cX7_laysParts 163 = .ok (.iload_n 2, 1) := by decide +kernel
theorem dX7_laysParts_164 : decode cX7_laysParts 164 = .ok (.if_icmp .ne 7, 3) := by decide +kernel
theorem dX7_laysParts_167 : decode cX7_laysParts 167 = .ok (.iconst 1, 1) := by decide +kernel
theorem dX7_laysParts_168 : decode cX7_laysParts 168 = .ok (.goto 4, 3) := by decide +kernel
theorem dX7_laysParts_171 : decode cX7_laysParts 171 = .ok (.iconst 0, 1) := by decide +kernel
theorem dX7_laysParts_172 : decode cX7_laysParts 172 = .ok (.iadd, 1) := by decide +kernel
theorem dX7_laysParts_173 : decode cX7_laysParts 173 = .ok (.putfield 144, 3) := by decide +kernel
theorem dX7_laysParts_176 : decode cX7_laysParts 176 = .ok (.iinc 2 1, 3) := by decide +kernel
theorem dX7_laysParts_179 : decode cX7_laysParts 179 = .ok (.goto (-35), 3) := by decide +kernel
theorem dX7_laysParts_182 : decode cX7_laysParts 182 = .ok (.return_, 1) := by decide +kernel
def f_laysParts_b172 (F : Nat) (k144 : MS → Int32 → Option MS) (M : MS) (x2 : Int32) (s0 : Int32) (s1 : Int32) : Option MS := wrF M 22 (s1 + s0) fun M1 => k144 M1 (x2 + 1)
def f_laysParts_L144 (F : Nat) : Nat → MS → Int32 → Option MS
  | 0, _, _ => none
  | n144 + 1, M, x2 => (if (M.1 5) ≤ x2 then some M else rdI 100 (M.2.1 10) x2 fun t2 => (if t2 = x2 then f_laysParts_b172 F ((f_laysParts_L144 F n144)) M x2 1 (M.1 22) else f_laysParts_b172 F ((f_laysParts_L144 F n144)) M x2 0 (M.1 22)))
def f_laysParts_b127 (F : Nat) (k25 : MS → Int32 → Option MS) (k33 : MS → Int32 → Int32 → Option MS) (M : MS) (x1 : Int32) (x2 : Int32) (s0 : Int32) (s1 : Int32) : Option MS := wrI 100 M 10 s1 s0 fun M3 => k33 M3 x1 (x2 + 1)
def f_laysParts_b104 (F : Nat) (k25 : MS → Int32 → Option MS) (k33 : MS → Int32 → Int32 → Option MS) (M : MS) (x1 : Int32) (x2 : Int32) (x3 : Int32) (x4 : Int32) (s0 : Int32) (s1 : Int32) : Option MS := wrI 100 M 10 s1 s0 fun M3 => rdI 160 (M3.2.1 14) x2 fun t4 => (if x4 ≤ x3 then f_laysParts_b127 F k25 k33 M3 x1 x2 x4 t4 else f_laysParts_b127 F k25 k33 M3 x1 x2 x3 t4)
def f_laysParts_b81 (F : Nat) (k25 : MS → Int32 → Option MS) (k33 : MS → Int32 → Int32 → Option MS) (M : MS) (x2 : Int32) (x3 : Int32) (x4 : Int32) (s0 : Int32) : Option MS := rdI 160 (M.2.1 13) x2 fun t1 => (if x4 ≤ x3 then f_laysParts_b104 F k25 k33 M s0 x2 x3 x4 x4 t1 else f_laysParts_b104 F k25 k33 M s0 x2 x3 x4 x3 t1)
def f_laysParts_L33 (F : Nat) (k25 : MS → Int32 → Option MS) : Nat → MS → Int32 → Int32 → Option MS
  | 0, _, _, _ => none
  | n33 + 1, M, x1, x2 => (if (M.1 11) ≤ x2 then k25 M x1 else rdI 160 (M.2.1 13) x2 fun t2 => rdI 100 (M.2.1 10) t2 fun t5 => rdI 160 (M.2.1 14) x2 fun t8 => rdI 100 (M.2.1 10) t8 fun t11 => (if x1 = 0 then (if t5 = t11 then f_laysParts_b81 F k25 ((f_laysParts_L33 F k25 n33)) M x2 t5 t11 0 else f_laysParts_b81 F k25 ((f_laysParts_L33 F k25 n33)) M x2 t5 t11 1) else f_laysParts_b81 F k25 ((f_laysParts_L33 F k25 n33)) M x2 t5 t11 1))
def f_laysParts_L25 (F : Nat) : Nat → MS → Int32 → Option MS
  | 0, _, _ => none
  | n25 + 1, M, x1 => (if x1 = 0 then wrF M 22 0 fun M2 => f_laysParts_L144 F F M2 0 else f_laysParts_L33 F ((f_laysParts_L25 F n25)) F M 0 0)
def f_laysParts_L2 (F : Nat) : Nat → MS → Int32 → Option MS
  | 0, _, _ => none
  | n2 + 1, M, x1 => (if (M.1 5) ≤ x1 then f_laysParts_L25 F F M 1 else wrI 100 M 10 x1 x1 fun M4 => (f_laysParts_L2 F n2) M4 (x1 + 1))
def f_laysParts (F : Nat) (M : MS) : Option MS := f_laysParts_L2 F F M 0
set_option maxRecDepth 100000 in
set_option maxHeartbeats 4000000 in
theorem c_laysParts (l : Launch) (G : mG) (F : Nat) (M M2 : MS) (h : f_laysParts F M = some M2) : mMV l yX7_laysParts vX7_laysParts ({ frames := 0, cells := 0, slots := 0, locals := 0 }) G [.ref (mO G)] M M2 := by
  refine mBodyV (cc := cX7_laysParts) (maxL := 5) (ret := none) (by decide) rfl rfl ?_
  intro sz p e s m below meth c hC hP
  have hC0 := hC
  obtain ⟨hx, hb, -, hts, -, -, -, -, -, -⟩ := hC0
  have hS : va_S (mA G sz) s.heap s.heap [] := va_S.rf
  have hin : ∀ w ∈ wsX70, w ∈ vX7_laysParts := fun w h => List.mem_cons_of_mem _ (List.mem_append_right _ h)
  have fl_vertices := hts _ (List.mem_cons_of_mem _ wm_43)
  have fl_parts := hts _ (List.mem_cons_of_mem _ wm_70)
  have fl_components := hts _ (List.mem_cons_of_mem _ wm_71)
  have fl_edges := hts _ (List.mem_cons_of_mem _ wm_62)
  have fl_froms := hts _ (List.mem_cons_of_mem _ wm_64)
  have fl_tos := hts _ (List.mem_cons_of_mem _ wm_65)
  have L144 : ∀ (n144 : Nat) (H : Heap) (locs : List Loc) (ls : Array Slot) (M : MS) (x2 : Int32), va_P G.1 vwCl (mW G M) H → va_S (mA G sz) s.heap H locs → lv_has ls 5 [(0, .ref (mO G)), (2, .int x2)] → f_laysParts_L144 F n144 M x2 = some M2 → W p l e (headSpec vX7_laysParts ({ frames := 0, cells := 0, slots := 0, locals := 0 })).room s m ([.ref (mO G)] : List Value).toArray below meth c H locs 0 0 (mQV below G M2 sz ([.ref (mO G)] : List Value).toArray s) (F0 m 144 ls []) := by
    intro n144
    induction n144 with
    | zero =>
      intro H locs ls M x2 hP hS hl h
      rw [f_laysParts_L144] at h; cases h
    | succ n144 ih144 =>
      have b172 : ∀ (H : Heap) (locs : List Loc) (ls : Array Slot) (M : MS) (x2 : Int32) (s0 : Int32) (s1 : Int32), va_P G.1 vwCl (mW G M) H → va_S (mA G sz) s.heap H locs → lv_has ls 5 [(0, .ref (mO G)), (2, .int x2)] → f_laysParts_b172 F ((f_laysParts_L144 F n144)) M x2 s0 s1 = some M2 → W p l e (headSpec vX7_laysParts ({ frames := 0, cells := 0, slots := 0, locals := 0 })).room s m ([.ref (mO G)] : List Value).toArray below meth c H locs 0 0 (mQV below G M2 sz ([.ref (mO G)] : List Value).toArray s) (F0 m 172 ls [.int s0, .int s1, .ref (mO G)]) := by
        intro H locs ls M x2 s0 s1 hP hS hl h
        unfold f_laysParts_b172 at h
        refine lv_iadd hx hb dX7_laysParts_172 ?_
        obtain ⟨M1, e2, h⟩ := wrF_el h
        refine m_put hC hin hP hS 22 (by decide) fl_components rfl rfl (by decide +kernel) (mset_22 G _ _) e2 dX7_laysParts_173 (fun H locs hP hS => ?_)
        refine lv_iinc (v := x2 + 1) (lv' := [(2, .int (x2 + 1)), (0, .ref (mO G))]) hx hb dX7_laysParts_176 hl (k := 1) rfl rfl (by decide) rfl (fun ls hl => ?_)
        refine lv_goto (tgt := 144) hx hb dX7_laysParts_179 (by decide) ?_
        exact ih144 _ _ _ M1 (x2 + 1) hP hS (lv_sub hl [1, 0] rfl) h
      intro H locs ls M x2 hP hS hl h
      rw [f_laysParts_L144] at h
      refine lv_iload_n hx hb dX7_laysParts_144 rfl (lv_at hl 1 rfl) ?_
      refine lv_aload_n hx hb dX7_laysParts_145 rfl (lv_at hl 0 rfl) ?_
      refine m_get hC hin hP 5 (by decide) fl_vertices rfl (v := .int (M.1 5)) rfl dX7_laysParts_146 ?_
      refine lv_icmp_ge (tgt := 182) hx hb dX7_laysParts_149 (by decide) (fun u1 => ?_) (fun u1 => ?_)
      · have h := ite_t u1 h
        cases h
        exact m_vret hC hP hS dX7_laysParts_182
      · have h := ite_f u1 h
        refine lv_aload_n hx hb dX7_laysParts_152 rfl (lv_at hl 0 rfl) ?_
        refine lv_dup hx hb dX7_laysParts_153 rfl ?_
        refine m_get hC hin hP 22 (by decide) fl_components rfl (v := .int (M.1 22)) rfl dX7_laysParts_154 ?_
        refine lv_aload_n hx hb dX7_laysParts_157 rfl (lv_at hl 0 rfl) ?_
        refine m_get hC hin hP 10 (by decide) fl_parts rfl (v := .ref (mAd G 10)) rfl dX7_laysParts_158 ?_
        refine lv_iload_n hx hb dX7_laysParts_161 rfl (lv_at hl 1 rfl) ?_
        obtain ⟨z3, t2, e4, h⟩ := rdI_el h
        refine m_ild hC hP 9 (N := 100) rfl z3 e4 dX7_laysParts_162 ?_
        refine lv_iload_n hx hb dX7_laysParts_163 rfl (lv_at hl 1 rfl) ?_
        refine lv_icmp_ne (tgt := 171) hx hb dX7_laysParts_164 (by decide) (fun u5 => ?_) (fun u5 => ?_)
        · have h := ite_f u5 h
          refine lv_iconst (v := 0) hx hb dX7_laysParts_171 (by decide) ?_
          exact b172 _ _ _ M x2 0 (M.1 22) hP hS (lv_sub hl [0, 1] rfl) h
        · have h := ite_t u5 h
          refine lv_iconst (v := 1) hx hb dX7_laysParts_167 (by decide) ?_
          refine lv_goto (tgt := 172) hx hb dX7_laysParts_168 (by decide) ?_
          exact b172 _ _ _ M x2 1 (M.1 22) hP hS (lv_sub hl [0, 1] rfl) h
  have L25 : ∀ (n25 : Nat) (H : Heap) (locs : List Loc) (ls : Array Slot) (M : MS) (x1 : Int32), va_P G.1 vwCl (mW G M) H → va_S (mA G sz) s.heap H locs → lv_has ls 5 [(0, .ref (mO G)), (1, .int x1)] → f_laysParts_L25 F n25 M x1 = some M2 → W p l e (headSpec vX7_laysParts ({ frames := 0, cells := 0, slots := 0, locals := 0 })).room s m ([.ref (mO G)] : List Value).toArray below meth c H locs 0 0 (mQV below G M2 sz ([.ref (mO G)] : List Value).toArray s) (F0 m 25 ls []) := by
    intro n25
    induction n25 with
    | zero =>
      intro H locs ls M x1 hP hS hl h
      rw [f_laysParts_L25] at h; cases h
    | succ n25 ih25 =>
      have L33 : ∀ (n33 : Nat) (H : Heap) (locs : List Loc) (ls : Array Slot) (M : MS) (x1 : Int32) (x2 : Int32), va_P G.1 vwCl (mW G M) H → va_S (mA G sz) s.heap H locs → lv_has ls 5 [(0, .ref (mO G)), (1, .int x1), (2, .int x2)] → f_laysParts_L33 F ((f_laysParts_L25 F n25)) n33 M x1 x2 = some M2 → W p l e (headSpec vX7_laysParts ({ frames := 0, cells := 0, slots := 0, locals := 0 })).room s m ([.ref (mO G)] : List Value).toArray below meth c H locs 0 0 (mQV below G M2 sz ([.ref (mO G)] : List Value).toArray s) (F0 m 33 ls []) := by
        intro n33
        induction n33 with
        | zero =>
          intro H locs ls M x1 x2 hP hS hl h
          rw [f_laysParts_L33] at h; cases h
        | succ n33 ih33 =>
          have b127 : ∀ (H : Heap) (locs : List Loc) (ls : Array Slot) (M : MS) (x1 : Int32) (x2 : Int32) (s0 : Int32) (s1 : Int32), va_P G.1 vwCl (mW G M) H → va_S (mA G sz) s.heap H locs → lv_has ls 5 [(0, .ref (mO G)), (1, .int x1), (2, .int x2)] → f_laysParts_b127 F ((f_laysParts_L25 F n25)) ((f_laysParts_L33 F ((f_laysParts_L25 F n25)) n33)) M x1 x2 s0 s1 = some M2 → W p l e (headSpec vX7_laysParts ({ frames := 0, cells := 0, slots := 0, locals := 0 })).room s m ([.ref (mO G)] : List Value).toArray below meth c H locs 0 0 (mQV below G M2 sz ([.ref (mO G)] : List Value).toArray s) (F0 m 127 ls [.int s0, .int s1, .ref (mAd G 10)]) := by
            intro H locs ls M x1 x2 s0 s1 hP hS hl h
            unfold f_laysParts_b127 at h
            obtain ⟨z1, M3, e2, h⟩ := wrI_el h
            refine m_ist hC hP hS 9 (N := 100) rfl z1 (maset_10 G) e2 dX7_laysParts_127 (fun H locs hP hS => ?_)
            refine lv_iinc (v := x2 + 1) (lv' := [(2, .int (x2 + 1)), (0, .ref (mO G)), (1, .int x1)]) hx hb dX7_laysParts_128 hl (k := 2) rfl rfl (by decide) rfl (fun ls hl => ?_)
            refine lv_goto (tgt := 33) hx hb dX7_laysParts_131 (by decide) ?_
            exact ih33 _ _ _ M3 x1 (x2 + 1) hP hS (lv_sub hl [1, 2, 0] rfl) h
          have b104 : ∀ (H : Heap) (locs : List Loc) (ls : Array Slot) (M : MS) (x1 : Int32) (x2 : Int32) (x3 : Int32) (x4 : Int32) (s0 : Int32) (s1 : Int32), va_P G.1 vwCl (mW G M) H → va_S (mA G sz) s.heap H locs → lv_has ls 5 [(0, .ref (mO G)), (1, .int x1), (2, .int x2), (3, .int x3), (4, .int x4)] → f_laysParts_b104 F ((f_laysParts_L25 F n25)) ((f_laysParts_L33 F ((f_laysParts_L25 F n25)) n33)) M x1 x2 x3 x4 s0 s1 = some M2 → W p l e (headSpec vX7_laysParts ({ frames := 0, cells := 0, slots := 0, locals := 0 })).room s m ([.ref (mO G)] : List Value).toArray below meth c H locs 0 0 (mQV below G M2 sz ([.ref (mO G)] : List Value).toArray s) (F0 m 104 ls [.int s0, .int s1, .ref (mAd G 10)]) := by
            intro H locs ls M x1 x2 x3 x4 s0 s1 hP hS hl h
            unfold f_laysParts_b104 at h
            obtain ⟨z1, M3, e2, h⟩ := wrI_el h
            refine m_ist hC hP hS 9 (N := 100) rfl z1 (maset_10 G) e2 dX7_laysParts_104 (fun H locs hP hS => ?_)
            refine lv_aload_n hx hb dX7_laysParts_105 rfl (lv_at hl 0 rfl) ?_
            refine m_get hC hin hP 10 (by decide) fl_parts rfl (v := .ref (mAd G 10)) rfl dX7_laysParts_106 ?_
            refine lv_aload_n hx hb dX7_laysParts_109 rfl (lv_at hl 0 rfl) ?_
            refine m_get hC hin hP 14 (by decide) fl_tos rfl (v := .ref (mAd G 14)) rfl dX7_laysParts_110 ?_
            refine lv_iload_n hx hb dX7_laysParts_113 rfl (lv_at hl 2 rfl) ?_
            obtain ⟨z5, t4, e6, h⟩ := rdI_el h
            refine m_ild hC hP 12 (N := 160) rfl z5 e6 dX7_laysParts_114 ?_
            refine lv_iload_n hx hb dX7_laysParts_115 rfl (lv_at hl 3 rfl) ?_
            refine lv_iload hx hb dX7_laysParts_116 (lv_at hl 4 rfl) ?_
            refine lv_icmp_ge (tgt := 125) hx hb dX7_laysParts_118 (by decide) (fun u7 => ?_) (fun u7 => ?_)
            · have h := ite_t u7 h
              refine lv_iload hx hb dX7_laysParts_125 (lv_at hl 4 rfl) ?_
              exact b127 _ _ _ M3 x1 x2 x4 t4 hP hS (lv_sub hl [0, 1, 2] rfl) h
            · have h := ite_f u7 h
              refine lv_iload_n hx hb dX7_laysParts_121 rfl (lv_at hl 3 rfl) ?_
              refine lv_goto (tgt := 127) hx hb dX7_laysParts_122 (by decide) ?_
              exact b127 _ _ _ M3 x1 x2 x3 t4 hP hS (lv_sub hl [0, 1, 2] rfl) h
          have b81 : ∀ (H : Heap) (locs : List Loc) (ls : Array Slot) (M : MS) (x2 : Int32) (x3 : Int32) (x4 : Int32) (s0 : Int32), va_P G.1 vwCl (mW G M) H → va_S (mA G sz) s.heap H locs → lv_has ls 5 [(0, .ref (mO G)), (2, .int x2), (3, .int x3), (4, .int x4)] → f_laysParts_b81 F ((f_laysParts_L25 F n25)) ((f_laysParts_L33 F ((f_laysParts_L25 F n25)) n33)) M x2 x3 x4 s0 = some M2 → W p l e (headSpec vX7_laysParts ({ frames := 0, cells := 0, slots := 0, locals := 0 })).room s m ([.ref (mO G)] : List Value).toArray below meth c H locs 0 0 (mQV below G M2 sz ([.ref (mO G)] : List Value).toArray s) (F0 m 81 ls [.int s0]) := by
            intro H locs ls M x2 x3 x4 s0 hP hS hl h
            unfold f_laysParts_b81 at h
            refine lv_istore_n (lv' := [(1, .int s0), (0, .ref (mO G)), (2, .int x2), (3, .int x3), (4, .int x4)]) hx hb dX7_laysParts_81 rfl hl (by decide) rfl (fun ls hl => ?_)
            refine lv_aload_n hx hb dX7_laysParts_82 rfl (lv_at hl 1 rfl) ?_
            refine m_get hC hin hP 10 (by decide) fl_parts rfl (v := .ref (mAd G 10)) rfl dX7_laysParts_83 ?_
            refine lv_aload_n hx hb dX7_laysParts_86 rfl (lv_at hl 1 rfl) ?_
            refine m_get hC hin hP 13 (by decide) fl_froms rfl (v := .ref (mAd G 13)) rfl dX7_laysParts_87 ?_
            refine lv_iload_n hx hb dX7_laysParts_90 rfl (lv_at hl 2 rfl) ?_
            obtain ⟨z2, t1, e3, h⟩ := rdI_el h
            refine m_ild hC hP 11 (N := 160) rfl z2 e3 dX7_laysParts_91 ?_
            refine lv_iload_n hx hb dX7_laysParts_92 rfl (lv_at hl 3 rfl) ?_
            refine lv_iload hx hb dX7_laysParts_93 (lv_at hl 4 rfl) ?_
            refine lv_icmp_ge (tgt := 102) hx hb dX7_laysParts_95 (by decide) (fun u4 => ?_) (fun u4 => ?_)
            · have h := ite_t u4 h
              refine lv_iload hx hb dX7_laysParts_102 (lv_at hl 4 rfl) ?_
              exact b104 _ _ _ M s0 x2 x3 x4 x4 t1 hP hS (lv_sub hl [1, 0, 2, 3, 4] rfl) h
            · have h := ite_f u4 h
              refine lv_iload_n hx hb dX7_laysParts_98 rfl (lv_at hl 3 rfl) ?_
              refine lv_goto (tgt := 104) hx hb dX7_laysParts_99 (by decide) ?_
              exact b104 _ _ _ M s0 x2 x3 x4 x3 t1 hP hS (lv_sub hl [1, 0, 2, 3, 4] rfl) h
          intro H locs ls M x1 x2 hP hS hl h
          rw [f_laysParts_L33] at h
          refine lv_iload_n hx hb dX7_laysParts_33 rfl (lv_at hl 2 rfl) ?_
          refine lv_aload_n hx hb dX7_laysParts_34 rfl (lv_at hl 0 rfl) ?_
          refine m_get hC hin hP 11 (by decide) fl_edges rfl (v := .int (M.1 11)) rfl dX7_laysParts_35 ?_
          refine lv_icmp_ge (tgt := 134) hx hb dX7_laysParts_38 (by decide) (fun u1 => ?_) (fun u1 => ?_)
          · have h := ite_t u1 h
            refine lv_goto (tgt := 25) hx hb dX7_laysParts_134 (by decide) ?_
            exact ih25 _ _ _ M x1 hP hS (lv_sub hl [0, 1] rfl) h
          · have h := ite_f u1 h
            refine lv_aload_n hx hb dX7_laysParts_41 rfl (lv_at hl 0 rfl) ?_
            refine m_get hC hin hP 10 (by decide) fl_parts rfl (v := .ref (mAd G 10)) rfl dX7_laysParts_42 ?_
            refine lv_aload_n hx hb dX7_laysParts_45 rfl (lv_at hl 0 rfl) ?_
            refine m_get hC hin hP 13 (by decide) fl_froms rfl (v := .ref (mAd G 13)) rfl dX7_laysParts_46 ?_
            refine lv_iload_n hx hb dX7_laysParts_49 rfl (lv_at hl 2 rfl) ?_
            obtain ⟨z3, t2, e4, h⟩ := rdI_el h
            refine m_ild hC hP 11 (N := 160) rfl z3 e4 dX7_laysParts_50 ?_
            obtain ⟨z6, t5, e7, h⟩ := rdI_el h
            refine m_ild hC hP 9 (N := 100) rfl z6 e7 dX7_laysParts_51 ?_
            refine lv_istore_n (lv' := [(3, .int t5), (0, .ref (mO G)), (1, .int x1), (2, .int x2)]) hx hb dX7_laysParts_52 rfl hl (by decide) rfl (fun ls hl => ?_)
            refine lv_aload_n hx hb dX7_laysParts_53 rfl (lv_at hl 1 rfl) ?_
            refine m_get hC hin hP 10 (by decide) fl_parts rfl (v := .ref (mAd G 10)) rfl dX7_laysParts_54 ?_
            refine lv_aload_n hx hb dX7_laysParts_57 rfl (lv_at hl 1 rfl) ?_
            refine m_get hC hin hP 14 (by decide) fl_tos rfl (v := .ref (mAd G 14)) rfl dX7_laysParts_58 ?_
            refine lv_iload_n hx hb dX7_laysParts_61 rfl (lv_at hl 3 rfl) ?_
            obtain ⟨z9, t8, e10, h⟩ := rdI_el h
            refine m_ild hC hP 12 (N := 160) rfl z9 e10 dX7_laysParts_62 ?_
            obtain ⟨z12, t11, e13, h⟩ := rdI_el h
            refine m_ild hC hP 9 (N := 100) rfl z12 e13 dX7_laysParts_63 ?_
            refine lv_istore (lv' := [(4, .int t11), (3, .int t5), (0, .ref (mO G)), (1, .int x1), (2, .int x2)]) hx hb dX7_laysParts_64 hl (by decide) rfl (fun ls hl => ?_)
            refine lv_iload_n hx hb dX7_laysParts_66 rfl (lv_at hl 3 rfl) ?_
            refine lv_if_ne (tgt := 76) hx hb dX7_laysParts_67 (by decide) (fun u14 => ?_) (fun u14 => ?_)
            · have h := ite_f u14 h
              refine lv_iconst (v := 1) hx hb dX7_laysParts_76 (by decide) ?_
              refine lv_goto (tgt := 81) hx hb dX7_laysParts_77 (by decide) ?_
              exact b81 _ _ _ M x2 t5 t11 1 hP hS (lv_sub hl [2, 4, 1, 0] rfl) h
            · have h := ite_t u14 h
              refine lv_iload_n hx hb dX7_laysParts_70 rfl (lv_at hl 1 rfl) ?_
              refine lv_iload hx hb dX7_laysParts_71 (lv_at hl 0 rfl) ?_
              refine lv_icmp_eq (tgt := 80) hx hb dX7_laysParts_73 (by decide) (fun u15 => ?_) (fun u15 => ?_)
              · have h := ite_t u15 h
                refine lv_iconst (v := 0) hx hb dX7_laysParts_80 (by decide) ?_
                exact b81 _ _ _ M x2 t5 t11 0 hP hS (lv_sub hl [2, 4, 1, 0] rfl) h
              · have h := ite_f u15 h
                refine lv_iconst (v := 1) hx hb dX7_laysParts_76 (by decide) ?_
                refine lv_goto (tgt := 81) hx hb dX7_laysParts_77 (by decide) ?_
                exact b81 _ _ _ M x2 t5 t11 1 hP hS (lv_sub hl [2, 4, 1, 0] rfl) h
      intro H locs ls M x1 hP hS hl h
      rw [f_laysParts_L25] at h
      refine lv_iload_n hx hb dX7_laysParts_25 rfl (lv_at hl 1 rfl) ?_
      refine lv_if_eq (tgt := 137) hx hb dX7_laysParts_26 (by decide) (fun u1 => ?_) (fun u1 => ?_)
      · have h := ite_t u1 h
        refine lv_aload_n hx hb dX7_laysParts_137 rfl (lv_at hl 0 rfl) ?_
        refine lv_iconst (v := 0) hx hb dX7_laysParts_138 (by decide) ?_
        obtain ⟨M2, e3, h⟩ := wrF_el h
        refine m_put hC hin hP hS 22 (by decide) fl_components rfl rfl (by decide +kernel) (mset_22 G _ _) e3 dX7_laysParts_139 (fun H locs hP hS => ?_)
        refine lv_iconst (v := 0) hx hb dX7_laysParts_142 (by decide) ?_
        refine lv_istore_n (lv' := [(2, .int 0), (0, .ref (mO G)), (1, .int x1)]) hx hb dX7_laysParts_143 rfl hl (by decide) rfl (fun ls hl => ?_)
        exact L144 F _ _ _ M2 0 hP hS (lv_sub hl [1, 0] rfl) h
      · have h := ite_f u1 h
        refine lv_iconst (v := 0) hx hb dX7_laysParts_29 (by decide) ?_
        refine lv_istore_n (lv' := [(1, .int 0), (0, .ref (mO G))]) hx hb dX7_laysParts_30 rfl hl (by decide) rfl (fun ls hl => ?_)
        refine lv_iconst (v := 0) hx hb dX7_laysParts_31 (by decide) ?_
        refine lv_istore_n (lv' := [(2, .int 0), (1, .int 0), (0, .ref (mO G))]) hx hb dX7_laysParts_32 rfl hl (by decide) rfl (fun ls hl => ?_)
        exact L33 F _ _ _ M 0 0 hP hS (lv_sub hl [2, 1, 0] rfl) h
  have L2 : ∀ (n2 : Nat) (H : Heap) (locs : List Loc) (ls : Array Slot) (M : MS) (x1 : Int32), va_P G.1 vwCl (mW G M) H → va_S (mA G sz) s.heap H locs → lv_has ls 5 [(0, .ref (mO G)), (1, .int x1)] → f_laysParts_L2 F n2 M x1 = some M2 → W p l e (headSpec vX7_laysParts ({ frames := 0, cells := 0, slots := 0, locals := 0 })).room s m ([.ref (mO G)] : List Value).toArray below meth c H locs 0 0 (mQV below G M2 sz ([.ref (mO G)] : List Value).toArray s) (F0 m 2 ls []) := by
    intro n2
    induction n2 with
    | zero =>
      intro H locs ls M x1 hP hS hl h
      rw [f_laysParts_L2] at h; cases h
    | succ n2 ih2 =>
      intro H locs ls M x1 hP hS hl h
      rw [f_laysParts_L2] at h
      refine lv_iload_n hx hb dX7_laysParts_2 rfl (lv_at hl 1 rfl) ?_
      refine lv_aload_n hx hb dX7_laysParts_3 rfl (lv_at hl 0 rfl) ?_
      refine m_get hC hin hP 5 (by decide) fl_vertices rfl (v := .int (M.1 5)) rfl dX7_laysParts_4 ?_
      refine lv_icmp_ge (tgt := 23) hx hb dX7_laysParts_7 (by decide) (fun u1 => ?_) (fun u1 => ?_)
      · have h := ite_t u1 h
        refine lv_iconst (v := 1) hx hb dX7_laysParts_23 (by decide) ?_
        refine lv_istore_n (lv' := [(1, .int 1), (0, .ref (mO G))]) hx hb dX7_laysParts_24 rfl hl (by decide) rfl (fun ls hl => ?_)
        exact L25 F _ _ _ M 1 hP hS (lv_sub hl [1, 0] rfl) h
      · have h := ite_f u1 h
        refine lv_aload_n hx hb dX7_laysParts_10 rfl (lv_at hl 0 rfl) ?_
        refine m_get hC hin hP 10 (by decide) fl_parts rfl (v := .ref (mAd G 10)) rfl dX7_laysParts_11 ?_
        refine lv_iload_n hx hb dX7_laysParts_14 rfl (lv_at hl 1 rfl) ?_
        refine lv_iload_n hx hb dX7_laysParts_15 rfl (lv_at hl 1 rfl) ?_
        obtain ⟨z2, M4, e3, h⟩ := wrI_el h
        refine m_ist hC hP hS 9 (N := 100) rfl z2 (maset_10 G) e3 dX7_laysParts_16 (fun H locs hP hS => ?_)
        refine lv_iinc (v := x1 + 1) (lv' := [(1, .int (x1 + 1)), (0, .ref (mO G))]) hx hb dX7_laysParts_17 hl (k := 1) rfl rfl (by decide) rfl (fun ls hl => ?_)
        refine lv_goto (tgt := 2) hx hb dX7_laysParts_20 (by decide) ?_
        exact ih2 _ _ _ M4 (x1 + 1) hP hS (lv_sub hl [1, 0] rfl) h
  refine m_entry (Nat.le_of_ble_eq_true rfl) (fun ls hl => ?_)
  have hl : lv_has ls 5 [(0, .ref (mO G))] := hl
  unfold f_laysParts at h
  refine lv_iconst (v := 0) hx hb dX7_laysParts_0 (by decide) ?_
  refine lv_istore_n (lv' := [(1, .int 0), (0, .ref (mO G))]) hx hb dX7_laysParts_1 rfl hl (by decide) rfl (fun ls hl => ?_)
  exact L2 F _ _ _ M 0 hP hS (lv_sub hl [1, 0] rfl) h

theorem dX7_begin_0 : decode cX7_begin 0 = .ok (.iload_n 1, 1) := by decide +kernel
theorem dX7_begin_1 : decode cX7_begin 1 = .ok (.iconst 2, 1) := by decide +kernel
theorem dX7_begin_2 : decode cX7_begin 2 = .ok (.irem, 1) := by decide +kernel
theorem dX7_begin_3 : decode cX7_begin 3 = .ok (.ifCond .ne 14, 3) := by decide +kernel
theorem dX7_begin_6 : decode cX7_begin 6 = .ok (.aload_n 0, 1) := by decide +kernel
theorem dX7_begin_7 : decode cX7_begin 7 = .ok (.getfield 41, 3) := by decide +kernel
theorem dX7_begin_10 : decode cX7_begin 10 = .ok (.iload_n 1, 1) := by decide +kernel
theorem dX7_begin_11 : decode cX7_begin 11 = .ok (.iconst 2, 1) := by decide +kernel
theorem dX7_begin_12 : decode cX7_begin 12 = .ok (.idiv, 1) := by decide +kernel
theorem dX7_begin_13 : decode cX7_begin 13 = .ok (.iaload, 1) := by decide +kernel
theorem dX7_begin_14 : decode cX7_begin 14 = .ok (.goto 11, 3) := by decide +kernel
theorem dX7_begin_17 : decode cX7_begin 17 = .ok (.aload_n 0, 1) := by decide +kernel
theorem dX7_begin_18 : decode cX7_begin 18 = .ok (.getfield 44, 3) := by decide +kernel
theorem dX7_begin_21 : decode cX7_begin 21 = .ok (.iload_n 1, 1) := by decide +kernel
theorem dX7_begin_22 : decode cX7_begin 22 = .ok (.iconst 2, 1) := by decide +kernel
theorem dX7_begin_23 : decode cX7_begin 23 = .ok (.idiv, 1) := by decide +kernel
theorem dX7_begin_24 : decode cX7_begin 24 = .ok (.iaload, 1) := by decide +kernel
theorem dX7_begin_25 : decode cX7_begin 25 = .ok (.ireturn, 1) := by decide +kernel
def f_begin (F : Nat) (M : MS) (a1 : Int32) : Option Int32 := (if (a1 - a1 / 2 * 2) = 0 then rdI 160 (M.2.1 13) (a1 / 2) fun t5 => some t5 else rdI 160 (M.2.1 14) (a1 / 2) fun t2 => some t2)
set_option maxRecDepth 100000 in
set_option maxHeartbeats 4000000 in
theorem c_begin (l : Launch) (G : mG) (F : Nat) (M : MS) (a1 : Int32) (r : Int32) (h : f_begin F M a1 = some r) : mMI l yX7_begin vX7_begin ({ frames := 0, cells := 0, slots := 0, locals := 0 }) G [.ref (mO G), .int a1] M M r := by
  refine mBodyI (cc := cX7_begin) (maxL := 2) (ret := (some .int)) (by decide) rfl rfl ?_
  intro sz p e s m below meth c hC hP
  have hC0 := hC
  obtain ⟨hx, hb, -, hts, -, -, -, -, -, -⟩ := hC0
  have hS : va_S (mA G sz) s.heap s.heap [] := va_S.rf
  have hin : ∀ w ∈ wsX70, w ∈ vX7_begin := fun w h => List.mem_cons_of_mem _ (List.mem_append_right _ h)
  have fl_tos := hts _ (List.mem_cons_of_mem _ wm_65)
  have fl_froms := hts _ (List.mem_cons_of_mem _ wm_64)
  refine m_entry (Nat.le_of_ble_eq_true rfl) (fun ls hl => ?_)
  have hl : lv_has ls 2 [(0, .ref (mO G)), (1, .int a1)] := hl
  unfold f_begin at h
  refine lv_iload_n hx hb dX7_begin_0 rfl (lv_at hl 1 rfl) ?_
  refine lv_iconst (v := 2) hx hb dX7_begin_1 (by decide) ?_
  refine lv_irem hx hb dX7_begin_2 (by decide) ?_
  refine lv_if_ne (tgt := 17) hx hb dX7_begin_3 (by decide) (fun u1 => ?_) (fun u1 => ?_)
  · have h := ite_f u1 h
    refine lv_aload_n hx hb dX7_begin_17 rfl (lv_at hl 0 rfl) ?_
    refine m_get hC hin hP 14 (by decide) fl_tos rfl (v := .ref (mAd G 14)) rfl dX7_begin_18 ?_
    refine lv_iload_n hx hb dX7_begin_21 rfl (lv_at hl 1 rfl) ?_
    refine lv_iconst (v := 2) hx hb dX7_begin_22 (by decide) ?_
    refine lv_idiv hx hb dX7_begin_23 (by decide) ?_
    obtain ⟨z3, t2, e4, h⟩ := rdI_el h
    refine m_ild hC hP 12 (N := 160) rfl z3 e4 dX7_begin_24 ?_
    cases h
    exact m_iret hC hP hS rfl dX7_begin_25
  · have h := ite_t u1 h
    refine lv_aload_n hx hb dX7_begin_6 rfl (lv_at hl 0 rfl) ?_
    refine m_get hC hin hP 13 (by decide) fl_froms rfl (v := .ref (mAd G 13)) rfl dX7_begin_7 ?_
    refine lv_iload_n hx hb dX7_begin_10 rfl (lv_at hl 1 rfl) ?_
    refine lv_iconst (v := 2) hx hb dX7_begin_11 (by decide) ?_
    refine lv_idiv hx hb dX7_begin_12 (by decide) ?_
    obtain ⟨z6, t5, e7, h⟩ := rdI_el h
    refine m_ild hC hP 11 (N := 160) rfl z6 e7 dX7_begin_13 ?_
    refine lv_goto (tgt := 25) hx hb dX7_begin_14 (by decide) ?_
    cases h
    exact m_iret hC hP hS rfl dX7_begin_25

theorem dX7_wayCross_0 : decode cX7_wayCross 0 = .ok (.aload_n 0, 1) := by decide +kernel
theorem dX7_wayCross_1 : decode cX7_wayCross 1 = .ok (.aload_n 0, 1) := by decide +kernel
theorem dX7_wayCross_2 : decode cX7_wayCross 2 = .ok (.getfield 38, 3) := by decide +kernel
theorem dX7_wayCross_5 : decode cX7_wayCross 5 = .ok (.iload_n 1, 1) := by decide +kernel
theorem dX7_wayCross_6 : decode cX7_wayCross 6 = .ok (.iconst 2, 1) := by decide +kernel
theorem dX7_wayCross_7 : decode cX7_wayCross 7 = .ok (.idiv, 1) := by decide +kernel
theorem dX7_wayCross_8 : decode cX7_wayCross 8 = .ok (.iaload, 1) := by decide +kernel
theorem dX7_wayCross_9 : decode cX7_wayCross 9 = .ok (.aload_n 0, 1) := by decide +kernel
theorem dX7_wayCross_10 : decode cX7_wayCross 10 = .ok (.getfield 38, 3) := by decide +kernel
theorem dX7_wayCross_13 : decode cX7_wayCross 13 = .ok (.iload_n 2, 1) := by decide +kernel
theorem dX7_wayCross_14 : decode cX7_wayCross 14 = .ok (.iconst 2, 1) := by decide +kernel
theorem dX7_wayCross_15 : decode cX7_wayCross 15 = .ok (.idiv, 1) := by decide +kernel
theorem dX7_wayCross_16 : decode cX7_wayCross 16 = .ok (.iaload, 1) := by decide +kernel
theorem dX7_wayCross_17 : decode cX7_wayCross 17 = .ok (.invokevirtual 85, 3) := by decide +kernel
theorem dX7_wayCross_20 : decode cX7_wayCross 20 = .ok (.istore_n 3, 1) := by decide +kernel
theorem dX7_wayCross_21 : decode cX7_wayCross 21 = .ok (.iload_n 1, 1) := by decide +kernel
theorem dX7_wayCross_22 : decode cX7_wayCross 22 = .ok (.iconst 2, 1) := by decide +kernel
theorem dX7_wayCross_23 : decode cX7_wayCross 23 = .ok (.irem, 1) := by decide +kernel
theorem dX7_wayCross_24 : decode cX7_wayCross 24 = .ok (.iload_n 2, 1) := by decide +kernel
theorem dX7_wayCross_25 : decode cX7_wayCross 25 = .ok (.iconst 2, 1) := by decide +kernel
theorem dX7_wayCross_26 : decode cX7_wayCross 26 = .ok (.irem, 1) := by decide +kernel
theorem dX7_wayCross_27 : decode cX7_wayCross 27 = .ok (.if_icmp .ne 7, 3) := by decide +kernel
theorem dX7_wayCross_30 : decode cX7_wayCross 30 = .ok (.iload_n 3, 1) := by decide +kernel
theorem dX7_wayCross_31 : decode cX7_wayCross 31 = .ok (.goto 5, 3) := by decide +kernel
theorem dX7_wayCross_34 : decode cX7_wayCross 34 = .ok (.iload_n 3, 1) := by decide +kernel
theorem dX7_wayCross_35 : decode cX7_wayCross 35 = .ok (.ineg, 1) := by decide +kernel
theorem dX7_wayCross_36 : decode cX7_wayCross 36 = .ok (.ireturn, 1) := by decide +kernel
def f_wayCross (F : Nat) (M : MS) (a1 : Int32) (a2 : Int32) : Option Int32 := rdI 160 (M.2.1 12) (a1 / 2) fun t1 => rdI 160 (M.2.1 12) (a2 / 2) fun t4 => cal (f_cross F M t1 t4) fun t8 => (if (a1 - a1 / 2 * 2) = (a2 - a2 / 2 * 2) then some t8 else some (-t8))
set_option maxRecDepth 100000 in
set_option maxHeartbeats 4000000 in
theorem c_wayCross (l : Launch) (G : mG) (F : Nat) (M : MS) (a1 : Int32) (a2 : Int32) (r : Int32) (h : f_wayCross F M a1 a2 = some r) : mMI l yX7_wayCross vX7_wayCross ({ frames := 2, cells := 0, slots := 0, locals := 43 }) G [.ref (mO G), .int a1, .int a2] M M r := by
  refine mBodyI (cc := cX7_wayCross) (maxL := 4) (ret := (some .int)) (by decide) rfl rfl ?_
  intro sz p e s m below meth c hC hP
  have hC0 := hC
  obtain ⟨hx, hb, -, hts, -, -, -, -, -, -⟩ := hC0
  have hS : va_S (mA G sz) s.heap s.heap [] := va_S.rf
  have hin : ∀ w ∈ wsX70, w ∈ vX7_wayCross := fun w h => List.mem_cons_of_mem _ (List.mem_append_right _ h)
  have fl_ofs := hts _ (List.mem_cons_of_mem _ wm_63)
  refine m_entry (Nat.le_of_ble_eq_true rfl) (fun ls hl => ?_)
  have hl : lv_has ls 4 [(0, .ref (mO G)), (1, .int a1), (2, .int a2)] := hl
  unfold f_wayCross at h
  refine lv_aload_n hx hb dX7_wayCross_0 rfl (lv_at hl 0 rfl) ?_
  refine lv_aload_n hx hb dX7_wayCross_1 rfl (lv_at hl 0 rfl) ?_
  refine m_get hC hin hP 12 (by decide) fl_ofs rfl (v := .ref (mAd G 12)) rfl dX7_wayCross_2 ?_
  refine lv_iload_n hx hb dX7_wayCross_5 rfl (lv_at hl 1 rfl) ?_
  refine lv_iconst (v := 2) hx hb dX7_wayCross_6 (by decide) ?_
  refine lv_idiv hx hb dX7_wayCross_7 (by decide) ?_
  obtain ⟨z2, t1, e3, h⟩ := rdI_el h
  refine m_ild hC hP 10 (N := 160) rfl z2 e3 dX7_wayCross_8 ?_
  refine lv_aload_n hx hb dX7_wayCross_9 rfl (lv_at hl 0 rfl) ?_
  refine m_get hC hin hP 12 (by decide) fl_ofs rfl (v := .ref (mAd G 12)) rfl dX7_wayCross_10 ?_
  refine lv_iload_n hx hb dX7_wayCross_13 rfl (lv_at hl 2 rfl) ?_
  refine lv_iconst (v := 2) hx hb dX7_wayCross_14 (by decide) ?_
  refine lv_idiv hx hb dX7_wayCross_15 (by decide) ?_
  obtain ⟨z5, t4, e6, h⟩ := rdI_el h
  refine m_ild hC hP 10 (N := 160) rfl z5 e6 dX7_wayCross_16 ?_
  obtain ⟨t8, e7, h⟩ := cal_el h
  refine m_VI (As := [.int t1, .int t4]) (rest := []) hC hP hS (c_cross l G F M t1 t4 t8 e7) (cwV 2 hts (gWM wm_28 wm_29 wm_30 wm_7 wm_14) rfl rfl rfl (by decide +kernel) ⟨Nat.le_of_ble_eq_true rfl, Nat.le_of_ble_eq_true rfl⟩) rfl hl.1 rfl (Nat.le_of_ble_eq_true rfl) dX7_wayCross_17 (fun H locs hP hS => ?_)
  refine lv_istore_n (lv' := [(3, .int t8), (0, .ref (mO G)), (1, .int a1), (2, .int a2)]) hx hb dX7_wayCross_20 rfl hl (by decide) rfl (fun ls hl => ?_)
  refine lv_iload_n hx hb dX7_wayCross_21 rfl (lv_at hl 2 rfl) ?_
  refine lv_iconst (v := 2) hx hb dX7_wayCross_22 (by decide) ?_
  refine lv_irem hx hb dX7_wayCross_23 (by decide) ?_
  refine lv_iload_n hx hb dX7_wayCross_24 rfl (lv_at hl 3 rfl) ?_
  refine lv_iconst (v := 2) hx hb dX7_wayCross_25 (by decide) ?_
  refine lv_irem hx hb dX7_wayCross_26 (by decide) ?_
  refine lv_icmp_ne (tgt := 34) hx hb dX7_wayCross_27 (by decide) (fun u9 => ?_) (fun u9 => ?_)
  · have h := ite_f u9 h
    refine lv_iload_n hx hb dX7_wayCross_34 rfl (lv_at hl 0 rfl) ?_
    refine lv_ineg hx hb dX7_wayCross_35 ?_
    cases h
    exact m_iret hC hP hS rfl dX7_wayCross_36
  · have h := ite_t u9 h
    refine lv_iload_n hx hb dX7_wayCross_30 rfl (lv_at hl 0 rfl) ?_
    refine lv_goto (tgt := 36) hx hb dX7_wayCross_31 (by decide) ?_
    cases h
    exact m_iret hC hP hS rfl dX7_wayCross_36

theorem dX7_back_0 : decode cX7_back 0 = .ok (.iload_n 0, 1) := by decide +kernel
theorem dX7_back_1 : decode cX7_back 1 = .ok (.iconst 2, 1) := by decide +kernel
theorem dX7_back_2 : decode cX7_back 2 = .ok (.irem, 1) := by decide +kernel
theorem dX7_back_3 : decode cX7_back 3 = .ok (.ifCond .ne 9, 3) := by decide +kernel
theorem dX7_back_6 : decode cX7_back 6 = .ok (.iload_n 0, 1) := by decide +kernel
theorem dX7_back_7 : decode cX7_back 7 = .ok (.iconst 1, 1) := by decide +kernel
theorem dX7_back_8 : decode cX7_back 8 = .ok (.iadd, 1) := by decide +kernel
theorem dX7_back_9 : decode cX7_back 9 = .ok (.goto 6, 3) := by decide +kernel
theorem dX7_back_12 : decode cX7_back 12 = .ok (.iload_n 0, 1) := by decide +kernel
theorem dX7_back_13 : decode cX7_back 13 = .ok (.iconst 1, 1) := by decide +kernel
theorem dX7_back_14 : decode cX7_back 14 = .ok (.isub, 1) := by decide +kernel
theorem dX7_back_15 : decode cX7_back 15 = .ok (.ireturn, 1) := by decide +kernel
def f_back (F : Nat) (M : MS) (a1 : Int32) : Option Int32 := (if (a1 - a1 / 2 * 2) = 0 then some (a1 + 1) else some (a1 - 1))
set_option maxRecDepth 100000 in
set_option maxHeartbeats 4000000 in
theorem c_back (l : Launch) (G : mG) (F : Nat) (M : MS) (a1 : Int32) (r : Int32) (h : f_back F M a1 = some r) : mMI l yX7_back vX7_back ({ frames := 0, cells := 0, slots := 0, locals := 0 }) G [.int a1] M M r := by
  refine mBodyI (cc := cX7_back) (maxL := 1) (ret := (some .int)) (by decide) rfl rfl ?_
  intro sz p e s m below meth c hC hP
  have hC0 := hC
  obtain ⟨hx, hb, -, hts, -, -, -, -, -, -⟩ := hC0
  have hS : va_S (mA G sz) s.heap s.heap [] := va_S.rf
  refine m_entry (Nat.le_of_ble_eq_true rfl) (fun ls hl => ?_)
  have hl : lv_has ls 1 [(0, .int a1)] := hl
  unfold f_back at h
  refine lv_iload_n hx hb dX7_back_0 rfl (lv_at hl 0 rfl) ?_
  refine lv_iconst (v := 2) hx hb dX7_back_1 (by decide) ?_
  refine lv_irem hx hb dX7_back_2 (by decide) ?_
  refine lv_if_ne (tgt := 12) hx hb dX7_back_3 (by decide) (fun u1 => ?_) (fun u1 => ?_)
  · have h := ite_f u1 h
    refine lv_iload_n hx hb dX7_back_12 rfl (lv_at hl 0 rfl) ?_
    refine lv_iconst (v := 1) hx hb dX7_back_13 (by decide) ?_
    refine lv_isub hx hb dX7_back_14 ?_
    cases h
    exact m_iret hC hP hS rfl dX7_back_15
  · have h := ite_t u1 h
    refine lv_iload_n hx hb dX7_back_6 rfl (lv_at hl 0 rfl) ?_
    refine lv_iconst (v := 1) hx hb dX7_back_7 (by decide) ?_
    refine lv_iadd hx hb dX7_back_8 ?_
    refine lv_goto (tgt := 15) hx hb dX7_back_9 (by decide) ?_
    cases h
    exact m_iret hC hP hS rfl dX7_back_15

theorem dX7_wayDot_0 : decode cX7_wayDot 0 = .ok (.aload_n 0, 1) := by decide +kernel
theorem dX7_wayDot_1 : decode cX7_wayDot 1 = .ok (.getfield 38, 3) := by decide +kernel
theorem dX7_wayDot_4 : decode cX7_wayDot 4 = .ok (.iload_n 1, 1) := by decide +kernel
theorem dX7_wayDot_5 : decode cX7_wayDot 5 = .ok (.iconst 2, 1) := by decide +kernel
theorem dX7_wayDot_6 : decode cX7_wayDot 6 = .ok (.idiv, 1) := by decide +kernel
theorem dX7_wayDot_7 : decode cX7_wayDot 7 = .ok (.iaload, 1) := by decide +kernel
theorem dX7_wayDot_8 : decode cX7_wayDot 8 = .ok (.istore_n 3, 1) := by decide +kernel
theorem dX7_wayDot_9 : decode cX7_wayDot 9 = .ok (.aload_n 0, 1) := by decide +kernel
theorem dX7_wayDot_10 : decode cX7_wayDot 10 = .ok (.getfield 38, 3) := by decide +kernel
theorem dX7_wayDot_13 : decode cX7_wayDot 13 = .ok (.iload_n 2, 1) := by decide +kernel
theorem dX7_wayDot_14 : decode cX7_wayDot 14 = .ok (.iconst 2, 1) := by decide +kernel
theorem dX7_wayDot_15 : decode cX7_wayDot 15 = .ok (.idiv, 1) := by decide +kernel
theorem dX7_wayDot_16 : decode cX7_wayDot 16 = .ok (.iaload, 1) := by decide +kernel
theorem dX7_wayDot_17 : decode cX7_wayDot 17 = .ok (.istore 4, 2) := by decide +kernel
theorem dX7_wayDot_19 : decode cX7_wayDot 19 = .ok (.aload_n 0, 1) := by decide +kernel
theorem dX7_wayDot_20 : decode cX7_wayDot 20 = .ok (.iload_n 3, 1) := by decide +kernel
theorem dX7_wayDot_21 : decode cX7_wayDot 21 = .ok (.invokevirtual 74, 3) := by decide +kernel
theorem dX7_wayDot_24 : decode cX7_wayDot 24 = .ok (.aload_n 0, 1) := by decide +kernel
theorem dX7_wayDot_25 : decode cX7_wayDot 25 = .ok (.iload 4, 2) := by decide +kernel
theorem dX7_wayDot_27 : decode cX7_wayDot 27 = .ok (.invokevirtual 74, 3) := by decide +kernel
theorem dX7_wayDot_30 : decode cX7_wayDot 30 = .ok (.imul, 1) := by decide +kernel
theorem dX7_wayDot_31 : decode cX7_wayDot 31 = .ok (.aload_n 0, 1) := by decide +kernel
theorem dX7_wayDot_32 : decode cX7_wayDot 32 = .ok (.iload_n 3, 1) := by decide +kernel
theorem dX7_wayDot_33 : decode cX7_wayDot 33 = .ok (.invokevirtual 78, 3) := by decide +kernel
theorem dX7_wayDot_36 : decode cX7_wayDot 36 = .ok (.aload_n 0, 1) := by decide +kernel
theorem dX7_wayDot_37 : decode cX7_wayDot 37 = .ok (.iload 4, 2) := by decide +kernel
theorem dX7_wayDot_39 : decode cX7_wayDot 39 = .ok (.invokevirtual 78, 3) := by decide +kernel
theorem dX7_wayDot_42 : decode cX7_wayDot 42 = .ok (.imul, 1) := by decide +kernel
theorem dX7_wayDot_43 : decode cX7_wayDot 43 = .ok (.iadd, 1) := by decide +kernel
theorem dX7_wayDot_44 : decode cX7_wayDot 44 = .ok (.istore 5, 2) := by decide +kernel
theorem dX7_wayDot_46 : decode cX7_wayDot 46 = .ok (.iload_n 1, 1) := by decide +kernel
theorem dX7_wayDot_47 : decode cX7_wayDot 47 = .ok (.iconst 2, 1) := by decide +kernel
theorem dX7_wayDot_48 : decode cX7_wayDot 48 = .ok (.irem, 1) := by decide +kernel
theorem dX7_wayDot_49 : decode cX7_wayDot 49 = .ok (.iload_n 2, 1) := by decide +kernel
theorem dX7_wayDot_50 : decode cX7_wayDot 50 = .ok (.iconst 2, 1) := by decide +kernel
theorem dX7_wayDot_51 : decode cX7_wayDot 51 = .ok (.irem, 1) := by decide +kernel
theorem dX7_wayDot_52 : decode cX7_wayDot 52 = .ok (.if_icmp .ne 8, 3) := by decide +kernel
theorem dX7_wayDot_55 : decode cX7_wayDot 55 = .ok (.iload 5, 2) := by decide +kernel
theorem dX7_wayDot_57 : decode cX7_wayDot 57 = .ok (.goto 6, 3) := by decide +kernel
theorem dX7_wayDot_60 : decode cX7_wayDot 60 = .ok (.iload 5, 2) := by decide +kernel
theorem dX7_wayDot_62 : decode cX7_wayDot 62 = .ok (.ineg, 1) := by decide +kernel
theorem dX7_wayDot_63 : decode cX7_wayDot 63 = .ok (.ireturn, 1) := by decide +kernel
def f_wayDot (F : Nat) (M : MS) (a1 : Int32) (a2 : Int32) : Option Int32 := rdI 160 (M.2.1 12) (a1 / 2) fun t1 => rdI 160 (M.2.1 12) (a2 / 2) fun t4 => cal (f_dx F M t1) fun t8 => cal (f_dx F M t4) fun t10 => cal (f_dy F M t1) fun t12 => cal (f_dy F M t4) fun t14 => (if (a1 - a1 / 2 * 2) = (a2 - a2 / 2 * 2) then some ((t8 * t10) + (t12 * t14)) else some (-((t8 * t10) + (t12 * t14))))
set_option maxRecDepth 100000 in
set_option maxHeartbeats 4000000 in
theorem c_wayDot (l : Launch) (G : mG) (F : Nat) (M : MS) (a1 : Int32) (a2 : Int32) (r : Int32) (h : f_wayDot F M a1 a2 = some r) : mMI l yX7_wayDot vX7_wayDot ({ frames := 1, cells := 0, slots := 0, locals := 21 }) G [.ref (mO G), .int a1, .int a2] M M r := by
  refine mBodyI (cc := cX7_wayDot) (maxL := 6) (ret := (some .int)) (by decide) rfl rfl ?_
  intro sz p e s m below meth c hC hP
  have hC0 := hC
  obtain ⟨hx, hb, -, hts, -, -, -, -, -, -⟩ := hC0
  have hS : va_S (mA G sz) s.heap s.heap [] := va_S.rf
  have hin : ∀ w ∈ wsX70, w ∈ vX7_wayDot := fun w h => List.mem_cons_of_mem _ (List.mem_append_right _ h)
  have fl_ofs := hts _ (List.mem_cons_of_mem _ wm_63)
  refine m_entry (Nat.le_of_ble_eq_true rfl) (fun ls hl => ?_)
  have hl : lv_has ls 6 [(0, .ref (mO G)), (1, .int a1), (2, .int a2)] := hl
  unfold f_wayDot at h
  refine lv_aload_n hx hb dX7_wayDot_0 rfl (lv_at hl 0 rfl) ?_
  refine m_get hC hin hP 12 (by decide) fl_ofs rfl (v := .ref (mAd G 12)) rfl dX7_wayDot_1 ?_
  refine lv_iload_n hx hb dX7_wayDot_4 rfl (lv_at hl 1 rfl) ?_
  refine lv_iconst (v := 2) hx hb dX7_wayDot_5 (by decide) ?_
  refine lv_idiv hx hb dX7_wayDot_6 (by decide) ?_
  obtain ⟨z2, t1, e3, h⟩ := rdI_el h
  refine m_ild hC hP 10 (N := 160) rfl z2 e3 dX7_wayDot_7 ?_
  refine lv_istore_n (lv' := [(3, .int t1), (0, .ref (mO G)), (1, .int a1), (2, .int a2)]) hx hb dX7_wayDot_8 rfl hl (by decide) rfl (fun ls hl => ?_)
  refine lv_aload_n hx hb dX7_wayDot_9 rfl (lv_at hl 1 rfl) ?_
  refine m_get hC hin hP 12 (by decide) fl_ofs rfl (v := .ref (mAd G 12)) rfl dX7_wayDot_10 ?_
  refine lv_iload_n hx hb dX7_wayDot_13 rfl (lv_at hl 3 rfl) ?_
  refine lv_iconst (v := 2) hx hb dX7_wayDot_14 (by decide) ?_
  refine lv_idiv hx hb dX7_wayDot_15 (by decide) ?_
  obtain ⟨z5, t4, e6, h⟩ := rdI_el h
  refine m_ild hC hP 10 (N := 160) rfl z5 e6 dX7_wayDot_16 ?_
  refine lv_istore (lv' := [(4, .int t4), (3, .int t1), (0, .ref (mO G)), (1, .int a1), (2, .int a2)]) hx hb dX7_wayDot_17 hl (by decide) rfl (fun ls hl => ?_)
  refine lv_aload_n hx hb dX7_wayDot_19 rfl (lv_at hl 2 rfl) ?_
  refine lv_iload_n hx hb dX7_wayDot_20 rfl (lv_at hl 1 rfl) ?_
  obtain ⟨t8, e7, h⟩ := cal_el h
  refine m_VI (As := [.int t1]) (rest := []) hC hP hS (c_dx l G F M t1 t8 e7) (cwV 1 hts (gWM wm_15 wm_16 wm_17 wm_7 wm_8) rfl rfl rfl (by decide +kernel) ⟨Nat.le_of_ble_eq_true rfl, Nat.le_of_ble_eq_true rfl⟩) rfl hl.1 rfl (Nat.le_of_ble_eq_true rfl) dX7_wayDot_21 (fun H locs hP hS => ?_)
  refine lv_aload_n hx hb dX7_wayDot_24 rfl (lv_at hl 2 rfl) ?_
  refine lv_iload hx hb dX7_wayDot_25 (lv_at hl 0 rfl) ?_
  obtain ⟨t10, e9, h⟩ := cal_el h
  refine m_VI (As := [.int t4]) (rest := [.int t8]) hC hP hS (c_dx l G F M t4 t10 e9) (cwV 1 hts (gWM wm_15 wm_16 wm_17 wm_7 wm_8) rfl rfl rfl (by decide +kernel) ⟨Nat.le_of_ble_eq_true rfl, Nat.le_of_ble_eq_true rfl⟩) rfl hl.1 rfl (Nat.le_of_ble_eq_true rfl) dX7_wayDot_27 (fun H locs hP hS => ?_)
  refine lv_imul hx hb dX7_wayDot_30 ?_
  refine lv_aload_n hx hb dX7_wayDot_31 rfl (lv_at hl 2 rfl) ?_
  refine lv_iload_n hx hb dX7_wayDot_32 rfl (lv_at hl 1 rfl) ?_
  obtain ⟨t12, e11, h⟩ := cal_el h
  refine m_VI (As := [.int t1]) (rest := [.int (t8 * t10)]) hC hP hS (c_dy l G F M t1 t12 e11) (cwV 1 hts (gWM wm_18 wm_19 wm_20 wm_7 wm_11) rfl rfl rfl (by decide +kernel) ⟨Nat.le_of_ble_eq_true rfl, Nat.le_of_ble_eq_true rfl⟩) rfl hl.1 rfl (Nat.le_of_ble_eq_true rfl) dX7_wayDot_33 (fun H locs hP hS => ?_)
  refine lv_aload_n hx hb dX7_wayDot_36 rfl (lv_at hl 2 rfl) ?_
  refine lv_iload hx hb dX7_wayDot_37 (lv_at hl 0 rfl) ?_
  obtain ⟨t14, e13, h⟩ := cal_el h
  refine m_VI (As := [.int t4]) (rest := [.int t12, .int (t8 * t10)]) hC hP hS (c_dy l G F M t4 t14 e13) (cwV 1 hts (gWM wm_18 wm_19 wm_20 wm_7 wm_11) rfl rfl rfl (by decide +kernel) ⟨Nat.le_of_ble_eq_true rfl, Nat.le_of_ble_eq_true rfl⟩) rfl hl.1 rfl (Nat.le_of_ble_eq_true rfl) dX7_wayDot_39 (fun H locs hP hS => ?_)
  refine lv_imul hx hb dX7_wayDot_42 ?_
  refine lv_iadd hx hb dX7_wayDot_43 ?_
  refine lv_istore (lv' := [(5, .int ((t8 * t10) + (t12 * t14))), (4, .int t4), (3, .int t1), (0, .ref (mO G)), (1, .int a1), (2, .int a2)]) hx hb dX7_wayDot_44 hl (by decide) rfl (fun ls hl => ?_)
  refine lv_iload_n hx hb dX7_wayDot_46 rfl (lv_at hl 4 rfl) ?_
  refine lv_iconst (v := 2) hx hb dX7_wayDot_47 (by decide) ?_
  refine lv_irem hx hb dX7_wayDot_48 (by decide) ?_
  refine lv_iload_n hx hb dX7_wayDot_49 rfl (lv_at hl 5 rfl) ?_
  refine lv_iconst (v := 2) hx hb dX7_wayDot_50 (by decide) ?_
  refine lv_irem hx hb dX7_wayDot_51 (by decide) ?_
  refine lv_icmp_ne (tgt := 60) hx hb dX7_wayDot_52 (by decide) (fun u15 => ?_) (fun u15 => ?_)
  · have h := ite_f u15 h
    refine lv_iload hx hb dX7_wayDot_60 (lv_at hl 0 rfl) ?_
    refine lv_ineg hx hb dX7_wayDot_62 ?_
    cases h
    exact m_iret hC hP hS rfl dX7_wayDot_63
  · have h := ite_t u15 h
    refine lv_iload hx hb dX7_wayDot_55 (lv_at hl 0 rfl) ?_
    refine lv_goto (tgt := 63) hx hb dX7_wayDot_57 (by decide) ?_
    cases h
    exact m_iret hC hP hS rfl dX7_wayDot_63

theorem dX7_turn_0 : decode cX7_turn 0 = .ok (.aload_n 0, 1) := by decide +kernel
theorem dX7_turn_1 : decode cX7_turn 1 = .ok (.iload_n 1, 1) := by decide +kernel
theorem dX7_turn_2 : decode cX7_turn 2 = .ok (.iload_n 2, 1) := by decide +kernel
theorem dX7_turn_3 : decode cX7_turn 3 = .ok (.invokevirtual 147, 3) := by decide +kernel
theorem dX7_turn_6 : decode cX7_turn 6 = .ok (.istore_n 3, 1) := by decide +kernel
theorem dX7_turn_7 : decode cX7_turn 7 = .ok (.iload_n 3, 1) := by decide +kernel
theorem dX7_turn_8 : decode cX7_turn 8 = .ok (.ifCond .ge 7, 3) := by decide +kernel
theorem dX7_turn_11 : decode cX7_turn 11 = .ok (.iconst 0, 1) := by decide +kernel
theorem dX7_turn_12 : decode cX7_turn 12 = .ok (.goto 25, 3) := by decide +kernel
theorem dX7_turn_15 : decode cX7_turn 15 = .ok (.iload_n 3, 1) := by decide +kernel
theorem dX7_turn_16 : decode cX7_turn 16 = .ok (.ifCond .le 7, 3) := by decide +kernel
theorem dX7_turn_19 : decode cX7_turn 19 = .ok (.iconst 2, 1) := by decide +kernel
theorem dX7_turn_20 : decode cX7_turn 20 = .ok (.goto 17, 3) := by decide +kernel
theorem dX7_turn_23 : decode cX7_turn 23 = .ok (.aload_n 0, 1) := by decide +kernel
theorem dX7_turn_24 : decode cX7_turn 24 = .ok (.iload_n 1, 1) := by decide +kernel
theorem dX7_turn_25 : decode cX7_turn 25 = .ok (.iload_n 2, 1) := by decide +kernel
theorem dX7_turn_26 : decode cX7_turn 26 = .ok (.invokevirtual 150, 3) := by decide +kernel
theorem dX7_turn_29 : decode cX7_turn 29 = .ok (.ifCond .ge 7, 3) := by decide +kernel
theorem dX7_turn_32 : decode cX7_turn 32 = .ok (.iconst 1, 1) := by decide +kernel
theorem dX7_turn_33 : decode cX7_turn 33 = .ok (.goto 4, 3) := by decide +kernel
theorem dX7_turn_36 : decode cX7_turn 36 = .ok (.iconst 3, 1) := by decide +kernel
theorem dX7_turn_37 : decode cX7_turn 37 = .ok (.ireturn, 1) := by decide +kernel
def f_turn (F : Nat) (M : MS) (a1 : Int32) (a2 : Int32) : Option Int32 := cal (f_wayCross F M a1 a2) fun t2 => (if 0 ≤ t2 then (if t2 ≤ 0 then cal (f_wayDot F M a1 a2) fun t6 => (if 0 ≤ t6 then some 3 else some 1) else some 2) else some 0)
set_option maxRecDepth 100000 in
set_option maxHeartbeats 4000000 in
theorem c_turn (l : Launch) (G : mG) (F : Nat) (M : MS) (a1 : Int32) (a2 : Int32) (r : Int32) (h : f_turn F M a1 a2 = some r) : mMI l yX7_turn vX7_turn ({ frames := 3, cells := 0, slots := 0, locals := 66 }) G [.ref (mO G), .int a1, .int a2] M M r := by
  refine mBodyI (cc := cX7_turn) (maxL := 4) (ret := (some .int)) (by decide) rfl rfl ?_
  intro sz p e s m below meth c hC hP
  have hC0 := hC
  obtain ⟨hx, hb, -, hts, -, -, -, -, -, -⟩ := hC0
  have hS : va_S (mA G sz) s.heap s.heap [] := va_S.rf
  refine m_entry (Nat.le_of_ble_eq_true rfl) (fun ls hl => ?_)
  have hl : lv_has ls 4 [(0, .ref (mO G)), (1, .int a1), (2, .int a2)] := hl
  unfold f_turn at h
  refine lv_aload_n hx hb dX7_turn_0 rfl (lv_at hl 0 rfl) ?_
  refine lv_iload_n hx hb dX7_turn_1 rfl (lv_at hl 1 rfl) ?_
  refine lv_iload_n hx hb dX7_turn_2 rfl (lv_at hl 2 rfl) ?_
  obtain ⟨t2, e1, h⟩ := cal_el h
  refine m_VI (As := [.int a1, .int a2]) (rest := []) hC hP hS (c_wayCross l G F M a1 a2 t2 e1) (cwV 2 hts (gWM wm_77 wm_78 wm_79 wm_7 wm_73) rfl rfl rfl (by decide +kernel) ⟨Nat.le_of_ble_eq_true rfl, Nat.le_of_ble_eq_true rfl⟩) rfl hl.1 rfl (Nat.le_of_ble_eq_true rfl) dX7_turn_3 (fun H locs hP hS => ?_)
  refine lv_istore_n (lv' := [(3, .int t2), (0, .ref (mO G)), (1, .int a1), (2, .int a2)]) hx hb dX7_turn_6 rfl hl (by decide) rfl (fun ls hl => ?_)
  refine lv_iload_n hx hb dX7_turn_7 rfl (lv_at hl 0 rfl) ?_
  refine lv_if_ge (tgt := 15) hx hb dX7_turn_8 (by decide) (fun u3 => ?_) (fun u3 => ?_)
  · have h := ite_t u3 h
    refine lv_iload_n hx hb dX7_turn_15 rfl (lv_at hl 0 rfl) ?_
    refine lv_if_le (tgt := 23) hx hb dX7_turn_16 (by decide) (fun u4 => ?_) (fun u4 => ?_)
    · have h := ite_t u4 h
      refine lv_aload_n hx hb dX7_turn_23 rfl (lv_at hl 1 rfl) ?_
      refine lv_iload_n hx hb dX7_turn_24 rfl (lv_at hl 2 rfl) ?_
      refine lv_iload_n hx hb dX7_turn_25 rfl (lv_at hl 3 rfl) ?_
      obtain ⟨t6, e5, h⟩ := cal_el h
      refine m_VI (As := [.int a1, .int a2]) (rest := []) hC hP hS (c_wayDot l G F M a1 a2 t6 e5) (cwV 2 hts (gWM wm_80 wm_81 wm_82 wm_7 wm_75) rfl rfl rfl (by decide +kernel) ⟨Nat.le_of_ble_eq_true rfl, Nat.le_of_ble_eq_true rfl⟩) rfl hl.1 rfl (Nat.le_of_ble_eq_true rfl) dX7_turn_26 (fun H locs hP hS => ?_)
      refine lv_if_ge (tgt := 36) hx hb dX7_turn_29 (by decide) (fun u7 => ?_) (fun u7 => ?_)
      · have h := ite_t u7 h
        refine lv_iconst (v := 3) hx hb dX7_turn_36 (by decide) ?_
        cases h
        exact m_iret hC hP hS rfl dX7_turn_37
      · have h := ite_f u7 h
        refine lv_iconst (v := 1) hx hb dX7_turn_32 (by decide) ?_
        refine lv_goto (tgt := 37) hx hb dX7_turn_33 (by decide) ?_
        cases h
        exact m_iret hC hP hS rfl dX7_turn_37
    · have h := ite_f u4 h
      refine lv_iconst (v := 2) hx hb dX7_turn_19 (by decide) ?_
      refine lv_goto (tgt := 37) hx hb dX7_turn_20 (by decide) ?_
      cases h
      exact m_iret hC hP hS rfl dX7_turn_37
  · have h := ite_f u3 h
    refine lv_iconst (v := 0) hx hb dX7_turn_11 (by decide) ?_
    refine lv_goto (tgt := 37) hx hb dX7_turn_12 (by decide) ?_
    cases h
    exact m_iret hC hP hS rfl dX7_turn_37

theorem dX7_next_0 : decode cX7_next 0 = .ok (.iload_n 1, 1) := by decide +kernel
theorem dX7_next_1 : decode cX7_next 1 = .ok (.invokestatic 153, 3) := by decide +kernel
theorem dX7_next_4 : decode cX7_next 4 = .ok (.istore_n 2, 1) := by decide +kernel
theorem dX7_next_5 : decode cX7_next 5 = .ok (.iload_n 2, 1) := by decide +kernel
theorem dX7_next_6 : decode cX7_next 6 = .ok (.istore_n 3, 1) := by decide +kernel
theorem dX7_next_7 : decode cX7_next 7 = .ok (.iconst 0, 1) := by decide +kernel
theorem dX7_next_8 : decode cX7_next 8 = .ok (.istore 4, 2) := by decide +kernel
theorem dX7_next_10 : decode cX7_next 10 = .ok (.iload 4, 2) := by decide +kernel
theorem dX7_next_12 : decode cX7_next 12 = .ok (.iconst 2, 1) := by decide +kernel
theorem dX7_next_13 : decode cX7_next 13 = .ok (.aload_n 0, 1) := by decide +kernel
theorem dX7_next_14 : decode cX7_next 14 = .ok (.getfield 138, 3) := by decide +kernel
theorem dX7_next_17 : decode cX7_next 17 = .ok (.imul, 1) := by decide +kernel
theorem dX7_next_18 : decode cX7_next 18 = .ok (.if_icmp .ge 66, 3) := by decide +kernel
theorem dX7_next_21 : decode cX7_next 21 = .ok (.aload_n 0, 1) := by decide +kernel
theorem dX7_next_22 : decode cX7_next 22 = .ok (.iload 4, 2) := by decide +kernel
theorem dX7_next_24 : decode cX7_next 24 = .ok (.invokevirtual 156, 3) := by decide +kernel
theorem dX7_next_27 : decode cX7_next 27 = .ok (.aload_n 0, 1) := by decide +kernel
theorem dX7_next_28 : decode cX7_next 28 = .ok (.iload_n 2, 1) := by decide +kernel
theorem dX7_next_29 : decode cX7_next 29 = .ok (.invokevirtual 156, 3) := by decide +kernel
theorem dX7_next_32 : decode cX7_next 32 = .ok (.if_icmp .ne 46, 3) := by decide +kernel
theorem dX7_next_35 : decode cX7_next 35 = .ok (.aload_n 0, 1) := by decide +kernel
theorem dX7_next_36 : decode cX7_next 36 = .ok (.iload_n 2, 1) := by decide +kernel
theorem dX7_next_37 : decode cX7_next 37 = .ok (.iload 4, 2) := by decide +kernel
theorem dX7_next_39 : decode cX7_next 39 = .ok (.invokevirtual 159, 3) := by decide +kernel
theorem dX7_next_42 : decode cX7_next 42 = .ok (.aload_n 0, 1) := by decide +kernel
theorem dX7_next_43 : decode cX7_next 43 = .ok (.iload_n 2, 1) := by decide +kernel
theorem dX7_next_44 : decode cX7_next 44 = .ok (.iload_n 3, 1) := by decide +kernel
theorem dX7_next_45 : decode cX7_next 45 = .ok (.invokevirtual 159, 3) := by decide +kernel
theorem dX7_next_48 : decode cX7_next 48 = .ok (.isub, 1) := by decide +kernel
theorem dX7_next_49 : decode cX7_next 49 = .ok (.istore 5, 2) := by decide +kernel
theorem dX7_next_51 : decode cX7_next 51 = .ok (.iload 5, 2) := by decide +kernel
theorem dX7_next_53 : decode cX7_next 53 = .ok (.ifCond .lt 18, 3) := by decide +kernel
theorem dX7_next_56 : decode cX7_next 56 = .ok (.iload 5, 2) := by decide +kernel
theorem dX7_next_58 : decode cX7_next 58 = .ok (.ifCond .ne 18, 3) := by decide +kernel
theorem dX7_next_61 : decode cX7_next 61 = .ok (.aload_n 0, 1) := by decide +kernel
theorem dX7_next_62 : decode cX7_next 62 = .ok (.iload 4, 2) := by decide +kernel
theorem dX7_next_64 : decode cX7_next 64 = .ok (.iload_n 3, 1) := by decide +kernel
theorem dX7_next_65 : decode cX7_next 65 = .ok (.invokevirtual 147, 3) := by decide +kernel
theorem dX7_next_68 : decode cX7_next 68 = .ok (.ifCond .ge 8, 3) := by decide +kernel
theorem dX7_next_71 : decode cX7_next 71 = .ok (.iload 4, 2) := by decide +kernel
theorem dX7_next_73 : decode cX7_next 73 = .ok (.goto 4, 3) := by decide +kernel
theorem dX7_next_76 : decode cX7_next 76 = .ok (.iload_n 3, 1) := by decide +kernel
theorem dX7_next_77 : decode cX7_next 77 = .ok (.istore_n 3, 1) := by decide +kernel
theorem dX7_next_78 : decode cX7_next 78 = .ok (.iinc 4 1, 3) := by decide +kernel
theorem dX7_next_81 : decode cX7_next 81 = .ok (.goto (-71), 3) := by decide +kernel
theorem dX7_next_84 : decode cX7_next 84 = .ok (.iload_n 3, 1) := by decide +kernel
theorem dX7_next_85 : decode cX7_next 85 = .ok (.ireturn, 1) := by decide +kernel
def f_next_b78 (F : Nat) (k10 : Int32 → Int32 → Int32 → Option Int32) (M : MS) (x2 : Int32) (x3 : Int32) (x4 : Int32) : Option Int32 := k10 x2 x3 (x4 + 1)
def f_next_L10 (F : Nat) (M : MS) : Nat → Int32 → Int32 → Int32 → Option Int32
  | 0, _, _, _ => none
  | n10 + 1, x2, x3, x4 => (if (2 * (M.1 11)) ≤ x4 then some x3 else cal (f_begin F M x4) fun t3 => cal (f_begin F M x2) fun t5 => (if t3 = t5 then cal (f_turn F M x2 x4) fun t8 => cal (f_turn F M x2 x3) fun t10 => (if (t8 - t10) < 0 then f_next_b78 F ((f_next_L10 F M n10)) M x2 x4 x4 else (if (t8 - t10) = 0 then cal (f_wayCross F M x4 x3) fun t14 => (if 0 ≤ t14 then f_next_b78 F ((f_next_L10 F M n10)) M x2 x3 x4 else f_next_b78 F ((f_next_L10 F M n10)) M x2 x4 x4) else f_next_b78 F ((f_next_L10 F M n10)) M x2 x3 x4)) else f_next_b78 F ((f_next_L10 F M n10)) M x2 x3 x4))
def f_next (F : Nat) (M : MS) (a1 : Int32) : Option Int32 := cal (f_back F M a1) fun t2 => f_next_L10 F M F t2 t2 0
set_option maxRecDepth 100000 in
set_option maxHeartbeats 4000000 in
theorem c_next (l : Launch) (G : mG) (F : Nat) (M : MS) (a1 : Int32) (r : Int32) (h : f_next F M a1 = some r) : mMI l yX7_next vX7_next ({ frames := 4, cells := 0, slots := 0, locals := 89 }) G [.ref (mO G), .int a1] M M r := by
  refine mBodyI (cc := cX7_next) (maxL := 6) (ret := (some .int)) (by decide) rfl rfl ?_
  intro sz p e s m below meth c hC hP
  have hC0 := hC
  obtain ⟨hx, hb, -, hts, -, -, -, -, -, -⟩ := hC0
  have hS : va_S (mA G sz) s.heap s.heap [] := va_S.rf
  have hin : ∀ w ∈ wsX70, w ∈ vX7_next := fun w h => List.mem_cons_of_mem _ (List.mem_append_right _ h)
  have fl_edges := hts _ (List.mem_cons_of_mem _ wm_62)
  have L10 : ∀ (n10 : Nat) (H : Heap) (locs : List Loc) (ls : Array Slot) (x2 : Int32) (x3 : Int32) (x4 : Int32), va_P G.1 vwCl (mW G M) H → va_S (mA G sz) s.heap H locs → lv_has ls 6 [(0, .ref (mO G)), (2, .int x2), (3, .int x3), (4, .int x4)] → f_next_L10 F M n10 x2 x3 x4 = some r → W p l e (headSpec vX7_next ({ frames := 4, cells := 0, slots := 0, locals := 89 })).room s m ([.ref (mO G), .int a1] : List Value).toArray below meth c H locs 0 0 (mQI below G M sz ([.ref (mO G), .int a1] : List Value).toArray s r) (F0 m 10 ls []) := by
    intro n10
    induction n10 with
    | zero =>
      intro H locs ls x2 x3 x4 hP hS hl h
      rw [f_next_L10] at h; cases h
    | succ n10 ih10 =>
      have b78 : ∀ (H : Heap) (locs : List Loc) (ls : Array Slot) (x2 : Int32) (x3 : Int32) (x4 : Int32), va_P G.1 vwCl (mW G M) H → va_S (mA G sz) s.heap H locs → lv_has ls 6 [(0, .ref (mO G)), (2, .int x2), (3, .int x3), (4, .int x4)] → f_next_b78 F ((f_next_L10 F M n10)) M x2 x3 x4 = some r → W p l e (headSpec vX7_next ({ frames := 4, cells := 0, slots := 0, locals := 89 })).room s m ([.ref (mO G), .int a1] : List Value).toArray below meth c H locs 0 0 (mQI below G M sz ([.ref (mO G), .int a1] : List Value).toArray s r) (F0 m 78 ls []) := by
        intro H locs ls x2 x3 x4 hP hS hl h
        unfold f_next_b78 at h
        refine lv_iinc (v := x4 + 1) (lv' := [(4, .int (x4 + 1)), (0, .ref (mO G)), (2, .int x2), (3, .int x3)]) hx hb dX7_next_78 hl (k := 3) rfl rfl (by decide) rfl (fun ls hl => ?_)
        refine lv_goto (tgt := 10) hx hb dX7_next_81 (by decide) ?_
        exact ih10 _ _ _ x2 x3 (x4 + 1) hP hS (lv_sub hl [1, 2, 3, 0] rfl) h
      intro H locs ls x2 x3 x4 hP hS hl h
      rw [f_next_L10] at h
      refine lv_iload hx hb dX7_next_10 (lv_at hl 3 rfl) ?_
      refine lv_iconst (v := 2) hx hb dX7_next_12 (by decide) ?_
      refine lv_aload_n hx hb dX7_next_13 rfl (lv_at hl 0 rfl) ?_
      refine m_get hC hin hP 11 (by decide) fl_edges rfl (v := .int (M.1 11)) rfl dX7_next_14 ?_
      refine lv_imul hx hb dX7_next_17 ?_
      refine lv_icmp_ge (tgt := 84) hx hb dX7_next_18 (by decide) (fun u1 => ?_) (fun u1 => ?_)
      · have h := ite_t u1 h
        refine lv_iload_n hx hb dX7_next_84 rfl (lv_at hl 2 rfl) ?_
        cases h
        exact m_iret hC hP hS rfl dX7_next_85
      · have h := ite_f u1 h
        refine lv_aload_n hx hb dX7_next_21 rfl (lv_at hl 0 rfl) ?_
        refine lv_iload hx hb dX7_next_22 (lv_at hl 3 rfl) ?_
        obtain ⟨t3, e2, h⟩ := cal_el h
        refine m_VI (As := [.int x4]) (rest := []) hC hP hS (c_begin l G F M x4 t3 e2) (cwV 1 hts (gWM wm_86 wm_87 wm_88 wm_7 wm_72) rfl rfl rfl (by decide +kernel) ⟨Nat.le_of_ble_eq_true rfl, Nat.le_of_ble_eq_true rfl⟩) rfl hl.1 rfl (Nat.le_of_ble_eq_true rfl) dX7_next_24 (fun H locs hP hS => ?_)
        refine lv_aload_n hx hb dX7_next_27 rfl (lv_at hl 0 rfl) ?_
        refine lv_iload_n hx hb dX7_next_28 rfl (lv_at hl 1 rfl) ?_
        obtain ⟨t5, e4, h⟩ := cal_el h
        refine m_VI (As := [.int x2]) (rest := [.int t3]) hC hP hS (c_begin l G F M x2 t5 e4) (cwV 1 hts (gWM wm_86 wm_87 wm_88 wm_7 wm_72) rfl rfl rfl (by decide +kernel) ⟨Nat.le_of_ble_eq_true rfl, Nat.le_of_ble_eq_true rfl⟩) rfl hl.1 rfl (Nat.le_of_ble_eq_true rfl) dX7_next_29 (fun H locs hP hS => ?_)
        refine lv_icmp_ne (tgt := 78) hx hb dX7_next_32 (by decide) (fun u6 => ?_) (fun u6 => ?_)
        · have h := ite_f u6 h
          exact b78 _ _ _ x2 x3 x4 hP hS (lv_sub hl [0, 1, 2, 3] rfl) h
        · have h := ite_t u6 h
          refine lv_aload_n hx hb dX7_next_35 rfl (lv_at hl 0 rfl) ?_
          refine lv_iload_n hx hb dX7_next_36 rfl (lv_at hl 1 rfl) ?_
          refine lv_iload hx hb dX7_next_37 (lv_at hl 3 rfl) ?_
          obtain ⟨t8, e7, h⟩ := cal_el h
          refine m_VI (As := [.int x2, .int x4]) (rest := []) hC hP hS (c_turn l G F M x2 x4 t8 e7) (cwV 2 hts (gWM wm_89 wm_90 wm_91 wm_7 wm_76) rfl rfl rfl (by decide +kernel) ⟨Nat.le_of_ble_eq_true rfl, Nat.le_of_ble_eq_true rfl⟩) rfl hl.1 rfl (Nat.le_of_ble_eq_true rfl) dX7_next_39 (fun H locs hP hS => ?_)
          refine lv_aload_n hx hb dX7_next_42 rfl (lv_at hl 0 rfl) ?_
          refine lv_iload_n hx hb dX7_next_43 rfl (lv_at hl 1 rfl) ?_
          refine lv_iload_n hx hb dX7_next_44 rfl (lv_at hl 2 rfl) ?_
          obtain ⟨t10, e9, h⟩ := cal_el h
          refine m_VI (As := [.int x2, .int x3]) (rest := [.int t8]) hC hP hS (c_turn l G F M x2 x3 t10 e9) (cwV 2 hts (gWM wm_89 wm_90 wm_91 wm_7 wm_76) rfl rfl rfl (by decide +kernel) ⟨Nat.le_of_ble_eq_true rfl, Nat.le_of_ble_eq_true rfl⟩) rfl hl.1 rfl (Nat.le_of_ble_eq_true rfl) dX7_next_45 (fun H locs hP hS => ?_)
          refine lv_isub hx hb dX7_next_48 ?_
          refine lv_istore (lv' := [(5, .int (t8 - t10)), (0, .ref (mO G)), (2, .int x2), (3, .int x3), (4, .int x4)]) hx hb dX7_next_49 hl (by decide) rfl (fun ls hl => ?_)
          refine lv_iload hx hb dX7_next_51 (lv_at hl 0 rfl) ?_
          refine lv_if_lt (tgt := 71) hx hb dX7_next_53 (by decide) (fun u11 => ?_) (fun u11 => ?_)
          · have h := ite_t u11 h
            refine lv_iload hx hb dX7_next_71 (lv_at hl 4 rfl) ?_
            refine lv_goto (tgt := 77) hx hb dX7_next_73 (by decide) ?_
            refine lv_istore_n (lv' := [(3, .int x4), (5, .int (t8 - t10)), (0, .ref (mO G)), (2, .int x2), (4, .int x4)]) hx hb dX7_next_77 rfl hl (by decide) rfl (fun ls hl => ?_)
            exact b78 _ _ _ x2 x4 x4 hP hS (lv_sub hl [2, 3, 0, 4] rfl) h
          · have h := ite_f u11 h
            refine lv_iload hx hb dX7_next_56 (lv_at hl 0 rfl) ?_
            refine lv_if_ne (tgt := 76) hx hb dX7_next_58 (by decide) (fun u12 => ?_) (fun u12 => ?_)
            · have h := ite_f u12 h
              refine lv_iload_n hx hb dX7_next_76 rfl (lv_at hl 3 rfl) ?_
              refine lv_istore_n (lv' := [(3, .int x3), (5, .int (t8 - t10)), (0, .ref (mO G)), (2, .int x2), (4, .int x4)]) hx hb dX7_next_77 rfl hl (by decide) rfl (fun ls hl => ?_)
              exact b78 _ _ _ x2 x3 x4 hP hS (lv_sub hl [2, 3, 0, 4] rfl) h
            · have h := ite_t u12 h
              refine lv_aload_n hx hb dX7_next_61 rfl (lv_at hl 1 rfl) ?_
              refine lv_iload hx hb dX7_next_62 (lv_at hl 4 rfl) ?_
              refine lv_iload_n hx hb dX7_next_64 rfl (lv_at hl 3 rfl) ?_
              obtain ⟨t14, e13, h⟩ := cal_el h
              refine m_VI (As := [.int x4, .int x3]) (rest := []) hC hP hS (c_wayCross l G F M x4 x3 t14 e13) (cwV 2 hts (gWM wm_77 wm_78 wm_79 wm_7 wm_73) rfl rfl rfl (by decide +kernel) ⟨Nat.le_of_ble_eq_true rfl, Nat.le_of_ble_eq_true rfl⟩) rfl hl.1 rfl (Nat.le_of_ble_eq_true rfl) dX7_next_65 (fun H locs hP hS => ?_)
              refine lv_if_ge (tgt := 76) hx hb dX7_next_68 (by decide) (fun u15 => ?_) (fun u15 => ?_)
              · have h := ite_t u15 h
                refine lv_iload_n hx hb dX7_next_76 rfl (lv_at hl 3 rfl) ?_
                refine lv_istore_n (lv' := [(3, .int x3), (5, .int (t8 - t10)), (0, .ref (mO G)), (2, .int x2), (4, .int x4)]) hx hb dX7_next_77 rfl hl (by decide) rfl (fun ls hl => ?_)
                exact b78 _ _ _ x2 x3 x4 hP hS (lv_sub hl [2, 3, 0, 4] rfl) h
              · have h := ite_f u15 h
                refine lv_iload hx hb dX7_next_71 (lv_at hl 4 rfl) ?_
                refine lv_goto (tgt := 77) hx hb dX7_next_73 (by decide) ?_
                refine lv_istore_n (lv' := [(3, .int x4), (5, .int (t8 - t10)), (0, .ref (mO G)), (2, .int x2), (4, .int x4)]) hx hb dX7_next_77 rfl hl (by decide) rfl (fun ls hl => ?_)
                exact b78 _ _ _ x2 x4 x4 hP hS (lv_sub hl [2, 3, 0, 4] rfl) h
  refine m_entry (Nat.le_of_ble_eq_true rfl) (fun ls hl => ?_)
  have hl : lv_has ls 6 [(0, .ref (mO G)), (1, .int a1)] := hl
  unfold f_next at h
  refine lv_iload_n hx hb dX7_next_0 rfl (lv_at hl 1 rfl) ?_
  obtain ⟨t2, e1, h⟩ := cal_el h
  refine m_SI (As := [.int a1]) (rest := []) hC hP hS (c_back l G F M a1 t2 e1) (va_cwS 1 hts (gWMS wm_84 wm_85 wm_7 wm_74) rfl rfl rfl (by decide +kernel) ⟨Nat.le_of_ble_eq_true rfl, Nat.le_of_ble_eq_true rfl⟩) rfl hl.1 rfl (Nat.le_of_ble_eq_true rfl) dX7_next_1 (fun H locs hP hS => ?_)
  refine lv_istore_n (lv' := [(2, .int t2), (0, .ref (mO G)), (1, .int a1)]) hx hb dX7_next_4 rfl hl (by decide) rfl (fun ls hl => ?_)
  refine lv_iload_n hx hb dX7_next_5 rfl (lv_at hl 0 rfl) ?_
  refine lv_istore_n (lv' := [(3, .int t2), (2, .int t2), (0, .ref (mO G)), (1, .int a1)]) hx hb dX7_next_6 rfl hl (by decide) rfl (fun ls hl => ?_)
  refine lv_iconst (v := 0) hx hb dX7_next_7 (by decide) ?_
  refine lv_istore (lv' := [(4, .int 0), (3, .int t2), (2, .int t2), (0, .ref (mO G)), (1, .int a1)]) hx hb dX7_next_8 hl (by decide) rfl (fun ls hl => ?_)
  exact L10 F _ _ _ t2 t2 0 hP hS (lv_sub hl [3, 2, 1, 0] rfl) h

theorem dX7_goesRound_0 : decode cX7_goesRound 0 = .ok (.iload_n 1, 1) := by decide +kernel
theorem dX7_goesRound_1 : decode cX7_goesRound 1 = .ok (.istore_n 2, 1) := by decide +kernel
theorem dX7_goesRound_2 : decode cX7_goesRound 2 = .ok (.aload_n 0, 1) := by decide +kernel
theorem dX7_goesRound_3 : decode cX7_goesRound 3 = .ok (.getfield 50, 3) := by decide +kernel
theorem dX7_goesRound_6 : decode cX7_goesRound 6 = .ok (.aload_n 0, 1) := by decide +kernel
theorem dX7_goesRound_7 : decode cX7_goesRound 7 = .ok (.getfield 162, 3) := by decide +kernel
theorem dX7_goesRound_10 : decode cX7_goesRound 10 = .ok (.aload_n 0, 1) := by decide +kernel
theorem dX7_goesRound_11 : decode cX7_goesRound 11 = .ok (.iload_n 1, 1) := by decide +kernel
theorem dX7_goesRound_12 : decode cX7_goesRound 12 = .ok (.invokevirtual 156, 3) := by decide +kernel
theorem dX7_goesRound_15 : decode cX7_goesRound 15 = .ok (.iastore, 1) := by decide +kernel
theorem dX7_goesRound_16 : decode cX7_goesRound 16 = .ok (.aload_n 0, 1) := by decide +kernel
theorem dX7_goesRound_17 : decode cX7_goesRound 17 = .ok (.getfield 53, 3) := by decide +kernel
theorem dX7_goesRound_20 : decode cX7_goesRound 20 = .ok (.aload_n 0, 1) := by decide +kernel
theorem dX7_goesRound_21 : decode cX7_goesRound 21 = .ok (.getfield 162, 3) := by decide +kernel
theorem dX7_goesRound_24 : decode cX7_goesRound 24 = .ok (.iload_n 1, 1) := by decide +kernel
theorem dX7_goesRound_25 : decode cX7_goesRound 25 = .ok (.iastore, 1) := by decide +kernel
theorem dX7_goesRound_26 : decode cX7_goesRound 26 = .ok (.aload_n 0, 1) := by decide +kernel
theorem dX7_goesRound_27 : decode cX7_goesRound 27 = .ok (.getfield 56, 3) := by decide +kernel
theorem dX7_goesRound_30 : decode cX7_goesRound 30 = .ok (.aload_n 0, 1) := by decide +kernel
theorem dX7_goesRound_31 : decode cX7_goesRound 31 = .ok (.getfield 162, 3) := by decide +kernel
theorem dX7_goesRound_34 : decode cX7_goesRound 34 = .ok (.iconst 0, 1) := by decide +kernel
theorem dX7_goesRound_35 : decode cX7_goesRound 35 = .ok (.bastore, 1) := by decide +kernel
theorem dX7_goesRound_36 : decode cX7_goesRound 36 = .ok (.aload_n 0, 1) := by decide +kernel
theorem dX7_goesRound_37 : decode cX7_goesRound 37 = .ok (.getfield 47, 3) := by decide +kernel
theorem dX7_goesRound_40 : decode cX7_goesRound 40 = .ok (.iload_n 2, 1) := by decide +kernel
theorem dX7_goesRound_41 : decode cX7_goesRound 41 = .ok (.iaload, 1) := by decide +kernel
theorem dX7_goesRound_42 : decode cX7_goesRound 42 = .ok (.iconst (-1), 1) := by decide +kernel
theorem dX7_goesRound_43 : decode cX7_goesRound 43 = .ok (.if_icmp .ne 132, 3) := by decide +kernel
theorem dX7_goesRound_46 : decode cX7_goesRound 46 = .ok (.aload_n 0, 1) := by decide +kernel
theorem dX7_goesRound_47 : decode cX7_goesRound 47 = .ok (.getfield 47, 3) := by decide +kernel
theorem dX7_goesRound_50 : decode cX7_goesRound 50 = .ok (.iload_n 2, 1) := by decide +kernel
theorem dX7_goesRound_51 : decode cX7_goesRound 51 = .ok (.aload_n 0, 1) := by decide +kernel
theorem dX7_goesRound_52 : decode cX7_goesRound 52 = .ok (.getfield 162, 3) := by decide +kernel
theorem dX7_goesRound_55 : decode cX7_goesRound 55 = .ok (.iastore, 1) := by decide +kernel
theorem dX7_goesRound_56 : decode cX7_goesRound 56 = .ok (.aload_n 0, 1) := by decide +kernel
theorem dX7_goesRound_57 : decode cX7_goesRound 57 = .ok (.iload_n 2, 1) := by decide +kernel
theorem dX7_goesRound_58 : decode cX7_goesRound 58 = .ok (.invokevirtual 156, 3) := by decide +kernel
theorem dX7_goesRound_61 : decode cX7_goesRound 61 = .ok (.istore_n 3, 1) := by decide +kernel
theorem dX7_goesRound_62 : decode cX7_goesRound 62 = .ok (.iload_n 3, 1) := by decide +kernel
theorem dX7_goesRound_63 : decode cX7_goesRound 63 = .ok (.aload_n 0, 1) := by decide +kernel
theorem dX7_goesRound_64 : decode cX7_goesRound 64 = .ok (.getfield 50, 3) := by decide +kernel
theorem dX7_goesRound_67 : decode cX7_goesRound 67 = .ok (.aload_n 0, 1) := by decide +kernel
theorem dX7_goesRound_68 : decode cX7_goesRound 68 = .ok (.getfield 162, 3) := by decide +kernel
theorem dX7_goesRound_71 : decode cX7_goesRound 71 = .ok (.iaload, 1) := by decide +kernel
theorem dX7_goesRound_72 : decode cX7_goesRound 72 = .ok (.if_icmp .lt 33, 3) := by decide +kernel
theorem dX7_goesRound_75 : decode cX7_goesRound 75 = .ok (.iload_n 3, 1) := by decide +kernel
theorem dX7_goesRound_76 : decode cX7_goesRound 76 = .ok (.aload_n 0, 1) := by decide +kernel
theorem dX7_goesRound_77 : decode cX7_goesRound 77 = .ok (.getfield 50, 3) := by decide +kernel
theorem dX7_goesRound_80 : decode cX7_goesRound 80 = .ok (.aload_n 0, 1) := by decide +kernel
theorem dX7_goesRound_81 : decode cX7_goesRound 81 = .ok (.getfield 162, 3) := by decide +kernel
theorem dX7_goesRound_84 : decode cX7_goesRound 84 = .ok (.iaload, 1) := by decide +kernel
theorem dX7_goesRound_85 : decode cX7_goesRound 85 = .ok (.if_icmp .ne 24, 3) := by decide +kernel
theorem dX7_goesRound_88 : decode cX7_goesRound 88 = .ok (.aload_n 0, 1) := by decide +kernel
theorem dX7_goesRound_89 : decode cX7_goesRound 89 = .ok (.iload_n 2, 1) := by decide +kernel
theorem dX7_goesRound_90 : decode cX7_goesRound 90 = .ok (.aload_n 0, 1) := by decide +kernel
theorem dX7_goesRound_91 : decode cX7_goesRound 91 = .ok (.getfield 53, 3) := by decide +kernel
theorem dX7_goesRound_94 : decode cX7_goesRound 94 = .ok (.aload_n 0, 1) := by decide +kernel
theorem dX7_goesRound_95 : decode cX7_goesRound 95 = .ok (.getfield 162, 3) := by decide +kernel
theorem dX7_goesRound_98 : decode cX7_goesRound 98 = .ok (.iaload, 1) := by decide +kernel
theorem dX7_goesRound_99 : decode cX7_goesRound 99 = .ok (.invokevirtual 147, 3) := by decide +kernel
theorem dX7_goesRound_102 : decode cX7_goesRound 102 = .ok (.ifCond .le 7, 3) := by decide +kernel
theorem dX7_goesRound_105 : decode cX7_goesRound 105 = .ok (.iconst 1, 1) := by decide +kernel
theorem dX7_goesRound_106 : decode cX7_goesRound 106 = .ok (.goto 4, 3) := by decide +kernel
theorem dX7_goesRound_109 : decode cX7_goesRound 109 = .ok (.iconst 0, 1) := by decide +kernel
theorem dX7_goesRound_110 : decode cX7_goesRound 110 = .ok (.istore 4, 2) := by decide +kernel
theorem dX7_goesRound_112 : decode cX7_goesRound 112 = .ok (.aload_n 0, 1) := by decide +kernel
theorem dX7_goesRound_113 : decode cX7_goesRound 113 = .ok (.getfield 53, 3) := by decide +kernel
theorem dX7_goesRound_116 : decode cX7_goesRound 116 = .ok (.aload_n 0, 1) := by decide +kernel
theorem dX7_goesRound_117 : decode cX7_goesRound 117 = .ok (.getfield 162, 3) := by decide +kernel
theorem dX7_goesRound_120 : decode cX7_goesRound 120 = .ok (.iload 4, 2) := by decide +kernel
theorem dX7_goesRound_122 : decode cX7_goesRound 122 = .ok (.ifCond .eq 7, 3) := by decide +kernel
theorem dX7_goesRound_125 : decode cX7_goesRound 125 = .ok (.iload_n 2, 1) := by decide +kernel
theorem dX7_goesRound_126 : decode cX7_goesRound 126 = .ok (.goto 12, 3) := by decide +kernel
theorem dX7_goesRound_129 : decode cX7_goesRound 129 = .ok (.aload_n 0, 1) := by decide +kernel
theorem dX7_goesRound_130 : decode cX7_goesRound 130 = .ok (.getfield 53, 3) := by decide +kernel
theorem dX7_goesRound_133 : decode cX7_goesRound 133 = .ok (.aload_n 0, 1) := by decide +kernel
theorem dX7_goesRound_134 : decode cX7_goesRound 134 = .ok (.getfield 162, 3) := by decide +kernel
theorem dX7_goesRound_137 : decode cX7_goesRound 137 = .ok (.iaload, 1) := by decide +kernel
theorem dX7_goesRound_138 : decode cX7_goesRound 138 = .ok (.iastore, 1) := by decide +kernel
theorem dX7_goesRound_139 : decode cX7_goesRound 139 = .ok (.aload_n 0, 1) := by decide +kernel
theorem dX7_goesRound_140 : decode cX7_goesRound 140 = .ok (.getfield 50, 3) := by decide +kernel
theorem dX7_goesRound_143 : decode cX7_goesRound 143 = .ok (.aload_n 0, 1) := by decide +kernel
theorem dX7_goesRound_144 : decode cX7_goesRound 144 = .ok (.getfield 162, 3) := by decide +kernel
theorem dX7_goesRound_147 : decode cX7_goesRound 147 = .ok (.iload 4, 2) := by decide +kernel
theorem dX7_goesRound_149 : decode cX7_goesRound 149 = .ok (.ifCond .eq 7, 3) := by decide +kernel
theorem dX7_goesRound_152 : decode cX7_goesRound 152 = .ok (.iload_n 3, 1) := by decide +kernel
theorem dX7_goesRound_153 : decode cX7_goesRound 153 = .ok (.goto 12, 3) := by decide +kernel
theorem dX7_goesRound_156 : decode cX7_goesRound 156 = .ok (.aload_n 0, 1) := by decide +kernel
theorem dX7_goesRound_157 : decode cX7_goesRound 157 = .ok (.getfield 50, 3) := by decide +kernel
theorem dX7_goesRound_160 : decode cX7_goesRound 160 = .ok (.aload_n 0, 1) := by decide +kernel
theorem dX7_goesRound_161 : decode cX7_goesRound 161 = .ok (.getfield 162, 3) := by decide +kernel
theorem dX7_goesRound_164 : decode cX7_goesRound 164 = .ok (.iaload, 1) := by decide +kernel
theorem dX7_goesRound_165 : decode cX7_goesRound 165 = .ok (.iastore, 1) := by decide +kernel
theorem dX7_goesRound_166 : decode cX7_goesRound 166 = .ok (.aload_n 0, 1) := by decide +kernel
theorem dX7_goesRound_167 : decode cX7_goesRound 167 = .ok (.iload_n 2, 1) := by decide +kernel
theorem dX7_goesRound_168 : decode cX7_goesRound 168 = .ok (.invokevirtual 169, 3) := by decide +kernel
theorem dX7_goesRound_171 : decode cX7_goesRound 171 = .ok (.istore_n 2, 1) := by decide +kernel
theorem dX7_goesRound_172 : decode cX7_goesRound 172 = .ok (.goto (-136), 3) := by decide +kernel
theorem dX7_goesRound_175 : decode cX7_goesRound 175 = .ok (.return_, 1) := by decide +kernel
def f_goesRound_b165 (F : Nat) (k36 : MS → Int32 → Option MS) (M : MS) (x2 : Int32) (s0 : Int32) (s1 : Int32) : Option MS := wrI 320 M 17 s1 s0 fun M3 => cal (f_next F M3 x2) fun t5 => k36 M3 t5
def f_goesRound_b138 (F : Nat) (k36 : MS → Int32 → Option MS) (M : MS) (x2 : Int32) (x3 : Int32) (x4 : Int32) (s0 : Int32) (s1 : Int32) : Option MS := wrI 320 M 18 s1 s0 fun M3 => (if x4 = 0 then rdI 320 (M3.2.1 17) (M3.1 16) fun t5 => f_goesRound_b165 F k36 M3 x2 t5 (M3.1 16) else f_goesRound_b165 F k36 M3 x2 x3 (M3.1 16))
def f_goesRound_b110 (F : Nat) (k36 : MS → Int32 → Option MS) (M : MS) (x2 : Int32) (x3 : Int32) (s0 : Int32) : Option MS := (if s0 = 0 then rdI 320 (M.2.1 18) (M.1 16) fun t2 => f_goesRound_b138 F k36 M x2 x3 s0 t2 (M.1 16) else f_goesRound_b138 F k36 M x2 x3 s0 x2 (M.1 16))
def f_goesRound_L36 (F : Nat) : Nat → MS → Int32 → Option MS
  | 0, _, _ => none
  | n36 + 1, M, x2 => rdI 320 (M.2.1 15) x2 fun t1 => (if t1 = ((-1)) then wrI 320 M 15 x2 (M.1 16) fun M7 => cal (f_begin F M7 x2) fun t9 => rdI 320 (M7.2.1 17) (M7.1 16) fun t10 => (if t9 < t10 then f_goesRound_b110 F ((f_goesRound_L36 F n36)) M7 x2 t9 1 else rdI 320 (M7.2.1 17) (M7.1 16) fun t14 => (if t9 = t14 then rdI 320 (M7.2.1 18) (M7.1 16) fun t18 => cal (f_wayCross F M7 x2 t18) fun t22 => (if t22 ≤ 0 then f_goesRound_b110 F ((f_goesRound_L36 F n36)) M7 x2 t9 0 else f_goesRound_b110 F ((f_goesRound_L36 F n36)) M7 x2 t9 1) else f_goesRound_b110 F ((f_goesRound_L36 F n36)) M7 x2 t9 0)) else some M)
def f_goesRound (F : Nat) (M : MS) (a1 : Int32) : Option MS := cal (f_begin F M a1) fun t2 => wrI 320 M 17 (M.1 16) t2 fun M5 => wrI 320 M5 18 (M5.1 16) a1 fun M8 => okB 0 <| wrI 320 M8 19 (M8.1 16) 0 fun M11 => f_goesRound_L36 F F M11 a1
set_option maxRecDepth 100000 in
set_option maxHeartbeats 4000000 in
theorem c_goesRound (l : Launch) (G : mG) (F : Nat) (M M2 : MS) (a1 : Int32) (h : f_goesRound F M a1 = some M2) : mMV l yX7_goesRound vX7_goesRound ({ frames := 5, cells := 0, slots := 0, locals := 114 }) G [.ref (mO G), .int a1] M M2 := by
  refine mBodyV (cc := cX7_goesRound) (maxL := 5) (ret := none) (by decide) rfl rfl ?_
  intro sz p e s m below meth c hC hP
  have hC0 := hC
  obtain ⟨hx, hb, -, hts, -, -, -, -, -, -⟩ := hC0
  have hS : va_S (mA G sz) s.heap s.heap [] := va_S.rf
  have hin : ∀ w ∈ wsX70, w ∈ vX7_goesRound := fun w h => List.mem_cons_of_mem _ (List.mem_append_right _ h)
  have fl_lowests := hts _ (List.mem_cons_of_mem _ wm_93)
  have fl_many := hts _ (List.mem_cons_of_mem _ wm_94)
  have fl_outs := hts _ (List.mem_cons_of_mem _ wm_95)
  have fl_isAround := hts _ (List.mem_cons_of_mem _ wm_96)
  have fl_rounds := hts _ (List.mem_cons_of_mem _ wm_97)
  have L36 : ∀ (n36 : Nat) (H : Heap) (locs : List Loc) (ls : Array Slot) (M : MS) (x2 : Int32), va_P G.1 vwCl (mW G M) H → va_S (mA G sz) s.heap H locs → lv_has ls 5 [(0, .ref (mO G)), (2, .int x2)] → f_goesRound_L36 F n36 M x2 = some M2 → W p l e (headSpec vX7_goesRound ({ frames := 5, cells := 0, slots := 0, locals := 114 })).room s m ([.ref (mO G), .int a1] : List Value).toArray below meth c H locs 0 0 (mQV below G M2 sz ([.ref (mO G), .int a1] : List Value).toArray s) (F0 m 36 ls []) := by
    intro n36
    induction n36 with
    | zero =>
      intro H locs ls M x2 hP hS hl h
      rw [f_goesRound_L36] at h; cases h
    | succ n36 ih36 =>
      have b165 : ∀ (H : Heap) (locs : List Loc) (ls : Array Slot) (M : MS) (x2 : Int32) (s0 : Int32) (s1 : Int32), va_P G.1 vwCl (mW G M) H → va_S (mA G sz) s.heap H locs → lv_has ls 5 [(0, .ref (mO G)), (2, .int x2)] → f_goesRound_b165 F ((f_goesRound_L36 F n36)) M x2 s0 s1 = some M2 → W p l e (headSpec vX7_goesRound ({ frames := 5, cells := 0, slots := 0, locals := 114 })).room s m ([.ref (mO G), .int a1] : List Value).toArray below meth c H locs 0 0 (mQV below G M2 sz ([.ref (mO G), .int a1] : List Value).toArray s) (F0 m 165 ls [.int s0, .int s1, .ref (mAd G 17)]) := by
        intro H locs ls M x2 s0 s1 hP hS hl h
        unfold f_goesRound_b165 at h
        obtain ⟨z1, M3, e2, h⟩ := wrI_el h
        refine m_ist hC hP hS 14 (N := 320) rfl z1 (maset_17 G) e2 dX7_goesRound_165 (fun H locs hP hS => ?_)
        refine lv_aload_n hx hb dX7_goesRound_166 rfl (lv_at hl 0 rfl) ?_
        refine lv_iload_n hx hb dX7_goesRound_167 rfl (lv_at hl 1 rfl) ?_
        obtain ⟨t5, e4, h⟩ := cal_el h
        refine m_VI (As := [.int x2]) (rest := []) hC hP hS (c_next l G F M3 x2 t5 e4) (cwV 1 hts (gWM wm_98 wm_99 wm_100 wm_7 wm_83) rfl rfl rfl (by decide +kernel) ⟨Nat.le_of_ble_eq_true rfl, Nat.le_of_ble_eq_true rfl⟩) rfl hl.1 rfl (Nat.le_of_ble_eq_true rfl) dX7_goesRound_168 (fun H locs hP hS => ?_)
        refine lv_istore_n (lv' := [(2, .int t5), (0, .ref (mO G))]) hx hb dX7_goesRound_171 rfl hl (by decide) rfl (fun ls hl => ?_)
        refine lv_goto (tgt := 36) hx hb dX7_goesRound_172 (by decide) ?_
        exact ih36 _ _ _ M3 t5 hP hS (lv_sub hl [1, 0] rfl) h
      have b138 : ∀ (H : Heap) (locs : List Loc) (ls : Array Slot) (M : MS) (x2 : Int32) (x3 : Int32) (x4 : Int32) (s0 : Int32) (s1 : Int32), va_P G.1 vwCl (mW G M) H → va_S (mA G sz) s.heap H locs → lv_has ls 5 [(0, .ref (mO G)), (2, .int x2), (3, .int x3), (4, .int x4)] → f_goesRound_b138 F ((f_goesRound_L36 F n36)) M x2 x3 x4 s0 s1 = some M2 → W p l e (headSpec vX7_goesRound ({ frames := 5, cells := 0, slots := 0, locals := 114 })).room s m ([.ref (mO G), .int a1] : List Value).toArray below meth c H locs 0 0 (mQV below G M2 sz ([.ref (mO G), .int a1] : List Value).toArray s) (F0 m 138 ls [.int s0, .int s1, .ref (mAd G 18)]) := by
        intro H locs ls M x2 x3 x4 s0 s1 hP hS hl h
        unfold f_goesRound_b138 at h
        obtain ⟨z1, M3, e2, h⟩ := wrI_el h
        refine m_ist hC hP hS 15 (N := 320) rfl z1 (maset_18 G) e2 dX7_goesRound_138 (fun H locs hP hS => ?_)
        refine lv_aload_n hx hb dX7_goesRound_139 rfl (lv_at hl 0 rfl) ?_
        refine m_get hC hin hP 17 (by decide) fl_lowests rfl (v := .ref (mAd G 17)) rfl dX7_goesRound_140 ?_
        refine lv_aload_n hx hb dX7_goesRound_143 rfl (lv_at hl 0 rfl) ?_
        refine m_get hC hin hP 16 (by decide) fl_many rfl (v := .int (M3.1 16)) rfl dX7_goesRound_144 ?_
        refine lv_iload hx hb dX7_goesRound_147 (lv_at hl 3 rfl) ?_
        refine lv_if_eq (tgt := 156) hx hb dX7_goesRound_149 (by decide) (fun u4 => ?_) (fun u4 => ?_)
        · have h := ite_t u4 h
          refine lv_aload_n hx hb dX7_goesRound_156 rfl (lv_at hl 0 rfl) ?_
          refine m_get hC hin hP 17 (by decide) fl_lowests rfl (v := .ref (mAd G 17)) rfl dX7_goesRound_157 ?_
          refine lv_aload_n hx hb dX7_goesRound_160 rfl (lv_at hl 0 rfl) ?_
          refine m_get hC hin hP 16 (by decide) fl_many rfl (v := .int (M3.1 16)) rfl dX7_goesRound_161 ?_
          obtain ⟨z6, t5, e7, h⟩ := rdI_el h
          refine m_ild hC hP 14 (N := 320) rfl z6 e7 dX7_goesRound_164 ?_
          exact b165 _ _ _ M3 x2 t5 (M3.1 16) hP hS (lv_sub hl [0, 1] rfl) h
        · have h := ite_f u4 h
          refine lv_iload_n hx hb dX7_goesRound_152 rfl (lv_at hl 2 rfl) ?_
          refine lv_goto (tgt := 165) hx hb dX7_goesRound_153 (by decide) ?_
          exact b165 _ _ _ M3 x2 x3 (M3.1 16) hP hS (lv_sub hl [0, 1] rfl) h
      have b110 : ∀ (H : Heap) (locs : List Loc) (ls : Array Slot) (M : MS) (x2 : Int32) (x3 : Int32) (s0 : Int32), va_P G.1 vwCl (mW G M) H → va_S (mA G sz) s.heap H locs → lv_has ls 5 [(0, .ref (mO G)), (2, .int x2), (3, .int x3)] → f_goesRound_b110 F ((f_goesRound_L36 F n36)) M x2 x3 s0 = some M2 → W p l e (headSpec vX7_goesRound ({ frames := 5, cells := 0, slots := 0, locals := 114 })).room s m ([.ref (mO G), .int a1] : List Value).toArray below meth c H locs 0 0 (mQV below G M2 sz ([.ref (mO G), .int a1] : List Value).toArray s) (F0 m 110 ls [.int s0]) := by
        intro H locs ls M x2 x3 s0 hP hS hl h
        unfold f_goesRound_b110 at h
        refine lv_istore (lv' := [(4, .int s0), (0, .ref (mO G)), (2, .int x2), (3, .int x3)]) hx hb dX7_goesRound_110 hl (by decide) rfl (fun ls hl => ?_)
        refine lv_aload_n hx hb dX7_goesRound_112 rfl (lv_at hl 1 rfl) ?_
        refine m_get hC hin hP 18 (by decide) fl_outs rfl (v := .ref (mAd G 18)) rfl dX7_goesRound_113 ?_
        refine lv_aload_n hx hb dX7_goesRound_116 rfl (lv_at hl 1 rfl) ?_
        refine m_get hC hin hP 16 (by decide) fl_many rfl (v := .int (M.1 16)) rfl dX7_goesRound_117 ?_
        refine lv_iload hx hb dX7_goesRound_120 (lv_at hl 0 rfl) ?_
        refine lv_if_eq (tgt := 129) hx hb dX7_goesRound_122 (by decide) (fun u1 => ?_) (fun u1 => ?_)
        · have h := ite_t u1 h
          refine lv_aload_n hx hb dX7_goesRound_129 rfl (lv_at hl 1 rfl) ?_
          refine m_get hC hin hP 18 (by decide) fl_outs rfl (v := .ref (mAd G 18)) rfl dX7_goesRound_130 ?_
          refine lv_aload_n hx hb dX7_goesRound_133 rfl (lv_at hl 1 rfl) ?_
          refine m_get hC hin hP 16 (by decide) fl_many rfl (v := .int (M.1 16)) rfl dX7_goesRound_134 ?_
          obtain ⟨z3, t2, e4, h⟩ := rdI_el h
          refine m_ild hC hP 15 (N := 320) rfl z3 e4 dX7_goesRound_137 ?_
          exact b138 _ _ _ M x2 x3 s0 t2 (M.1 16) hP hS (lv_sub hl [1, 2, 3, 0] rfl) h
        · have h := ite_f u1 h
          refine lv_iload_n hx hb dX7_goesRound_125 rfl (lv_at hl 2 rfl) ?_
          refine lv_goto (tgt := 138) hx hb dX7_goesRound_126 (by decide) ?_
          exact b138 _ _ _ M x2 x3 s0 x2 (M.1 16) hP hS (lv_sub hl [1, 2, 3, 0] rfl) h
      intro H locs ls M x2 hP hS hl h
      rw [f_goesRound_L36] at h
      refine lv_aload_n hx hb dX7_goesRound_36 rfl (lv_at hl 0 rfl) ?_
      refine m_get hC hin hP 15 (by decide) fl_rounds rfl (v := .ref (mAd G 15)) rfl dX7_goesRound_37 ?_
      refine lv_iload_n hx hb dX7_goesRound_40 rfl (lv_at hl 1 rfl) ?_
      obtain ⟨z2, t1, e3, h⟩ := rdI_el h
      refine m_ild hC hP 13 (N := 320) rfl z2 e3 dX7_goesRound_41 ?_
      refine lv_iconst (v := (-1)) hx hb dX7_goesRound_42 (by decide) ?_
      refine lv_icmp_ne (tgt := 175) hx hb dX7_goesRound_43 (by decide) (fun u4 => ?_) (fun u4 => ?_)
      · have h := ite_f u4 h
        cases h
        exact m_vret hC hP hS dX7_goesRound_175
      · have h := ite_t u4 h
        refine lv_aload_n hx hb dX7_goesRound_46 rfl (lv_at hl 0 rfl) ?_
        refine m_get hC hin hP 15 (by decide) fl_rounds rfl (v := .ref (mAd G 15)) rfl dX7_goesRound_47 ?_
        refine lv_iload_n hx hb dX7_goesRound_50 rfl (lv_at hl 1 rfl) ?_
        refine lv_aload_n hx hb dX7_goesRound_51 rfl (lv_at hl 0 rfl) ?_
        refine m_get hC hin hP 16 (by decide) fl_many rfl (v := .int (M.1 16)) rfl dX7_goesRound_52 ?_
        obtain ⟨z5, M7, e6, h⟩ := wrI_el h
        refine m_ist hC hP hS 13 (N := 320) rfl z5 (maset_15 G) e6 dX7_goesRound_55 (fun H locs hP hS => ?_)
        refine lv_aload_n hx hb dX7_goesRound_56 rfl (lv_at hl 0 rfl) ?_
        refine lv_iload_n hx hb dX7_goesRound_57 rfl (lv_at hl 1 rfl) ?_
        obtain ⟨t9, e8, h⟩ := cal_el h
        refine m_VI (As := [.int x2]) (rest := []) hC hP hS (c_begin l G F M7 x2 t9 e8) (cwV 1 hts (gWM wm_86 wm_87 wm_88 wm_7 wm_72) rfl rfl rfl (by decide +kernel) ⟨Nat.le_of_ble_eq_true rfl, Nat.le_of_ble_eq_true rfl⟩) rfl hl.1 rfl (Nat.le_of_ble_eq_true rfl) dX7_goesRound_58 (fun H locs hP hS => ?_)
        refine lv_istore_n (lv' := [(3, .int t9), (0, .ref (mO G)), (2, .int x2)]) hx hb dX7_goesRound_61 rfl hl (by decide) rfl (fun ls hl => ?_)
        refine lv_iload_n hx hb dX7_goesRound_62 rfl (lv_at hl 0 rfl) ?_
        refine lv_aload_n hx hb dX7_goesRound_63 rfl (lv_at hl 1 rfl) ?_
        refine m_get hC hin hP 17 (by decide) fl_lowests rfl (v := .ref (mAd G 17)) rfl dX7_goesRound_64 ?_
        refine lv_aload_n hx hb dX7_goesRound_67 rfl (lv_at hl 1 rfl) ?_
        refine m_get hC hin hP 16 (by decide) fl_many rfl (v := .int (M7.1 16)) rfl dX7_goesRound_68 ?_
        obtain ⟨z11, t10, e12, h⟩ := rdI_el h
        refine m_ild hC hP 14 (N := 320) rfl z11 e12 dX7_goesRound_71 ?_
        refine lv_icmp_lt (tgt := 105) hx hb dX7_goesRound_72 (by decide) (fun u13 => ?_) (fun u13 => ?_)
        · have h := ite_t u13 h
          refine lv_iconst (v := 1) hx hb dX7_goesRound_105 (by decide) ?_
          refine lv_goto (tgt := 110) hx hb dX7_goesRound_106 (by decide) ?_
          exact b110 _ _ _ M7 x2 t9 1 hP hS (lv_sub hl [1, 2, 0] rfl) h
        · have h := ite_f u13 h
          refine lv_iload_n hx hb dX7_goesRound_75 rfl (lv_at hl 0 rfl) ?_
          refine lv_aload_n hx hb dX7_goesRound_76 rfl (lv_at hl 1 rfl) ?_
          refine m_get hC hin hP 17 (by decide) fl_lowests rfl (v := .ref (mAd G 17)) rfl dX7_goesRound_77 ?_
          refine lv_aload_n hx hb dX7_goesRound_80 rfl (lv_at hl 1 rfl) ?_
          refine m_get hC hin hP 16 (by decide) fl_many rfl (v := .int (M7.1 16)) rfl dX7_goesRound_81 ?_
          obtain ⟨z15, t14, e16, h⟩ := rdI_el h
          refine m_ild hC hP 14 (N := 320) rfl z15 e16 dX7_goesRound_84 ?_
          refine lv_icmp_ne (tgt := 109) hx hb dX7_goesRound_85 (by decide) (fun u17 => ?_) (fun u17 => ?_)
          · have h := ite_f u17 h
            refine lv_iconst (v := 0) hx hb dX7_goesRound_109 (by decide) ?_
            exact b110 _ _ _ M7 x2 t9 0 hP hS (lv_sub hl [1, 2, 0] rfl) h
          · have h := ite_t u17 h
            refine lv_aload_n hx hb dX7_goesRound_88 rfl (lv_at hl 1 rfl) ?_
            refine lv_iload_n hx hb dX7_goesRound_89 rfl (lv_at hl 2 rfl) ?_
            refine lv_aload_n hx hb dX7_goesRound_90 rfl (lv_at hl 1 rfl) ?_
            refine m_get hC hin hP 18 (by decide) fl_outs rfl (v := .ref (mAd G 18)) rfl dX7_goesRound_91 ?_
            refine lv_aload_n hx hb dX7_goesRound_94 rfl (lv_at hl 1 rfl) ?_
            refine m_get hC hin hP 16 (by decide) fl_many rfl (v := .int (M7.1 16)) rfl dX7_goesRound_95 ?_
            obtain ⟨z19, t18, e20, h⟩ := rdI_el h
            refine m_ild hC hP 15 (N := 320) rfl z19 e20 dX7_goesRound_98 ?_
            obtain ⟨t22, e21, h⟩ := cal_el h
            refine m_VI (As := [.int x2, .int t18]) (rest := []) hC hP hS (c_wayCross l G F M7 x2 t18 t22 e21) (cwV 2 hts (gWM wm_77 wm_78 wm_79 wm_7 wm_73) rfl rfl rfl (by decide +kernel) ⟨Nat.le_of_ble_eq_true rfl, Nat.le_of_ble_eq_true rfl⟩) rfl hl.1 rfl (Nat.le_of_ble_eq_true rfl) dX7_goesRound_99 (fun H locs hP hS => ?_)
            refine lv_if_le (tgt := 109) hx hb dX7_goesRound_102 (by decide) (fun u23 => ?_) (fun u23 => ?_)
            · have h := ite_t u23 h
              refine lv_iconst (v := 0) hx hb dX7_goesRound_109 (by decide) ?_
              exact b110 _ _ _ M7 x2 t9 0 hP hS (lv_sub hl [1, 2, 0] rfl) h
            · have h := ite_f u23 h
              refine lv_iconst (v := 1) hx hb dX7_goesRound_105 (by decide) ?_
              refine lv_goto (tgt := 110) hx hb dX7_goesRound_106 (by decide) ?_
              exact b110 _ _ _ M7 x2 t9 1 hP hS (lv_sub hl [1, 2, 0] rfl) h
  refine m_entry (Nat.le_of_ble_eq_true rfl) (fun ls hl => ?_)
  have hl : lv_has ls 5 [(0, .ref (mO G)), (1, .int a1)] := hl
  unfold f_goesRound at h
  refine lv_iload_n hx hb dX7_goesRound_0 rfl (lv_at hl 1 rfl) ?_
  refine lv_istore_n (lv' := [(2, .int a1), (0, .ref (mO G)), (1, .int a1)]) hx hb dX7_goesRound_1 rfl hl (by decide) rfl (fun ls hl => ?_)
  refine lv_aload_n hx hb dX7_goesRound_2 rfl (lv_at hl 1 rfl) ?_
  refine m_get hC hin hP 17 (by decide) fl_lowests rfl (v := .ref (mAd G 17)) rfl dX7_goesRound_3 ?_
  refine lv_aload_n hx hb dX7_goesRound_6 rfl (lv_at hl 1 rfl) ?_
  refine m_get hC hin hP 16 (by decide) fl_many rfl (v := .int (M.1 16)) rfl dX7_goesRound_7 ?_
  refine lv_aload_n hx hb dX7_goesRound_10 rfl (lv_at hl 1 rfl) ?_
  refine lv_iload_n hx hb dX7_goesRound_11 rfl (lv_at hl 2 rfl) ?_
  obtain ⟨t2, e1, h⟩ := cal_el h
  refine m_VI (As := [.int a1]) (rest := [.int (M.1 16), .ref (mAd G 17)]) hC hP hS (c_begin l G F M a1 t2 e1) (cwV 1 hts (gWM wm_86 wm_87 wm_88 wm_7 wm_72) rfl rfl rfl (by decide +kernel) ⟨Nat.le_of_ble_eq_true rfl, Nat.le_of_ble_eq_true rfl⟩) rfl hl.1 rfl (Nat.le_of_ble_eq_true rfl) dX7_goesRound_12 (fun H locs hP hS => ?_)
  obtain ⟨z3, M5, e4, h⟩ := wrI_el h
  refine m_ist hC hP hS 14 (N := 320) rfl z3 (maset_17 G) e4 dX7_goesRound_15 (fun H locs hP hS => ?_)
  refine lv_aload_n hx hb dX7_goesRound_16 rfl (lv_at hl 1 rfl) ?_
  refine m_get hC hin hP 18 (by decide) fl_outs rfl (v := .ref (mAd G 18)) rfl dX7_goesRound_17 ?_
  refine lv_aload_n hx hb dX7_goesRound_20 rfl (lv_at hl 1 rfl) ?_
  refine m_get hC hin hP 16 (by decide) fl_many rfl (v := .int (M5.1 16)) rfl dX7_goesRound_21 ?_
  refine lv_iload_n hx hb dX7_goesRound_24 rfl (lv_at hl 2 rfl) ?_
  obtain ⟨z6, M8, e7, h⟩ := wrI_el h
  refine m_ist hC hP hS 15 (N := 320) rfl z6 (maset_18 G) e7 dX7_goesRound_25 (fun H locs hP hS => ?_)
  refine lv_aload_n hx hb dX7_goesRound_26 rfl (lv_at hl 1 rfl) ?_
  refine m_get hC hin hP 19 (by decide) fl_isAround rfl (v := .ref (mAd G 19)) rfl dX7_goesRound_27 ?_
  refine lv_aload_n hx hb dX7_goesRound_30 rfl (lv_at hl 1 rfl) ?_
  refine m_get hC hin hP 16 (by decide) fl_many rfl (v := .int (M8.1 16)) rfl dX7_goesRound_31 ?_
  refine lv_iconst (v := 0) hx hb dX7_goesRound_34 (by decide) ?_
  obtain ⟨z12, h⟩ := okB_el h
  obtain ⟨z9, M11, e10, h⟩ := wrI_el h
  refine m_zst hC hP hS 16 (N := 320) rfl z9 z12 (maset_19 G) e10 dX7_goesRound_35 (fun H locs hP hS => ?_)
  exact L36 F _ _ _ M11 a1 hP hS (lv_sub hl [1, 0] rfl) h

theorem dX7_laysRounds_0 : decode cX7_laysRounds 0 = .ok (.aload_n 0, 1) := by decide +kernel
theorem dX7_laysRounds_1 : decode cX7_laysRounds 1 = .ok (.iconst 0, 1) := by decide +kernel
theorem dX7_laysRounds_2 : decode cX7_laysRounds 2 = .ok (.putfield 162, 3) := by decide +kernel
theorem dX7_laysRounds_5 : decode cX7_laysRounds 5 = .ok (.iconst 0, 1) := by decide +kernel
theorem dX7_laysRounds_6 : decode cX7_laysRounds 6 = .ok (.istore_n 1, 1) := by decide +kernel
theorem dX7_laysRounds_7 : decode cX7_laysRounds 7 = .ok (.iload_n 1, 1) := by decide +kernel
theorem dX7_laysRounds_8 : decode cX7_laysRounds 8 = .ok (.iconst 2, 1) := by decide +kernel
theorem dX7_laysRounds_9 : decode cX7_laysRounds 9 = .ok (.aload_n 0, 1) := by decide +kernel
theorem dX7_laysRounds_10 : decode cX7_laysRounds 10 = .ok (.getfield 138, 3) := by decide +kernel
theorem dX7_laysRounds_13 : decode cX7_laysRounds 13 = .ok (.imul, 1) := by decide +kernel
theorem dX7_laysRounds_14 : decode cX7_laysRounds 14 = .ok (.if_icmp .ge 16, 3) := by decide +kernel
theorem dX7_laysRounds_17 : decode cX7_laysRounds 17 = .ok (.aload_n 0, 1) := by decide +kernel
theorem dX7_laysRounds_18 : decode cX7_laysRounds 18 = .ok (.getfield 47, 3) := by decide +kernel
theorem dX7_laysRounds_21 : decode cX7_laysRounds 21 = .ok (.iload_n 1, 1) := by decide +kernel
theorem dX7_laysRounds_22 : decode cX7_laysRounds 22 = .ok (.iconst (-1), 1) := by decide +kernel
theorem dX7_laysRounds_23 : decode cX7_laysRounds 23 = .ok (.iastore, 1) := by decide +kernel
theorem dX7_laysRounds_24 : decode cX7_laysRounds 24 = .ok (.iinc 1 1, 3) := by decide +kernel
theorem dX7_laysRounds_27 : decode cX7_laysRounds 27 = .ok (.goto (-20), 3) := by decide +kernel
theorem dX7_laysRounds_30 : decode cX7_laysRounds 30 = .ok (.iconst 0, 1) := by decide +kernel
theorem dX7_laysRounds_31 : decode cX7_laysRounds 31 = .ok (.istore_n 1, 1) := by decide +kernel
theorem dX7_laysRounds_32 : decode cX7_laysRounds 32 = .ok (.iload_n 1, 1) := by decide +kernel
theorem dX7_laysRounds_33 : decode cX7_laysRounds 33 = .ok (.iconst 2, 1) := by decide +kernel
theorem dX7_laysRounds_34 : decode cX7_laysRounds 34 = .ok (.aload_n 0, 1) := by decide +kernel
theorem dX7_laysRounds_35 : decode cX7_laysRounds 35 = .ok (.getfield 138, 3) := by decide +kernel
theorem dX7_laysRounds_38 : decode cX7_laysRounds 38 = .ok (.imul, 1) := by decide +kernel
theorem dX7_laysRounds_39 : decode cX7_laysRounds 39 = .ok (.if_icmp .ge 34, 3) := by decide +kernel
theorem dX7_laysRounds_42 : decode cX7_laysRounds 42 = .ok (.aload_n 0, 1) := by decide +kernel
theorem dX7_laysRounds_43 : decode cX7_laysRounds 43 = .ok (.getfield 47, 3) := by decide +kernel
theorem dX7_laysRounds_46 : decode cX7_laysRounds 46 = .ok (.iload_n 1, 1) := by decide +kernel
theorem dX7_laysRounds_47 : decode cX7_laysRounds 47 = .ok (.iaload, 1) := by decide +kernel
theorem dX7_laysRounds_48 : decode cX7_laysRounds 48 = .ok (.iconst (-1), 1) := by decide +kernel
theorem dX7_laysRounds_49 : decode cX7_laysRounds 49 = .ok (.if_icmp .ne 18, 3) := by decide +kernel
theorem dX7_laysRounds_52 : decode cX7_laysRounds 52 = .ok (.aload_n 0, 1) := by decide +kernel
theorem dX7_laysRounds_53 : decode cX7_laysRounds 53 = .ok (.iload_n 1, 1) := by decide +kernel
theorem dX7_laysRounds_54 : decode cX7_laysRounds 54 = .ok (.invokevirtual 165, 3) := by decide +kernel
theorem dX7_laysRounds_57 : decode cX7_laysRounds 57 = .ok (.aload_n 0, 1) := by decide +kernel
theorem dX7_laysRounds_58 : decode cX7_laysRounds 58 = .ok (.dup, 1) := by decide +kernel
theorem dX7_laysRounds_59 : decode cX7_laysRounds 59 = .ok (.getfield 162, 3) := by decide +kernel
theorem dX7_laysRounds_62 : decode cX7_laysRounds 62 = .ok (.iconst 1, 1) := by decide +kernel
theorem dX7_laysRounds_63 : decode cX7_laysRounds 63 = .ok (.iadd, 1) := by decide +kernel
theorem dX7_laysRounds_64 : decode cX7_laysRounds 64 = .ok (.putfield 162, 3) := by decide +kernel
theorem dX7_laysRounds_67 : decode cX7_laysRounds 67 = .ok (.iinc 1 1, 3) := by decide +kernel
theorem dX7_laysRounds_70 : decode cX7_laysRounds 70 = .ok (.goto (-38), 3) := by decide +kernel
theorem dX7_laysRounds_73 : decode cX7_laysRounds 73 = .ok (.return_, 1) := by decide +kernel
def f_laysRounds_b67 (F : Nat) (k32 : MS → Int32 → Option MS) (M : MS) (x1 : Int32) : Option MS := k32 M (x1 + 1)
def f_laysRounds_L32 (F : Nat) : Nat → MS → Int32 → Option MS
  | 0, _, _ => none
  | n32 + 1, M, x1 => (if (2 * (M.1 11)) ≤ x1 then some M else rdI 320 (M.2.1 15) x1 fun t2 => (if t2 = ((-1)) then cal (f_goesRound F M x1) fun M7 => wrF M7 16 ((M7.1 16) + 1) fun M8 => f_laysRounds_b67 F ((f_laysRounds_L32 F n32)) M8 x1 else f_laysRounds_b67 F ((f_laysRounds_L32 F n32)) M x1))
def f_laysRounds_L7 (F : Nat) : Nat → MS → Int32 → Option MS
  | 0, _, _ => none
  | n7 + 1, M, x1 => (if (2 * (M.1 11)) ≤ x1 then f_laysRounds_L32 F F M 0 else wrI 320 M 15 x1 ((-1)) fun M4 => (f_laysRounds_L7 F n7) M4 (x1 + 1))
def f_laysRounds (F : Nat) (M : MS) : Option MS := wrF M 16 0 fun M1 => f_laysRounds_L7 F F M1 0
set_option maxRecDepth 100000 in
set_option maxHeartbeats 4000000 in
theorem c_laysRounds (l : Launch) (G : mG) (F : Nat) (M M2 : MS) (h : f_laysRounds F M = some M2) : mMV l yX7_laysRounds vX7_laysRounds ({ frames := 6, cells := 0, slots := 0, locals := 138 }) G [.ref (mO G)] M M2 := by
  refine mBodyV (cc := cX7_laysRounds) (maxL := 2) (ret := none) (by decide) rfl rfl ?_
  intro sz p e s m below meth c hC hP
  have hC0 := hC
  obtain ⟨hx, hb, -, hts, -, -, -, -, -, -⟩ := hC0
  have hS : va_S (mA G sz) s.heap s.heap [] := va_S.rf
  have hin : ∀ w ∈ wsX70, w ∈ vX7_laysRounds := fun w h => List.mem_cons_of_mem _ (List.mem_append_right _ h)
  have fl_many := hts _ (List.mem_cons_of_mem _ wm_94)
  have fl_edges := hts _ (List.mem_cons_of_mem _ wm_62)
  have fl_rounds := hts _ (List.mem_cons_of_mem _ wm_97)
  have L32 : ∀ (n32 : Nat) (H : Heap) (locs : List Loc) (ls : Array Slot) (M : MS) (x1 : Int32), va_P G.1 vwCl (mW G M) H → va_S (mA G sz) s.heap H locs → lv_has ls 2 [(0, .ref (mO G)), (1, .int x1)] → f_laysRounds_L32 F n32 M x1 = some M2 → W p l e (headSpec vX7_laysRounds ({ frames := 6, cells := 0, slots := 0, locals := 138 })).room s m ([.ref (mO G)] : List Value).toArray below meth c H locs 0 0 (mQV below G M2 sz ([.ref (mO G)] : List Value).toArray s) (F0 m 32 ls []) := by
    intro n32
    induction n32 with
    | zero =>
      intro H locs ls M x1 hP hS hl h
      rw [f_laysRounds_L32] at h; cases h
    | succ n32 ih32 =>
      have b67 : ∀ (H : Heap) (locs : List Loc) (ls : Array Slot) (M : MS) (x1 : Int32), va_P G.1 vwCl (mW G M) H → va_S (mA G sz) s.heap H locs → lv_has ls 2 [(0, .ref (mO G)), (1, .int x1)] → f_laysRounds_b67 F ((f_laysRounds_L32 F n32)) M x1 = some M2 → W p l e (headSpec vX7_laysRounds ({ frames := 6, cells := 0, slots := 0, locals := 138 })).room s m ([.ref (mO G)] : List Value).toArray below meth c H locs 0 0 (mQV below G M2 sz ([.ref (mO G)] : List Value).toArray s) (F0 m 67 ls []) := by
        intro H locs ls M x1 hP hS hl h
        unfold f_laysRounds_b67 at h
        refine lv_iinc (v := x1 + 1) (lv' := [(1, .int (x1 + 1)), (0, .ref (mO G))]) hx hb dX7_laysRounds_67 hl (k := 1) rfl rfl (by decide) rfl (fun ls hl => ?_)
        refine lv_goto (tgt := 32) hx hb dX7_laysRounds_70 (by decide) ?_
        exact ih32 _ _ _ M (x1 + 1) hP hS (lv_sub hl [1, 0] rfl) h
      intro H locs ls M x1 hP hS hl h
      rw [f_laysRounds_L32] at h
      refine lv_iload_n hx hb dX7_laysRounds_32 rfl (lv_at hl 1 rfl) ?_
      refine lv_iconst (v := 2) hx hb dX7_laysRounds_33 (by decide) ?_
      refine lv_aload_n hx hb dX7_laysRounds_34 rfl (lv_at hl 0 rfl) ?_
      refine m_get hC hin hP 11 (by decide) fl_edges rfl (v := .int (M.1 11)) rfl dX7_laysRounds_35 ?_
      refine lv_imul hx hb dX7_laysRounds_38 ?_
      refine lv_icmp_ge (tgt := 73) hx hb dX7_laysRounds_39 (by decide) (fun u1 => ?_) (fun u1 => ?_)
      · have h := ite_t u1 h
        cases h
        exact m_vret hC hP hS dX7_laysRounds_73
      · have h := ite_f u1 h
        refine lv_aload_n hx hb dX7_laysRounds_42 rfl (lv_at hl 0 rfl) ?_
        refine m_get hC hin hP 15 (by decide) fl_rounds rfl (v := .ref (mAd G 15)) rfl dX7_laysRounds_43 ?_
        refine lv_iload_n hx hb dX7_laysRounds_46 rfl (lv_at hl 1 rfl) ?_
        obtain ⟨z3, t2, e4, h⟩ := rdI_el h
        refine m_ild hC hP 13 (N := 320) rfl z3 e4 dX7_laysRounds_47 ?_
        refine lv_iconst (v := (-1)) hx hb dX7_laysRounds_48 (by decide) ?_
        refine lv_icmp_ne (tgt := 67) hx hb dX7_laysRounds_49 (by decide) (fun u5 => ?_) (fun u5 => ?_)
        · have h := ite_f u5 h
          exact b67 _ _ _ M x1 hP hS (lv_sub hl [0, 1] rfl) h
        · have h := ite_t u5 h
          refine lv_aload_n hx hb dX7_laysRounds_52 rfl (lv_at hl 0 rfl) ?_
          refine lv_iload_n hx hb dX7_laysRounds_53 rfl (lv_at hl 1 rfl) ?_
          obtain ⟨M7, e6, h⟩ := cal_el h
          refine m_VV (As := [.int x1]) (rest := []) hC hP hS (c_goesRound l G F M M7 x1 e6) (cwV 1 hts (gWM wm_102 wm_103 wm_104 wm_7 wm_92) rfl rfl rfl (by decide +kernel) ⟨Nat.le_of_ble_eq_true rfl, Nat.le_of_ble_eq_true rfl⟩) rfl hl.1 rfl (Nat.le_of_ble_eq_true rfl) dX7_laysRounds_54 (fun H locs hP hS => ?_)
          refine lv_aload_n hx hb dX7_laysRounds_57 rfl (lv_at hl 0 rfl) ?_
          refine lv_dup hx hb dX7_laysRounds_58 rfl ?_
          refine m_get hC hin hP 16 (by decide) fl_many rfl (v := .int (M7.1 16)) rfl dX7_laysRounds_59 ?_
          refine lv_iconst (v := 1) hx hb dX7_laysRounds_62 (by decide) ?_
          refine lv_iadd hx hb dX7_laysRounds_63 ?_
          obtain ⟨M8, e9, h⟩ := wrF_el h
          refine m_put hC hin hP hS 16 (by decide) fl_many rfl rfl (by decide +kernel) (mset_16 G _ _) e9 dX7_laysRounds_64 (fun H locs hP hS => ?_)
          exact b67 _ _ _ M8 x1 hP hS (lv_sub hl [0, 1] rfl) h
  have L7 : ∀ (n7 : Nat) (H : Heap) (locs : List Loc) (ls : Array Slot) (M : MS) (x1 : Int32), va_P G.1 vwCl (mW G M) H → va_S (mA G sz) s.heap H locs → lv_has ls 2 [(0, .ref (mO G)), (1, .int x1)] → f_laysRounds_L7 F n7 M x1 = some M2 → W p l e (headSpec vX7_laysRounds ({ frames := 6, cells := 0, slots := 0, locals := 138 })).room s m ([.ref (mO G)] : List Value).toArray below meth c H locs 0 0 (mQV below G M2 sz ([.ref (mO G)] : List Value).toArray s) (F0 m 7 ls []) := by
    intro n7
    induction n7 with
    | zero =>
      intro H locs ls M x1 hP hS hl h
      rw [f_laysRounds_L7] at h; cases h
    | succ n7 ih7 =>
      intro H locs ls M x1 hP hS hl h
      rw [f_laysRounds_L7] at h
      refine lv_iload_n hx hb dX7_laysRounds_7 rfl (lv_at hl 1 rfl) ?_
      refine lv_iconst (v := 2) hx hb dX7_laysRounds_8 (by decide) ?_
      refine lv_aload_n hx hb dX7_laysRounds_9 rfl (lv_at hl 0 rfl) ?_
      refine m_get hC hin hP 11 (by decide) fl_edges rfl (v := .int (M.1 11)) rfl dX7_laysRounds_10 ?_
      refine lv_imul hx hb dX7_laysRounds_13 ?_
      refine lv_icmp_ge (tgt := 30) hx hb dX7_laysRounds_14 (by decide) (fun u1 => ?_) (fun u1 => ?_)
      · have h := ite_t u1 h
        refine lv_iconst (v := 0) hx hb dX7_laysRounds_30 (by decide) ?_
        refine lv_istore_n (lv' := [(1, .int 0), (0, .ref (mO G))]) hx hb dX7_laysRounds_31 rfl hl (by decide) rfl (fun ls hl => ?_)
        exact L32 F _ _ _ M 0 hP hS (lv_sub hl [1, 0] rfl) h
      · have h := ite_f u1 h
        refine lv_aload_n hx hb dX7_laysRounds_17 rfl (lv_at hl 0 rfl) ?_
        refine m_get hC hin hP 15 (by decide) fl_rounds rfl (v := .ref (mAd G 15)) rfl dX7_laysRounds_18 ?_
        refine lv_iload_n hx hb dX7_laysRounds_21 rfl (lv_at hl 1 rfl) ?_
        refine lv_iconst (v := (-1)) hx hb dX7_laysRounds_22 (by decide) ?_
        obtain ⟨z2, M4, e3, h⟩ := wrI_el h
        refine m_ist hC hP hS 13 (N := 320) rfl z2 (maset_15 G) e3 dX7_laysRounds_23 (fun H locs hP hS => ?_)
        refine lv_iinc (v := x1 + 1) (lv' := [(1, .int (x1 + 1)), (0, .ref (mO G))]) hx hb dX7_laysRounds_24 hl (k := 1) rfl rfl (by decide) rfl (fun ls hl => ?_)
        refine lv_goto (tgt := 7) hx hb dX7_laysRounds_27 (by decide) ?_
        exact ih7 _ _ _ M4 (x1 + 1) hP hS (lv_sub hl [1, 0] rfl) h
  refine m_entry (Nat.le_of_ble_eq_true rfl) (fun ls hl => ?_)
  have hl : lv_has ls 2 [(0, .ref (mO G))] := hl
  unfold f_laysRounds at h
  refine lv_aload_n hx hb dX7_laysRounds_0 rfl (lv_at hl 0 rfl) ?_
  refine lv_iconst (v := 0) hx hb dX7_laysRounds_1 (by decide) ?_
  obtain ⟨M1, e2, h⟩ := wrF_el h
  refine m_put hC hin hP hS 16 (by decide) fl_many rfl rfl (by decide +kernel) (mset_16 G _ _) e2 dX7_laysRounds_2 (fun H locs hP hS => ?_)
  refine lv_iconst (v := 0) hx hb dX7_laysRounds_5 (by decide) ?_
  refine lv_istore_n (lv' := [(1, .int 0), (0, .ref (mO G))]) hx hb dX7_laysRounds_6 rfl hl (by decide) rfl (fun ls hl => ?_)
  exact L7 F _ _ _ M1 0 hP hS (lv_sub hl [1, 0] rfl) h

theorem dX7_highestOut_0 : decode cX7_highestOut 0 = .ok (.iconst (-1), 1) := by decide +kernel
theorem dX7_highestOut_1 : decode cX7_highestOut 1 = .ok (.istore_n 2, 1) := by decide +kernel
theorem dX7_highestOut_2 : decode cX7_highestOut 2 = .ok (.iconst 0, 1) := by decide +kernel
theorem dX7_highestOut_3 : decode cX7_highestOut 3 = .ok (.istore_n 3, 1) := by decide +kernel
theorem dX7_highestOut_4 : decode cX7_highestOut 4 = .ok (.iload_n 3, 1) := by decide +kernel
theorem dX7_highestOut_5 : decode cX7_highestOut 5 = .ok (.iconst 2, 1) := by decide +kernel
theorem dX7_highestOut_6 : decode cX7_highestOut 6 = .ok (.aload_n 0, 1) := by decide +kernel
theorem dX7_highestOut_7 : decode cX7_highestOut 7 = .ok (.getfield 138, 3) := by decide +kernel
theorem dX7_highestOut_10 : decode cX7_highestOut 10 = .ok (.imul, 1) := by decide +kernel
theorem dX7_highestOut_11 : decode cX7_highestOut 11 = .ok (.if_icmp .ge 50, 3) := by decide +kernel
theorem dX7_highestOut_14 : decode cX7_highestOut 14 = .ok (.aload_n 0, 1) := by decide +kernel
theorem dX7_highestOut_15 : decode cX7_highestOut 15 = .ok (.iload_n 3, 1) := by decide +kernel
theorem dX7_highestOut_16 : decode cX7_highestOut 16 = .ok (.invokevirtual 156, 3) := by decide +kernel
theorem dX7_highestOut_19 : decode cX7_highestOut 19 = .ok (.iload_n 1, 1) := by decide +kernel
theorem dX7_highestOut_20 : decode cX7_highestOut 20 = .ok (.if_icmp .ne 21, 3) := by decide +kernel
theorem dX7_highestOut_23 : decode cX7_highestOut 23 = .ok (.iload_n 2, 1) := by decide +kernel
theorem dX7_highestOut_24 : decode cX7_highestOut 24 = .ok (.iconst (-1), 1) := by decide +kernel
theorem dX7_highestOut_25 : decode cX7_highestOut 25 = .ok (.if_icmp .eq 12, 3) := by decide +kernel
theorem dX7_highestOut_28 : decode cX7_highestOut 28 = .ok (.aload_n 0, 1) := by decide +kernel
theorem dX7_highestOut_29 : decode cX7_highestOut 29 = .ok (.iload_n 2, 1) := by decide +kernel
theorem dX7_highestOut_30 : decode cX7_highestOut 30 = .ok (.iload_n 3, 1) := by decide +kernel
theorem dX7_highestOut_31 : decode cX7_highestOut 31 = .ok (.invokevirtual 147, 3) := by decide +kernel
theorem dX7_highestOut_34 : decode cX7_highestOut 34 = .ok (.ifCond .le 7, 3) := by decide +kernel
theorem dX7_highestOut_37 : decode cX7_highestOut 37 = .ok (.iconst 1, 1) := by decide +kernel
theorem dX7_highestOut_38 : decode cX7_highestOut 38 = .ok (.goto 4, 3) := by decide +kernel
theorem dX7_highestOut_41 : decode cX7_highestOut 41 = .ok (.iconst 0, 1) := by decide +kernel
theorem dX7_highestOut_42 : decode cX7_highestOut 42 = .ok (.istore 4, 2) := by decide +kernel
theorem dX7_highestOut_44 : decode cX7_highestOut 44 = .ok (.iload 4, 2) := by decide +kernel
theorem dX7_highestOut_46 : decode cX7_highestOut 46 = .ok (.ifCond .eq 7, 3) := by decide +kernel
theorem dX7_highestOut_49 : decode cX7_highestOut 49 = .ok (.iload_n 3, 1) := by decide +kernel
theorem dX7_highestOut_50 : decode cX7_highestOut 50 = .ok (.goto 4, 3) := by decide +kernel
theorem dX7_highestOut_53 : decode cX7_highestOut 53 = .ok (.iload_n 2, 1) := by decide +kernel
theorem dX7_highestOut_54 : decode cX7_highestOut 54 = .ok (.istore_n 2, 1) := by decide +kernel
theorem dX7_highestOut_55 : decode cX7_highestOut 55 = .ok (.iinc 3 1, 3) := by decide +kernel
theorem dX7_highestOut_58 : decode cX7_highestOut 58 = .ok (.goto (-54), 3) := by decide +kernel
theorem dX7_highestOut_61 : decode cX7_highestOut 61 = .ok (.iload_n 2, 1) := by decide +kernel
theorem dX7_highestOut_62 : decode cX7_highestOut 62 = .ok (.ireturn, 1) := by decide +kernel
def f_highestOut_b54 (F : Nat) (k4 : Int32 → Int32 → Int32 → Option Int32) (M : MS) (x1 : Int32) (x3 : Int32) (s0 : Int32) : Option Int32 := k4 x1 s0 (x3 + 1)
def f_highestOut_b42 (F : Nat) (k4 : Int32 → Int32 → Int32 → Option Int32) (M : MS) (x1 : Int32) (x2 : Int32) (x3 : Int32) (s0 : Int32) : Option Int32 := (if s0 = 0 then f_highestOut_b54 F k4 M x1 x3 x2 else f_highestOut_b54 F k4 M x1 x3 x3)
def f_highestOut_L4 (F : Nat) (M : MS) : Nat → Int32 → Int32 → Int32 → Option Int32
  | 0, _, _, _ => none
  | n4 + 1, x1, x2, x3 => (if (2 * (M.1 11)) ≤ x3 then some x2 else cal (f_begin F M x3) fun t3 => (if t3 = x1 then (if x2 = ((-1)) then f_highestOut_b42 F ((f_highestOut_L4 F M n4)) M x1 x2 x3 1 else cal (f_wayCross F M x2 x3) fun t7 => (if t7 ≤ 0 then f_highestOut_b42 F ((f_highestOut_L4 F M n4)) M x1 x2 x3 0 else f_highestOut_b42 F ((f_highestOut_L4 F M n4)) M x1 x2 x3 1)) else f_highestOut_b42 F ((f_highestOut_L4 F M n4)) M x1 x2 x3 0))
def f_highestOut (F : Nat) (M : MS) (a1 : Int32) : Option Int32 := f_highestOut_L4 F M F a1 ((-1)) 0
set_option maxRecDepth 100000 in
set_option maxHeartbeats 4000000 in
theorem c_highestOut (l : Launch) (G : mG) (F : Nat) (M : MS) (a1 : Int32) (r : Int32) (h : f_highestOut F M a1 = some r) : mMI l yX7_highestOut vX7_highestOut ({ frames := 3, cells := 0, slots := 0, locals := 66 }) G [.ref (mO G), .int a1] M M r := by
  refine mBodyI (cc := cX7_highestOut) (maxL := 5) (ret := (some .int)) (by decide) rfl rfl ?_
  intro sz p e s m below meth c hC hP
  have hC0 := hC
  obtain ⟨hx, hb, -, hts, -, -, -, -, -, -⟩ := hC0
  have hS : va_S (mA G sz) s.heap s.heap [] := va_S.rf
  have hin : ∀ w ∈ wsX70, w ∈ vX7_highestOut := fun w h => List.mem_cons_of_mem _ (List.mem_append_right _ h)
  have fl_edges := hts _ (List.mem_cons_of_mem _ wm_62)
  have L4 : ∀ (n4 : Nat) (H : Heap) (locs : List Loc) (ls : Array Slot) (x1 : Int32) (x2 : Int32) (x3 : Int32), va_P G.1 vwCl (mW G M) H → va_S (mA G sz) s.heap H locs → lv_has ls 5 [(0, .ref (mO G)), (1, .int x1), (2, .int x2), (3, .int x3)] → f_highestOut_L4 F M n4 x1 x2 x3 = some r → W p l e (headSpec vX7_highestOut ({ frames := 3, cells := 0, slots := 0, locals := 66 })).room s m ([.ref (mO G), .int a1] : List Value).toArray below meth c H locs 0 0 (mQI below G M sz ([.ref (mO G), .int a1] : List Value).toArray s r) (F0 m 4 ls []) := by
    intro n4
    induction n4 with
    | zero =>
      intro H locs ls x1 x2 x3 hP hS hl h
      rw [f_highestOut_L4] at h; cases h
    | succ n4 ih4 =>
      have b54 : ∀ (H : Heap) (locs : List Loc) (ls : Array Slot) (x1 : Int32) (x3 : Int32) (s0 : Int32), va_P G.1 vwCl (mW G M) H → va_S (mA G sz) s.heap H locs → lv_has ls 5 [(0, .ref (mO G)), (1, .int x1), (3, .int x3)] → f_highestOut_b54 F ((f_highestOut_L4 F M n4)) M x1 x3 s0 = some r → W p l e (headSpec vX7_highestOut ({ frames := 3, cells := 0, slots := 0, locals := 66 })).room s m ([.ref (mO G), .int a1] : List Value).toArray below meth c H locs 0 0 (mQI below G M sz ([.ref (mO G), .int a1] : List Value).toArray s r) (F0 m 54 ls [.int s0]) := by
        intro H locs ls x1 x3 s0 hP hS hl h
        unfold f_highestOut_b54 at h
        refine lv_istore_n (lv' := [(2, .int s0), (0, .ref (mO G)), (1, .int x1), (3, .int x3)]) hx hb dX7_highestOut_54 rfl hl (by decide) rfl (fun ls hl => ?_)
        refine lv_iinc (v := x3 + 1) (lv' := [(3, .int (x3 + 1)), (2, .int s0), (0, .ref (mO G)), (1, .int x1)]) hx hb dX7_highestOut_55 hl (k := 3) rfl rfl (by decide) rfl (fun ls hl => ?_)
        refine lv_goto (tgt := 4) hx hb dX7_highestOut_58 (by decide) ?_
        exact ih4 _ _ _ x1 s0 (x3 + 1) hP hS (lv_sub hl [2, 3, 1, 0] rfl) h
      have b42 : ∀ (H : Heap) (locs : List Loc) (ls : Array Slot) (x1 : Int32) (x2 : Int32) (x3 : Int32) (s0 : Int32), va_P G.1 vwCl (mW G M) H → va_S (mA G sz) s.heap H locs → lv_has ls 5 [(0, .ref (mO G)), (1, .int x1), (2, .int x2), (3, .int x3)] → f_highestOut_b42 F ((f_highestOut_L4 F M n4)) M x1 x2 x3 s0 = some r → W p l e (headSpec vX7_highestOut ({ frames := 3, cells := 0, slots := 0, locals := 66 })).room s m ([.ref (mO G), .int a1] : List Value).toArray below meth c H locs 0 0 (mQI below G M sz ([.ref (mO G), .int a1] : List Value).toArray s r) (F0 m 42 ls [.int s0]) := by
        intro H locs ls x1 x2 x3 s0 hP hS hl h
        unfold f_highestOut_b42 at h
        refine lv_istore (lv' := [(4, .int s0), (0, .ref (mO G)), (1, .int x1), (2, .int x2), (3, .int x3)]) hx hb dX7_highestOut_42 hl (by decide) rfl (fun ls hl => ?_)
        refine lv_iload hx hb dX7_highestOut_44 (lv_at hl 0 rfl) ?_
        refine lv_if_eq (tgt := 53) hx hb dX7_highestOut_46 (by decide) (fun u1 => ?_) (fun u1 => ?_)
        · have h := ite_t u1 h
          refine lv_iload_n hx hb dX7_highestOut_53 rfl (lv_at hl 3 rfl) ?_
          exact b54 _ _ _ x1 x3 x2 hP hS (lv_sub hl [1, 2, 4] rfl) h
        · have h := ite_f u1 h
          refine lv_iload_n hx hb dX7_highestOut_49 rfl (lv_at hl 4 rfl) ?_
          refine lv_goto (tgt := 54) hx hb dX7_highestOut_50 (by decide) ?_
          exact b54 _ _ _ x1 x3 x3 hP hS (lv_sub hl [1, 2, 4] rfl) h
      intro H locs ls x1 x2 x3 hP hS hl h
      rw [f_highestOut_L4] at h
      refine lv_iload_n hx hb dX7_highestOut_4 rfl (lv_at hl 3 rfl) ?_
      refine lv_iconst (v := 2) hx hb dX7_highestOut_5 (by decide) ?_
      refine lv_aload_n hx hb dX7_highestOut_6 rfl (lv_at hl 0 rfl) ?_
      refine m_get hC hin hP 11 (by decide) fl_edges rfl (v := .int (M.1 11)) rfl dX7_highestOut_7 ?_
      refine lv_imul hx hb dX7_highestOut_10 ?_
      refine lv_icmp_ge (tgt := 61) hx hb dX7_highestOut_11 (by decide) (fun u1 => ?_) (fun u1 => ?_)
      · have h := ite_t u1 h
        refine lv_iload_n hx hb dX7_highestOut_61 rfl (lv_at hl 2 rfl) ?_
        cases h
        exact m_iret hC hP hS rfl dX7_highestOut_62
      · have h := ite_f u1 h
        refine lv_aload_n hx hb dX7_highestOut_14 rfl (lv_at hl 0 rfl) ?_
        refine lv_iload_n hx hb dX7_highestOut_15 rfl (lv_at hl 3 rfl) ?_
        obtain ⟨t3, e2, h⟩ := cal_el h
        refine m_VI (As := [.int x3]) (rest := []) hC hP hS (c_begin l G F M x3 t3 e2) (cwV 1 hts (gWM wm_86 wm_87 wm_88 wm_7 wm_72) rfl rfl rfl (by decide +kernel) ⟨Nat.le_of_ble_eq_true rfl, Nat.le_of_ble_eq_true rfl⟩) rfl hl.1 rfl (Nat.le_of_ble_eq_true rfl) dX7_highestOut_16 (fun H locs hP hS => ?_)
        refine lv_iload_n hx hb dX7_highestOut_19 rfl (lv_at hl 1 rfl) ?_
        refine lv_icmp_ne (tgt := 41) hx hb dX7_highestOut_20 (by decide) (fun u4 => ?_) (fun u4 => ?_)
        · have h := ite_f u4 h
          refine lv_iconst (v := 0) hx hb dX7_highestOut_41 (by decide) ?_
          exact b42 _ _ _ x1 x2 x3 0 hP hS (lv_sub hl [0, 1, 2, 3] rfl) h
        · have h := ite_t u4 h
          refine lv_iload_n hx hb dX7_highestOut_23 rfl (lv_at hl 2 rfl) ?_
          refine lv_iconst (v := (-1)) hx hb dX7_highestOut_24 (by decide) ?_
          refine lv_icmp_eq (tgt := 37) hx hb dX7_highestOut_25 (by decide) (fun u5 => ?_) (fun u5 => ?_)
          · have h := ite_t u5 h
            refine lv_iconst (v := 1) hx hb dX7_highestOut_37 (by decide) ?_
            refine lv_goto (tgt := 42) hx hb dX7_highestOut_38 (by decide) ?_
            exact b42 _ _ _ x1 x2 x3 1 hP hS (lv_sub hl [0, 1, 2, 3] rfl) h
          · have h := ite_f u5 h
            refine lv_aload_n hx hb dX7_highestOut_28 rfl (lv_at hl 0 rfl) ?_
            refine lv_iload_n hx hb dX7_highestOut_29 rfl (lv_at hl 2 rfl) ?_
            refine lv_iload_n hx hb dX7_highestOut_30 rfl (lv_at hl 3 rfl) ?_
            obtain ⟨t7, e6, h⟩ := cal_el h
            refine m_VI (As := [.int x2, .int x3]) (rest := []) hC hP hS (c_wayCross l G F M x2 x3 t7 e6) (cwV 2 hts (gWM wm_77 wm_78 wm_79 wm_7 wm_73) rfl rfl rfl (by decide +kernel) ⟨Nat.le_of_ble_eq_true rfl, Nat.le_of_ble_eq_true rfl⟩) rfl hl.1 rfl (Nat.le_of_ble_eq_true rfl) dX7_highestOut_31 (fun H locs hP hS => ?_)
            refine lv_if_le (tgt := 41) hx hb dX7_highestOut_34 (by decide) (fun u8 => ?_) (fun u8 => ?_)
            · have h := ite_t u8 h
              refine lv_iconst (v := 0) hx hb dX7_highestOut_41 (by decide) ?_
              exact b42 _ _ _ x1 x2 x3 0 hP hS (lv_sub hl [0, 1, 2, 3] rfl) h
            · have h := ite_f u8 h
              refine lv_iconst (v := 1) hx hb dX7_highestOut_37 (by decide) ?_
              refine lv_goto (tgt := 42) hx hb dX7_highestOut_38 (by decide) ?_
              exact b42 _ _ _ x1 x2 x3 1 hP hS (lv_sub hl [0, 1, 2, 3] rfl) h
  refine m_entry (Nat.le_of_ble_eq_true rfl) (fun ls hl => ?_)
  have hl : lv_has ls 5 [(0, .ref (mO G)), (1, .int a1)] := hl
  unfold f_highestOut at h
  refine lv_iconst (v := (-1)) hx hb dX7_highestOut_0 (by decide) ?_
  refine lv_istore_n (lv' := [(2, .int ((-1))), (0, .ref (mO G)), (1, .int a1)]) hx hb dX7_highestOut_1 rfl hl (by decide) rfl (fun ls hl => ?_)
  refine lv_iconst (v := 0) hx hb dX7_highestOut_2 (by decide) ?_
  refine lv_istore_n (lv' := [(3, .int 0), (2, .int ((-1))), (0, .ref (mO G)), (1, .int a1)]) hx hb dX7_highestOut_3 rfl hl (by decide) rfl (fun ls hl => ?_)
  exact L4 F _ _ _ a1 ((-1)) 0 hP hS (lv_sub hl [2, 3, 1, 0] rfl) h

theorem dX7_isAhead_0 : decode cX7_isAhead 0 = .ok (.aload_n 0, 1) := by decide +kernel
theorem dX7_isAhead_1 : decode cX7_isAhead 1 = .ok (.getfield 50, 3) := by decide +kernel
theorem dX7_isAhead_4 : decode cX7_isAhead 4 = .ok (.iload_n 1, 1) := by decide +kernel
theorem dX7_isAhead_5 : decode cX7_isAhead 5 = .ok (.iaload, 1) := by decide +kernel
theorem dX7_isAhead_6 : decode cX7_isAhead 6 = .ok (.aload_n 0, 1) := by decide +kernel
theorem dX7_isAhead_7 : decode cX7_isAhead 7 = .ok (.getfield 50, 3) := by decide +kernel
theorem dX7_isAhead_10 : decode cX7_isAhead 10 = .ok (.iload_n 2, 1) := by decide +kernel
theorem dX7_isAhead_11 : decode cX7_isAhead 11 = .ok (.iaload, 1) := by decide +kernel
theorem dX7_isAhead_12 : decode cX7_isAhead 12 = .ok (.if_icmp .lt 37, 3) := by decide +kernel
theorem dX7_isAhead_15 : decode cX7_isAhead 15 = .ok (.aload_n 0, 1) := by decide +kernel
theorem dX7_isAhead_16 : decode cX7_isAhead 16 = .ok (.getfield 50, 3) := by decide +kernel
theorem dX7_isAhead_19 : decode cX7_isAhead 19 = .ok (.iload_n 1, 1) := by decide +kernel
theorem dX7_isAhead_20 : decode cX7_isAhead 20 = .ok (.iaload, 1) := by decide +kernel
theorem dX7_isAhead_21 : decode cX7_isAhead 21 = .ok (.aload_n 0, 1) := by decide +kernel
theorem dX7_isAhead_22 : decode cX7_isAhead 22 = .ok (.getfield 50, 3) := by decide +kernel
theorem dX7_isAhead_25 : decode cX7_isAhead 25 = .ok (.iload_n 2, 1) := by decide +kernel
theorem dX7_isAhead_26 : decode cX7_isAhead 26 = .ok (.iaload, 1) := by decide +kernel
theorem dX7_isAhead_27 : decode cX7_isAhead 27 = .ok (.if_icmp .ne 26, 3) := by decide +kernel
theorem dX7_isAhead_30 : decode cX7_isAhead 30 = .ok (.aload_n 0, 1) := by decide +kernel
theorem dX7_isAhead_31 : decode cX7_isAhead 31 = .ok (.aload_n 0, 1) := by decide +kernel
theorem dX7_isAhead_32 : decode cX7_isAhead 32 = .ok (.getfield 53, 3) := by decide +kernel
theorem dX7_isAhead_35 : decode cX7_isAhead 35 = .ok (.iload_n 1, 1) := by decide +kernel
theorem dX7_isAhead_36 : decode cX7_isAhead 36 = .ok (.iaload, 1) := by decide +kernel
theorem dX7_isAhead_37 : decode cX7_isAhead 37 = .ok (.aload_n 0, 1) := by decide +kernel
theorem dX7_isAhead_38 : decode cX7_isAhead 38 = .ok (.getfield 53, 3) := by decide +kernel
theorem dX7_isAhead_41 : decode cX7_isAhead 41 = .ok (.iload_n 2, 1) := by decide +kernel
theorem dX7_isAhead_42 : decode cX7_isAhead 42 = .ok (.iaload, 1) := by decide +kernel
theorem dX7_isAhead_43 : decode cX7_isAhead 43 = .ok (.invokevirtual 147, 3) := by decide +kernel
theorem dX7_isAhead_46 : decode cX7_isAhead 46 = .ok (.ifCond .le 7, 3) := by decide +kernel
theorem dX7_isAhead_49 : decode cX7_isAhead 49 = .ok (.iconst 1, 1) := by decide +kernel
theorem dX7_isAhead_50 : decode cX7_isAhead 50 = .ok (.goto 4, 3) := by decide +kernel
theorem dX7_isAhead_53 : decode cX7_isAhead 53 = .ok (.iconst 0, 1) := by decide +kernel
theorem dX7_isAhead_54 : decode cX7_isAhead 54 = .ok (.ireturn, 1) := by decide +kernel
def f_isAhead (F : Nat) (M : MS) (a1 : Int32) (a2 : Int32) : Option Int32 := rdI 320 (M.2.1 17) a1 fun t1 => rdI 320 (M.2.1 17) a2 fun t4 => (if t1 < t4 then okB 1 (some 1) else rdI 320 (M.2.1 17) a1 fun t9 => rdI 320 (M.2.1 17) a2 fun t12 => (if t9 = t12 then rdI 320 (M.2.1 18) a1 fun t17 => rdI 320 (M.2.1 18) a2 fun t20 => cal (f_wayCross F M t17 t20) fun t24 => (if t24 ≤ 0 then okB 0 (some 0) else okB 1 (some 1)) else okB 0 (some 0)))
set_option maxRecDepth 100000 in
set_option maxHeartbeats 4000000 in
theorem c_isAhead (l : Launch) (G : mG) (F : Nat) (M : MS) (a1 : Int32) (a2 : Int32) (r : Int32) (h : f_isAhead F M a1 a2 = some r) : mMI l yX7_isAhead vX7_isAhead ({ frames := 3, cells := 0, slots := 0, locals := 66 }) G [.ref (mO G), .int a1, .int a2] M M r := by
  refine mBodyI (cc := cX7_isAhead) (maxL := 3) (ret := (some .boolean)) (by decide) rfl rfl ?_
  intro sz p e s m below meth c hC hP
  have hC0 := hC
  obtain ⟨hx, hb, -, hts, -, -, -, -, -, -⟩ := hC0
  have hS : va_S (mA G sz) s.heap s.heap [] := va_S.rf
  have hin : ∀ w ∈ wsX70, w ∈ vX7_isAhead := fun w h => List.mem_cons_of_mem _ (List.mem_append_right _ h)
  have fl_lowests := hts _ (List.mem_cons_of_mem _ wm_93)
  have fl_outs := hts _ (List.mem_cons_of_mem _ wm_95)
  refine m_entry (Nat.le_of_ble_eq_true rfl) (fun ls hl => ?_)
  have hl : lv_has ls 3 [(0, .ref (mO G)), (1, .int a1), (2, .int a2)] := hl
  unfold f_isAhead at h
  refine lv_aload_n hx hb dX7_isAhead_0 rfl (lv_at hl 0 rfl) ?_
  refine m_get hC hin hP 17 (by decide) fl_lowests rfl (v := .ref (mAd G 17)) rfl dX7_isAhead_1 ?_
  refine lv_iload_n hx hb dX7_isAhead_4 rfl (lv_at hl 1 rfl) ?_
  obtain ⟨z2, t1, e3, h⟩ := rdI_el h
  refine m_ild hC hP 14 (N := 320) rfl z2 e3 dX7_isAhead_5 ?_
  refine lv_aload_n hx hb dX7_isAhead_6 rfl (lv_at hl 0 rfl) ?_
  refine m_get hC hin hP 17 (by decide) fl_lowests rfl (v := .ref (mAd G 17)) rfl dX7_isAhead_7 ?_
  refine lv_iload_n hx hb dX7_isAhead_10 rfl (lv_at hl 2 rfl) ?_
  obtain ⟨z5, t4, e6, h⟩ := rdI_el h
  refine m_ild hC hP 14 (N := 320) rfl z5 e6 dX7_isAhead_11 ?_
  refine lv_icmp_lt (tgt := 49) hx hb dX7_isAhead_12 (by decide) (fun u7 => ?_) (fun u7 => ?_)
  · have h := ite_t u7 h
    refine lv_iconst (v := 1) hx hb dX7_isAhead_49 (by decide) ?_
    refine lv_goto (tgt := 54) hx hb dX7_isAhead_50 (by decide) ?_
    obtain ⟨z8, h⟩ := okB_el h
    cases h
    exact m_zret hC hP hS z8 rfl dX7_isAhead_54
  · have h := ite_f u7 h
    refine lv_aload_n hx hb dX7_isAhead_15 rfl (lv_at hl 0 rfl) ?_
    refine m_get hC hin hP 17 (by decide) fl_lowests rfl (v := .ref (mAd G 17)) rfl dX7_isAhead_16 ?_
    refine lv_iload_n hx hb dX7_isAhead_19 rfl (lv_at hl 1 rfl) ?_
    obtain ⟨z10, t9, e11, h⟩ := rdI_el h
    refine m_ild hC hP 14 (N := 320) rfl z10 e11 dX7_isAhead_20 ?_
    refine lv_aload_n hx hb dX7_isAhead_21 rfl (lv_at hl 0 rfl) ?_
    refine m_get hC hin hP 17 (by decide) fl_lowests rfl (v := .ref (mAd G 17)) rfl dX7_isAhead_22 ?_
    refine lv_iload_n hx hb dX7_isAhead_25 rfl (lv_at hl 2 rfl) ?_
    obtain ⟨z13, t12, e14, h⟩ := rdI_el h
    refine m_ild hC hP 14 (N := 320) rfl z13 e14 dX7_isAhead_26 ?_
    refine lv_icmp_ne (tgt := 53) hx hb dX7_isAhead_27 (by decide) (fun u15 => ?_) (fun u15 => ?_)
    · have h := ite_f u15 h
      refine lv_iconst (v := 0) hx hb dX7_isAhead_53 (by decide) ?_
      obtain ⟨z16, h⟩ := okB_el h
      cases h
      exact m_zret hC hP hS z16 rfl dX7_isAhead_54
    · have h := ite_t u15 h
      refine lv_aload_n hx hb dX7_isAhead_30 rfl (lv_at hl 0 rfl) ?_
      refine lv_aload_n hx hb dX7_isAhead_31 rfl (lv_at hl 0 rfl) ?_
      refine m_get hC hin hP 18 (by decide) fl_outs rfl (v := .ref (mAd G 18)) rfl dX7_isAhead_32 ?_
      refine lv_iload_n hx hb dX7_isAhead_35 rfl (lv_at hl 1 rfl) ?_
      obtain ⟨z18, t17, e19, h⟩ := rdI_el h
      refine m_ild hC hP 15 (N := 320) rfl z18 e19 dX7_isAhead_36 ?_
      refine lv_aload_n hx hb dX7_isAhead_37 rfl (lv_at hl 0 rfl) ?_
      refine m_get hC hin hP 18 (by decide) fl_outs rfl (v := .ref (mAd G 18)) rfl dX7_isAhead_38 ?_
      refine lv_iload_n hx hb dX7_isAhead_41 rfl (lv_at hl 2 rfl) ?_
      obtain ⟨z21, t20, e22, h⟩ := rdI_el h
      refine m_ild hC hP 15 (N := 320) rfl z21 e22 dX7_isAhead_42 ?_
      obtain ⟨t24, e23, h⟩ := cal_el h
      refine m_VI (As := [.int t17, .int t20]) (rest := []) hC hP hS (c_wayCross l G F M t17 t20 t24 e23) (cwV 2 hts (gWM wm_77 wm_78 wm_79 wm_7 wm_73) rfl rfl rfl (by decide +kernel) ⟨Nat.le_of_ble_eq_true rfl, Nat.le_of_ble_eq_true rfl⟩) rfl hl.1 rfl (Nat.le_of_ble_eq_true rfl) dX7_isAhead_43 (fun H locs hP hS => ?_)
      refine lv_if_le (tgt := 53) hx hb dX7_isAhead_46 (by decide) (fun u25 => ?_) (fun u25 => ?_)
      · have h := ite_t u25 h
        refine lv_iconst (v := 0) hx hb dX7_isAhead_53 (by decide) ?_
        obtain ⟨z26, h⟩ := okB_el h
        cases h
        exact m_zret hC hP hS z26 rfl dX7_isAhead_54
      · have h := ite_f u25 h
        refine lv_iconst (v := 1) hx hb dX7_isAhead_49 (by decide) ?_
        refine lv_goto (tgt := 54) hx hb dX7_isAhead_50 (by decide) ?_
        obtain ⟨z27, h⟩ := okB_el h
        cases h
        exact m_zret hC hP hS z27 rfl dX7_isAhead_54

theorem dX7_height_0 : decode cX7_height 0 = .ok (.aload_n 0, 1) := by decide +kernel
theorem dX7_height_1 : decode cX7_height 1 = .ok (.getfield 13, 3) := by decide +kernel
theorem dX7_height_4 : decode cX7_height 4 = .ok (.iload_n 1, 1) := by decide +kernel
theorem dX7_height_5 : decode cX7_height 5 = .ok (.iaload, 1) := by decide +kernel
theorem dX7_height_6 : decode cX7_height 6 = .ok (.i2l, 1) := by decide +kernel
theorem dX7_height_7 : decode cX7_height 7 = .ok (.aload_n 0, 1) := by decide +kernel
theorem dX7_height_8 : decode cX7_height 8 = .ok (.iload_n 1, 1) := by decide +kernel
theorem dX7_height_9 : decode cX7_height 9 = .ok (.invokevirtual 74, 3) := by decide +kernel
theorem dX7_height_12 : decode cX7_height 12 = .ok (.i2l, 1) := by decide +kernel
theorem dX7_height_13 : decode cX7_height 13 = .ok (.lmul, 1) := by decide +kernel
theorem dX7_height_14 : decode cX7_height 14 = .ok (.lload 4, 2) := by decide +kernel
theorem dX7_height_16 : decode cX7_height 16 = .ok (.lmul, 1) := by decide +kernel
theorem dX7_height_17 : decode cX7_height 17 = .ok (.aload_n 0, 1) := by decide +kernel
theorem dX7_height_18 : decode cX7_height 18 = .ok (.iload_n 1, 1) := by decide +kernel
theorem dX7_height_19 : decode cX7_height 19 = .ok (.invokevirtual 78, 3) := by decide +kernel
theorem dX7_height_22 : decode cX7_height 22 = .ok (.i2l, 1) := by decide +kernel
theorem dX7_height_23 : decode cX7_height 23 = .ok (.lload_n 2, 1) := by decide +kernel
theorem dX7_height_24 : decode cX7_height 24 = .ok (.aload_n 0, 1) := by decide +kernel
theorem dX7_height_25 : decode cX7_height 25 = .ok (.getfield 7, 3) := by decide +kernel
theorem dX7_height_28 : decode cX7_height 28 = .ok (.iload_n 1, 1) := by decide +kernel
theorem dX7_height_29 : decode cX7_height 29 = .ok (.iaload, 1) := by decide +kernel
theorem dX7_height_30 : decode cX7_height 30 = .ok (.i2l, 1) := by decide +kernel
theorem dX7_height_31 : decode cX7_height 31 = .ok (.lload 4, 2) := by decide +kernel
theorem dX7_height_33 : decode cX7_height 33 = .ok (.lmul, 1) := by decide +kernel
theorem dX7_height_34 : decode cX7_height 34 = .ok (.lsub, 1) := by decide +kernel
theorem dX7_height_35 : decode cX7_height 35 = .ok (.lmul, 1) := by decide +kernel
theorem dX7_height_36 : decode cX7_height 36 = .ok (.ladd, 1) := by decide +kernel
theorem dX7_height_37 : decode cX7_height 37 = .ok (.lreturn, 1) := by decide +kernel
def f_height (F : Nat) (M : MS) (a1 : Int32) (a2 : Int64) (a3 : Int64) : Option Int64 := rdI 13 (M.2.1 2) a1 fun t1 => cal (f_dx F M a1) fun t5 => cal (f_dy F M a1) fun t7 => rdI 13 (M.2.1 1) a1 fun t8 => some (((t1.toInt64 * t5.toInt64) * a3) + (t7.toInt64 * (a2 - (t8.toInt64 * a3))))
set_option maxRecDepth 100000 in
set_option maxHeartbeats 4000000 in
theorem c_height (l : Launch) (G : mG) (F : Nat) (M : MS) (a1 : Int32) (a2 : Int64) (a3 : Int64) (r : Int64) (h : f_height F M a1 a2 a3 = some r) : mML l yX7_height vX7_height ({ frames := 1, cells := 0, slots := 0, locals := 21 }) G [.ref (mO G), .int a1, .long a2, .long a3] M M r := by
  refine mBodyL (cc := cX7_height) (maxL := 6) (ret := (some .long)) (by decide) rfl rfl ?_
  intro sz p e s m below meth c hC hP
  have hC0 := hC
  obtain ⟨hx, hb, -, hts, -, -, -, -, -, -⟩ := hC0
  have hS : va_S (mA G sz) s.heap s.heap [] := va_S.rf
  have hin : ∀ w ∈ wsX70, w ∈ vX7_height := fun w h => List.mem_cons_of_mem _ (List.mem_append_right _ h)
  have fl_y1 := hts _ (List.mem_cons_of_mem _ wm_13)
  have fl_x1 := hts _ (List.mem_cons_of_mem _ wm_10)
  refine m_entry (Nat.le_of_ble_eq_true rfl) (fun ls hl => ?_)
  have hl : lv_has ls 6 [(0, .ref (mO G)), (1, .int a1), (2, .long a2), (4, .long a3)] := hl
  unfold f_height at h
  refine lv_aload_n hx hb dX7_height_0 rfl (lv_at hl 0 rfl) ?_
  refine m_get hC hin hP 2 (by decide) fl_y1 rfl (v := .ref (mAd G 2)) rfl dX7_height_1 ?_
  refine lv_iload_n hx hb dX7_height_4 rfl (lv_at hl 1 rfl) ?_
  obtain ⟨z2, t1, e3, h⟩ := rdI_el h
  refine m_ild hC hP 2 (N := 13) rfl z2 e3 dX7_height_5 ?_
  refine lv_i2l (v := t1.toInt64) hx hb dX7_height_6 rfl ?_
  refine lv_aload_n hx hb dX7_height_7 rfl (lv_at hl 0 rfl) ?_
  refine lv_iload_n hx hb dX7_height_8 rfl (lv_at hl 1 rfl) ?_
  obtain ⟨t5, e4, h⟩ := cal_el h
  refine m_VI (As := [.int a1]) (rest := [.long t1.toInt64]) hC hP hS (c_dx l G F M a1 t5 e4) (cwV 1 hts (gWM wm_15 wm_16 wm_17 wm_7 wm_8) rfl rfl rfl (by decide +kernel) ⟨Nat.le_of_ble_eq_true rfl, Nat.le_of_ble_eq_true rfl⟩) rfl hl.1 rfl (Nat.le_of_ble_eq_true rfl) dX7_height_9 (fun H locs hP hS => ?_)
  refine lv_i2l (v := t5.toInt64) hx hb dX7_height_12 rfl ?_
  refine lv_lmul hx hb dX7_height_13 ?_
  refine lv_lload hx hb dX7_height_14 (lv_at hl 3 rfl) ?_
  refine lv_lmul hx hb dX7_height_16 ?_
  refine lv_aload_n hx hb dX7_height_17 rfl (lv_at hl 0 rfl) ?_
  refine lv_iload_n hx hb dX7_height_18 rfl (lv_at hl 1 rfl) ?_
  obtain ⟨t7, e6, h⟩ := cal_el h
  refine m_VI (As := [.int a1]) (rest := [.long ((t1.toInt64 * t5.toInt64) * a3)]) hC hP hS (c_dy l G F M a1 t7 e6) (cwV 1 hts (gWM wm_18 wm_19 wm_20 wm_7 wm_11) rfl rfl rfl (by decide +kernel) ⟨Nat.le_of_ble_eq_true rfl, Nat.le_of_ble_eq_true rfl⟩) rfl hl.1 rfl (Nat.le_of_ble_eq_true rfl) dX7_height_19 (fun H locs hP hS => ?_)
  refine lv_i2l (v := t7.toInt64) hx hb dX7_height_22 rfl ?_
  refine lv_lload_n hx hb dX7_height_23 rfl (lv_at hl 2 rfl) ?_
  refine lv_aload_n hx hb dX7_height_24 rfl (lv_at hl 0 rfl) ?_
  refine m_get hC hin hP 1 (by decide) fl_x1 rfl (v := .ref (mAd G 1)) rfl dX7_height_25 ?_
  refine lv_iload_n hx hb dX7_height_28 rfl (lv_at hl 1 rfl) ?_
  obtain ⟨z9, t8, e10, h⟩ := rdI_el h
  refine m_ild hC hP 1 (N := 13) rfl z9 e10 dX7_height_29 ?_
  refine lv_i2l (v := t8.toInt64) hx hb dX7_height_30 rfl ?_
  refine lv_lload hx hb dX7_height_31 (lv_at hl 3 rfl) ?_
  refine lv_lmul hx hb dX7_height_33 ?_
  refine lv_lsub hx hb dX7_height_34 ?_
  refine lv_lmul hx hb dX7_height_35 ?_
  refine lv_ladd hx hb dX7_height_36 ?_
  cases h
  exact m_lret hC hP hS rfl dX7_height_37

theorem dX7_heights_0 : decode cX7_heights 0 = .ok (.aload_n 0, 1) := by decide +kernel
theorem dX7_heights_1 : decode cX7_heights 1 = .ok (.iload_n 1, 1) := by decide +kernel
theorem dX7_heights_2 : decode cX7_heights 2 = .ok (.lload_n 3, 1) := by decide +kernel
theorem dX7_heights_3 : decode cX7_heights 3 = .ok (.lload 5, 2) := by decide +kernel
theorem dX7_heights_5 : decode cX7_heights 5 = .ok (.invokevirtual 172, 3) := by decide +kernel
theorem dX7_heights_8 : decode cX7_heights 8 = .ok (.aload_n 0, 1) := by decide +kernel
theorem dX7_heights_9 : decode cX7_heights 9 = .ok (.iload_n 1, 1) := by decide +kernel
theorem dX7_heights_10 : decode cX7_heights 10 = .ok (.invokevirtual 74, 3) := by decide +kernel
theorem dX7_heights_13 : decode cX7_heights 13 = .ok (.i2l, 1) := by decide +kernel
theorem dX7_heights_14 : decode cX7_heights 14 = .ok (.lload 5, 2) := by decide +kernel
theorem dX7_heights_16 : decode cX7_heights 16 = .ok (.lmul, 1) := by decide +kernel
theorem dX7_heights_17 : decode cX7_heights 17 = .ok (.aload_n 0, 1) := by decide +kernel
theorem dX7_heights_18 : decode cX7_heights 18 = .ok (.iload_n 2, 1) := by decide +kernel
theorem dX7_heights_19 : decode cX7_heights 19 = .ok (.lload_n 3, 1) := by decide +kernel
theorem dX7_heights_20 : decode cX7_heights 20 = .ok (.lload 5, 2) := by decide +kernel
theorem dX7_heights_22 : decode cX7_heights 22 = .ok (.invokevirtual 172, 3) := by decide +kernel
theorem dX7_heights_25 : decode cX7_heights 25 = .ok (.aload_n 0, 1) := by decide +kernel
theorem dX7_heights_26 : decode cX7_heights 26 = .ok (.iload_n 2, 1) := by decide +kernel
theorem dX7_heights_27 : decode cX7_heights 27 = .ok (.invokevirtual 74, 3) := by decide +kernel
theorem dX7_heights_30 : decode cX7_heights 30 = .ok (.i2l, 1) := by decide +kernel
theorem dX7_heights_31 : decode cX7_heights 31 = .ok (.lload 5, 2) := by decide +kernel
theorem dX7_heights_33 : decode cX7_heights 33 = .ok (.lmul, 1) := by decide +kernel
theorem dX7_heights_34 : decode cX7_heights 34 = .ok (.invokestatic 126, 3) := by decide +kernel
theorem dX7_heights_37 : decode cX7_heights 37 = .ok (.ireturn, 1) := by decide +kernel
def f_heights (F : Nat) (M : MS) (a1 : Int32) (a2 : Int32) (a3 : Int64) (a4 : Int64) : Option Int32 := cal (f_height F M a1 a3 a4) fun t2 => cal (f_dx F M a1) fun t4 => cal (f_height F M a2 a3 a4) fun t6 => cal (f_dx F M a2) fun t8 => cal (f_compare F M t2 (t4.toInt64 * a4) t6 (t8.toInt64 * a4)) fun t10 => some t10
set_option maxRecDepth 100000 in
set_option maxHeartbeats 4000000 in
theorem c_heights (l : Launch) (G : mG) (F : Nat) (M : MS) (a1 : Int32) (a2 : Int32) (a3 : Int64) (a4 : Int64) (r : Int32) (h : f_heights F M a1 a2 a3 a4 = some r) : mMI l yX7_heights vX7_heights ({ frames := 2, cells := 0, slots := 0, locals := 46 }) G [.ref (mO G), .int a1, .int a2, .long a3, .long a4] M M r := by
  refine mBodyI (cc := cX7_heights) (maxL := 7) (ret := (some .int)) (by decide) rfl rfl ?_
  intro sz p e s m below meth c hC hP
  have hC0 := hC
  obtain ⟨hx, hb, -, hts, -, -, -, -, -, -⟩ := hC0
  have hS : va_S (mA G sz) s.heap s.heap [] := va_S.rf
  refine m_entry (Nat.le_of_ble_eq_true rfl) (fun ls hl => ?_)
  have hl : lv_has ls 7 [(0, .ref (mO G)), (1, .int a1), (2, .int a2), (3, .long a3), (5, .long a4)] := hl
  unfold f_heights at h
  refine lv_aload_n hx hb dX7_heights_0 rfl (lv_at hl 0 rfl) ?_
  refine lv_iload_n hx hb dX7_heights_1 rfl (lv_at hl 1 rfl) ?_
  refine lv_lload_n hx hb dX7_heights_2 rfl (lv_at hl 3 rfl) ?_
  refine lv_lload hx hb dX7_heights_3 (lv_at hl 4 rfl) ?_
  obtain ⟨t2, e1, h⟩ := cal_el h
  refine m_VL (As := [.int a1, .long a3, .long a4]) (rest := []) hC hP hS (c_height l G F M a1 a3 a4 t2 e1) (cwV 3 hts (gWM wm_109 wm_110 wm_111 wm_7 wm_107) rfl rfl rfl (by decide +kernel) ⟨Nat.le_of_ble_eq_true rfl, Nat.le_of_ble_eq_true rfl⟩) rfl hl.1 rfl (Nat.le_of_ble_eq_true rfl) dX7_heights_5 (fun H locs hP hS => ?_)
  refine lv_aload_n hx hb dX7_heights_8 rfl (lv_at hl 0 rfl) ?_
  refine lv_iload_n hx hb dX7_heights_9 rfl (lv_at hl 1 rfl) ?_
  obtain ⟨t4, e3, h⟩ := cal_el h
  refine m_VI (As := [.int a1]) (rest := [.long t2]) hC hP hS (c_dx l G F M a1 t4 e3) (cwV 1 hts (gWM wm_15 wm_16 wm_17 wm_7 wm_8) rfl rfl rfl (by decide +kernel) ⟨Nat.le_of_ble_eq_true rfl, Nat.le_of_ble_eq_true rfl⟩) rfl hl.1 rfl (Nat.le_of_ble_eq_true rfl) dX7_heights_10 (fun H locs hP hS => ?_)
  refine lv_i2l (v := t4.toInt64) hx hb dX7_heights_13 rfl ?_
  refine lv_lload hx hb dX7_heights_14 (lv_at hl 4 rfl) ?_
  refine lv_lmul hx hb dX7_heights_16 ?_
  refine lv_aload_n hx hb dX7_heights_17 rfl (lv_at hl 0 rfl) ?_
  refine lv_iload_n hx hb dX7_heights_18 rfl (lv_at hl 2 rfl) ?_
  refine lv_lload_n hx hb dX7_heights_19 rfl (lv_at hl 3 rfl) ?_
  refine lv_lload hx hb dX7_heights_20 (lv_at hl 4 rfl) ?_
  obtain ⟨t6, e5, h⟩ := cal_el h
  refine m_VL (As := [.int a2, .long a3, .long a4]) (rest := [.long (t4.toInt64 * a4), .long t2]) hC hP hS (c_height l G F M a2 a3 a4 t6 e5) (cwV 3 hts (gWM wm_109 wm_110 wm_111 wm_7 wm_107) rfl rfl rfl (by decide +kernel) ⟨Nat.le_of_ble_eq_true rfl, Nat.le_of_ble_eq_true rfl⟩) rfl hl.1 rfl (Nat.le_of_ble_eq_true rfl) dX7_heights_22 (fun H locs hP hS => ?_)
  refine lv_aload_n hx hb dX7_heights_25 rfl (lv_at hl 0 rfl) ?_
  refine lv_iload_n hx hb dX7_heights_26 rfl (lv_at hl 2 rfl) ?_
  obtain ⟨t8, e7, h⟩ := cal_el h
  refine m_VI (As := [.int a2]) (rest := [.long t6, .long (t4.toInt64 * a4), .long t2]) hC hP hS (c_dx l G F M a2 t8 e7) (cwV 1 hts (gWM wm_15 wm_16 wm_17 wm_7 wm_8) rfl rfl rfl (by decide +kernel) ⟨Nat.le_of_ble_eq_true rfl, Nat.le_of_ble_eq_true rfl⟩) rfl hl.1 rfl (Nat.le_of_ble_eq_true rfl) dX7_heights_27 (fun H locs hP hS => ?_)
  refine lv_i2l (v := t8.toInt64) hx hb dX7_heights_30 rfl ?_
  refine lv_lload hx hb dX7_heights_31 (lv_at hl 4 rfl) ?_
  refine lv_lmul hx hb dX7_heights_33 ?_
  obtain ⟨t10, e9, h⟩ := cal_el h
  refine m_SI (As := [.long t2, .long (t4.toInt64 * a4), .long t6, .long (t8.toInt64 * a4)]) (rest := []) hC hP hS (c_compare l G F M t2 (t4.toInt64 * a4) t6 (t8.toInt64 * a4) t10 e9) (va_cwS 4 hts (gWMS wm_48 wm_49 wm_7 wm_40) rfl rfl rfl (by decide +kernel) ⟨Nat.le_of_ble_eq_true rfl, Nat.le_of_ble_eq_true rfl⟩) rfl hl.1 rfl (Nat.le_of_ble_eq_true rfl) dX7_heights_34 (fun H locs hP hS => ?_)
  cases h
  exact m_iret hC hP hS rfl dX7_heights_37

theorem dX7_slopes_0 : decode cX7_slopes 0 = .ok (.aload_n 0, 1) := by decide +kernel
theorem dX7_slopes_1 : decode cX7_slopes 1 = .ok (.iload_n 1, 1) := by decide +kernel
theorem dX7_slopes_2 : decode cX7_slopes 2 = .ok (.invokevirtual 78, 3) := by decide +kernel
theorem dX7_slopes_5 : decode cX7_slopes 5 = .ok (.aload_n 0, 1) := by decide +kernel
theorem dX7_slopes_6 : decode cX7_slopes 6 = .ok (.iload_n 2, 1) := by decide +kernel
theorem dX7_slopes_7 : decode cX7_slopes 7 = .ok (.invokevirtual 74, 3) := by decide +kernel
theorem dX7_slopes_10 : decode cX7_slopes 10 = .ok (.imul, 1) := by decide +kernel
theorem dX7_slopes_11 : decode cX7_slopes 11 = .ok (.aload_n 0, 1) := by decide +kernel
theorem dX7_slopes_12 : decode cX7_slopes 12 = .ok (.iload_n 2, 1) := by decide +kernel
theorem dX7_slopes_13 : decode cX7_slopes 13 = .ok (.invokevirtual 78, 3) := by decide +kernel
theorem dX7_slopes_16 : decode cX7_slopes 16 = .ok (.aload_n 0, 1) := by decide +kernel
theorem dX7_slopes_17 : decode cX7_slopes 17 = .ok (.iload_n 1, 1) := by decide +kernel
theorem dX7_slopes_18 : decode cX7_slopes 18 = .ok (.invokevirtual 74, 3) := by decide +kernel
theorem dX7_slopes_21 : decode cX7_slopes 21 = .ok (.imul, 1) := by decide +kernel
theorem dX7_slopes_22 : decode cX7_slopes 22 = .ok (.isub, 1) := by decide +kernel
theorem dX7_slopes_23 : decode cX7_slopes 23 = .ok (.ireturn, 1) := by decide +kernel
def f_slopes (F : Nat) (M : MS) (a1 : Int32) (a2 : Int32) : Option Int32 := cal (f_dy F M a1) fun t2 => cal (f_dx F M a2) fun t4 => cal (f_dy F M a2) fun t6 => cal (f_dx F M a1) fun t8 => some ((t2 * t4) - (t6 * t8))
set_option maxRecDepth 100000 in
set_option maxHeartbeats 4000000 in
theorem c_slopes (l : Launch) (G : mG) (F : Nat) (M : MS) (a1 : Int32) (a2 : Int32) (r : Int32) (h : f_slopes F M a1 a2 = some r) : mMI l yX7_slopes vX7_slopes ({ frames := 1, cells := 0, slots := 0, locals := 21 }) G [.ref (mO G), .int a1, .int a2] M M r := by
  refine mBodyI (cc := cX7_slopes) (maxL := 3) (ret := (some .int)) (by decide) rfl rfl ?_
  intro sz p e s m below meth c hC hP
  have hC0 := hC
  obtain ⟨hx, hb, -, hts, -, -, -, -, -, -⟩ := hC0
  have hS : va_S (mA G sz) s.heap s.heap [] := va_S.rf
  refine m_entry (Nat.le_of_ble_eq_true rfl) (fun ls hl => ?_)
  have hl : lv_has ls 3 [(0, .ref (mO G)), (1, .int a1), (2, .int a2)] := hl
  unfold f_slopes at h
  refine lv_aload_n hx hb dX7_slopes_0 rfl (lv_at hl 0 rfl) ?_
  refine lv_iload_n hx hb dX7_slopes_1 rfl (lv_at hl 1 rfl) ?_
  obtain ⟨t2, e1, h⟩ := cal_el h
  refine m_VI (As := [.int a1]) (rest := []) hC hP hS (c_dy l G F M a1 t2 e1) (cwV 1 hts (gWM wm_18 wm_19 wm_20 wm_7 wm_11) rfl rfl rfl (by decide +kernel) ⟨Nat.le_of_ble_eq_true rfl, Nat.le_of_ble_eq_true rfl⟩) rfl hl.1 rfl (Nat.le_of_ble_eq_true rfl) dX7_slopes_2 (fun H locs hP hS => ?_)
  refine lv_aload_n hx hb dX7_slopes_5 rfl (lv_at hl 0 rfl) ?_
  refine lv_iload_n hx hb dX7_slopes_6 rfl (lv_at hl 2 rfl) ?_
  obtain ⟨t4, e3, h⟩ := cal_el h
  refine m_VI (As := [.int a2]) (rest := [.int t2]) hC hP hS (c_dx l G F M a2 t4 e3) (cwV 1 hts (gWM wm_15 wm_16 wm_17 wm_7 wm_8) rfl rfl rfl (by decide +kernel) ⟨Nat.le_of_ble_eq_true rfl, Nat.le_of_ble_eq_true rfl⟩) rfl hl.1 rfl (Nat.le_of_ble_eq_true rfl) dX7_slopes_7 (fun H locs hP hS => ?_)
  refine lv_imul hx hb dX7_slopes_10 ?_
  refine lv_aload_n hx hb dX7_slopes_11 rfl (lv_at hl 0 rfl) ?_
  refine lv_iload_n hx hb dX7_slopes_12 rfl (lv_at hl 2 rfl) ?_
  obtain ⟨t6, e5, h⟩ := cal_el h
  refine m_VI (As := [.int a2]) (rest := [.int (t2 * t4)]) hC hP hS (c_dy l G F M a2 t6 e5) (cwV 1 hts (gWM wm_18 wm_19 wm_20 wm_7 wm_11) rfl rfl rfl (by decide +kernel) ⟨Nat.le_of_ble_eq_true rfl, Nat.le_of_ble_eq_true rfl⟩) rfl hl.1 rfl (Nat.le_of_ble_eq_true rfl) dX7_slopes_13 (fun H locs hP hS => ?_)
  refine lv_aload_n hx hb dX7_slopes_16 rfl (lv_at hl 0 rfl) ?_
  refine lv_iload_n hx hb dX7_slopes_17 rfl (lv_at hl 1 rfl) ?_
  obtain ⟨t8, e7, h⟩ := cal_el h
  refine m_VI (As := [.int a1]) (rest := [.int t6, .int (t2 * t4)]) hC hP hS (c_dx l G F M a1 t8 e7) (cwV 1 hts (gWM wm_15 wm_16 wm_17 wm_7 wm_8) rfl rfl rfl (by decide +kernel) ⟨Nat.le_of_ble_eq_true rfl, Nat.le_of_ble_eq_true rfl⟩) rfl hl.1 rfl (Nat.le_of_ble_eq_true rfl) dX7_slopes_18 (fun H locs hP hS => ?_)
  refine lv_imul hx hb dX7_slopes_21 ?_
  refine lv_isub hx hb dX7_slopes_22 ?_
  cases h
  exact m_iret hC hP hS rfl dX7_slopes_23

theorem dX7_faceOver_0 : decode cX7_faceOver 0 = .ok (.iconst 0, 1) := by decide +kernel
theorem dX7_faceOver_1 : decode cX7_faceOver 1 = .ok (.istore 7, 2) := by decide +kernel
theorem dX7_faceOver_3 : decode cX7_faceOver 3 = .ok (.iconst 0, 1) := by decide +kernel
theorem dX7_faceOver_4 : decode cX7_faceOver 4 = .ok (.istore 8, 2) := by decide +kernel
theorem dX7_faceOver_6 : decode cX7_faceOver 6 = .ok (.iload 8, 2) := by decide +kernel
theorem dX7_faceOver_8 : decode cX7_faceOver 8 = .ok (.aload_n 0, 1) := by decide +kernel
theorem dX7_faceOver_9 : decode cX7_faceOver 9 = .ok (.getfield 138, 3) := by decide +kernel
theorem dX7_faceOver_12 : decode cX7_faceOver 12 = .ok (.if_icmp .ge 145, 3) := by decide +kernel
theorem dX7_faceOver_15 : decode cX7_faceOver 15 = .ok (.aload_n 0, 1) := by decide +kernel
theorem dX7_faceOver_16 : decode cX7_faceOver 16 = .ok (.getfield 22, 3) := by decide +kernel
theorem dX7_faceOver_19 : decode cX7_faceOver 19 = .ok (.aload_n 0, 1) := by decide +kernel
theorem dX7_faceOver_20 : decode cX7_faceOver 20 = .ok (.getfield 41, 3) := by decide +kernel
theorem dX7_faceOver_23 : decode cX7_faceOver 23 = .ok (.iload 8, 2) := by decide +kernel
theorem dX7_faceOver_25 : decode cX7_faceOver 25 = .ok (.iaload, 1) := by decide +kernel
theorem dX7_faceOver_26 : decode cX7_faceOver 26 = .ok (.laload, 1) := by decide +kernel
theorem dX7_faceOver_27 : decode cX7_faceOver 27 = .ok (.aload_n 0, 1) := by decide +kernel
theorem dX7_faceOver_28 : decode cX7_faceOver 28 = .ok (.getfield 26, 3) := by decide +kernel
theorem dX7_faceOver_31 : decode cX7_faceOver 31 = .ok (.aload_n 0, 1) := by decide +kernel
theorem dX7_faceOver_32 : decode cX7_faceOver 32 = .ok (.getfield 41, 3) := by decide +kernel
theorem dX7_faceOver_35 : decode cX7_faceOver 35 = .ok (.iload 8, 2) := by decide +kernel
theorem dX7_faceOver_37 : decode cX7_faceOver 37 = .ok (.iaload, 1) := by decide +kernel
theorem dX7_faceOver_38 : decode cX7_faceOver 38 = .ok (.laload, 1) := by decide +kernel
theorem dX7_faceOver_39 : decode cX7_faceOver 39 = .ok (.lload_n 2, 1) := by decide +kernel
theorem dX7_faceOver_40 : decode cX7_faceOver 40 = .ok (.lload 4, 2) := by decide +kernel
theorem dX7_faceOver_42 : decode cX7_faceOver 42 = .ok (.invokestatic 126, 3) := by decide +kernel
theorem dX7_faceOver_45 : decode cX7_faceOver 45 = .ok (.istore 9, 2) := by decide +kernel
theorem dX7_faceOver_47 : decode cX7_faceOver 47 = .ok (.aload_n 0, 1) := by decide +kernel
theorem dX7_faceOver_48 : decode cX7_faceOver 48 = .ok (.getfield 22, 3) := by decide +kernel
theorem dX7_faceOver_51 : decode cX7_faceOver 51 = .ok (.aload_n 0, 1) := by decide +kernel
theorem dX7_faceOver_52 : decode cX7_faceOver 52 = .ok (.getfield 44, 3) := by decide +kernel
theorem dX7_faceOver_55 : decode cX7_faceOver 55 = .ok (.iload 8, 2) := by decide +kernel
theorem dX7_faceOver_57 : decode cX7_faceOver 57 = .ok (.iaload, 1) := by decide +kernel
theorem dX7_faceOver_58 : decode cX7_faceOver 58 = .ok (.laload, 1) := by decide +kernel
theorem dX7_faceOver_59 : decode cX7_faceOver 59 = .ok (.aload_n 0, 1) := by decide +kernel
theorem dX7_faceOver_60 : decode cX7_faceOver 60 = .ok (.getfield 26, 3) := by decide +kernel
theorem dX7_faceOver_63 : decode cX7_faceOver 63 = .ok (.aload_n 0, 1) := by decide +kernel
theorem dX7_faceOver_64 : decode cX7_faceOver 64 = .ok (.getfield 44, 3) := by decide +kernel
theorem dX7_faceOver_67 : decode cX7_faceOver 67 = .ok (.iload 8, 2) := by decide +kernel
theorem dX7_faceOver_69 : decode cX7_faceOver 69 = .ok (.iaload, 1) := by decide +kernel
theorem dX7_faceOver_70 : decode cX7_faceOver 70 = .ok (.laload, 1) := by decide +kernel
theorem dX7_faceOver_71 : decode cX7_faceOver 71 = .ok (.lload_n 2, 1) := by decide +kernel
theorem dX7_faceOver_72 : decode cX7_faceOver 72 = .ok (.lload 4, 2) := by decide +kernel
theorem dX7_faceOver_74 : decode cX7_faceOver 74 = .ok (.invokestatic 126, 3) := by decide +kernel
theorem dX7_faceOver_77 : decode cX7_faceOver 77 = .ok (.istore 10, 2) := by decide +kernel
theorem dX7_faceOver_79 : decode cX7_faceOver 79 = .ok (.aload_n 0, 1) := by decide +kernel
theorem dX7_faceOver_80 : decode cX7_faceOver 80 = .ok (.getfield 38, 3) := by decide +kernel
theorem dX7_faceOver_83 : decode cX7_faceOver 83 = .ok (.iload 8, 2) := by decide +kernel
theorem dX7_faceOver_85 : decode cX7_faceOver 85 = .ok (.iaload, 1) := by decide +kernel
theorem dX7_faceOver_86 : decode cX7_faceOver 86 = .ok (.iload_n 1, 1) := by decide +kernel
theorem dX7_faceOver_87 : decode cX7_faceOver 87 = .ok (.if_icmp .ne 35, 3) := by decide +kernel
theorem dX7_faceOver_90 : decode cX7_faceOver 90 = .ok (.iload 6, 2) := by decide +kernel
theorem dX7_faceOver_92 : decode cX7_faceOver 92 = .ok (.ifCond .eq 16, 3) := by decide +kernel
theorem dX7_faceOver_95 : decode cX7_faceOver 95 = .ok (.iload 9, 2) := by decide +kernel
theorem dX7_faceOver_97 : decode cX7_faceOver 97 = .ok (.ifCond .ge 25, 3) := by decide +kernel
theorem dX7_faceOver_100 : decode cX7_faceOver 100 = .ok (.iload 10, 2) := by decide +kernel
theorem dX7_faceOver_102 : decode cX7_faceOver 102 = .ok (.ifCond .lt 20, 3) := by decide +kernel
theorem dX7_faceOver_105 : decode cX7_faceOver 105 = .ok (.goto 13, 3) := by decide +kernel
theorem dX7_faceOver_108 : decode cX7_faceOver 108 = .ok (.iload 9, 2) := by decide +kernel
theorem dX7_faceOver_110 : decode cX7_faceOver 110 = .ok (.ifCond .gt 12, 3) := by decide +kernel
theorem dX7_faceOver_113 : decode cX7_faceOver 113 = .ok (.iload 10, 2) := by decide +kernel
theorem dX7_faceOver_115 : decode cX7_faceOver 115 = .ok (.ifCond .le 7, 3) := by decide +kernel
theorem dX7_faceOver_118 : decode cX7_faceOver 118 = .ok (.iconst 1, 1) := by decide +kernel
theorem dX7_faceOver_119 : decode cX7_faceOver 119 = .ok (.goto 4, 3) := by decide +kernel
theorem dX7_faceOver_122 : decode cX7_faceOver 122 = .ok (.iconst 0, 1) := by decide +kernel
theorem dX7_faceOver_123 : decode cX7_faceOver 123 = .ok (.istore 11, 2) := by decide +kernel
theorem dX7_faceOver_125 : decode cX7_faceOver 125 = .ok (.iload 11, 2) := by decide +kernel
theorem dX7_faceOver_127 : decode cX7_faceOver 127 = .ok (.ifCond .eq 20, 3) := by decide +kernel
theorem dX7_faceOver_130 : decode cX7_faceOver 130 = .ok (.aload_n 0, 1) := by decide +kernel
theorem dX7_faceOver_131 : decode cX7_faceOver 131 = .ok (.getfield 60, 3) := by decide +kernel
theorem dX7_faceOver_134 : decode cX7_faceOver 134 = .ok (.aload_n 0, 1) := by decide +kernel
theorem dX7_faceOver_135 : decode cX7_faceOver 135 = .ok (.getfield 47, 3) := by decide +kernel
theorem dX7_faceOver_138 : decode cX7_faceOver 138 = .ok (.iconst 2, 1) := by decide +kernel
theorem dX7_faceOver_139 : decode cX7_faceOver 139 = .ok (.iload 8, 2) := by decide +kernel
theorem dX7_faceOver_141 : decode cX7_faceOver 141 = .ok (.imul, 1) := by decide +kernel
theorem dX7_faceOver_142 : decode cX7_faceOver 142 = .ok (.iaload, 1) := by decide +kernel
theorem dX7_faceOver_143 : decode cX7_faceOver 143 = .ok (.iaload, 1) := by decide +kernel
theorem dX7_faceOver_144 : decode cX7_faceOver 144 = .ok (.goto 5, 3) := by decide +kernel
theorem dX7_faceOver_147 : decode cX7_faceOver 147 = .ok (.iload 7, 2) := by decide +kernel
theorem dX7_faceOver_149 : decode cX7_faceOver 149 = .ok (.istore 7, 2) := by decide +kernel
theorem dX7_faceOver_151 : decode cX7_faceOver 151 = .ok (.iinc 8 1, 3) := by decide +kernel
theorem dX7_faceOver_154 : decode cX7_faceOver 154 = .ok (.goto (-148), 3) := by decide +kernel
theorem dX7_faceOver_157 : decode cX7_faceOver 157 = .ok (.iload 7, 2) := by decide +kernel
theorem dX7_faceOver_159 : decode cX7_faceOver 159 = .ok (.ireturn, 1) := by decide +kernel
def f_faceOver_b149 (F : Nat) (k6 : Int32 → Int64 → Int64 → Int32 → Int32 → Int32 → Option Int32) (M : MS) (x1 : Int32) (x2 : Int64) (x4 : Int64) (x6 : Int32) (x8 : Int32) (s0 : Int32) : Option Int32 := k6 x1 x2 x4 x6 s0 (x8 + 1)
def f_faceOver_b123 (F : Nat) (k6 : Int32 → Int64 → Int64 → Int32 → Int32 → Int32 → Option Int32) (M : MS) (x1 : Int32) (x2 : Int64) (x4 : Int64) (x6 : Int32) (x7 : Int32) (x8 : Int32) (s0 : Int32) : Option Int32 := (if s0 = 0 then f_faceOver_b149 F k6 M x1 x2 x4 x6 x8 x7 else rdI 320 (M.2.1 15) (2 * x8) fun t2 => rdI 320 (M.2.1 20) t2 fun t5 => f_faceOver_b149 F k6 M x1 x2 x4 x6 x8 t5)
def f_faceOver_L6 (F : Nat) (M : MS) : Nat → Int32 → Int64 → Int64 → Int32 → Int32 → Int32 → Option Int32
  | 0, _, _, _, _, _, _ => none
  | n6 + 1, x1, x2, x4, x6, x7, x8 => (if (M.1 11) ≤ x8 then some x7 else rdI 160 (M.2.1 13) x8 fun t2 => rdL 100 (M.2.2 6) t2 fun t5 => rdI 160 (M.2.1 13) x8 fun t8 => rdL 100 (M.2.2 7) t8 fun t11 => cal (f_compare F M t5 t11 x2 x4) fun t15 => rdI 160 (M.2.1 14) x8 fun t16 => rdL 100 (M.2.2 6) t16 fun t19 => rdI 160 (M.2.1 14) x8 fun t22 => rdL 100 (M.2.2 7) t22 fun t25 => cal (f_compare F M t19 t25 x2 x4) fun t29 => rdI 160 (M.2.1 12) x8 fun t30 => (if t30 = x1 then (if x6 = 0 then (if 0 < t15 then f_faceOver_b123 F ((f_faceOver_L6 F M n6)) M x1 x2 x4 x6 x7 x8 0 else (if t29 ≤ 0 then f_faceOver_b123 F ((f_faceOver_L6 F M n6)) M x1 x2 x4 x6 x7 x8 0 else f_faceOver_b123 F ((f_faceOver_L6 F M n6)) M x1 x2 x4 x6 x7 x8 1)) else (if 0 ≤ t15 then f_faceOver_b123 F ((f_faceOver_L6 F M n6)) M x1 x2 x4 x6 x7 x8 0 else (if t29 < 0 then f_faceOver_b123 F ((f_faceOver_L6 F M n6)) M x1 x2 x4 x6 x7 x8 0 else f_faceOver_b123 F ((f_faceOver_L6 F M n6)) M x1 x2 x4 x6 x7 x8 1))) else f_faceOver_b123 F ((f_faceOver_L6 F M n6)) M x1 x2 x4 x6 x7 x8 0))
def f_faceOver (F : Nat) (M : MS) (a1 : Int32) (a2 : Int64) (a3 : Int64) (a4 : Int32) : Option Int32 := f_faceOver_L6 F M F a1 a2 a3 a4 0 0
set_option maxRecDepth 100000 in
set_option maxHeartbeats 4000000 in
theorem c_faceOver (l : Launch) (G : mG) (F : Nat) (M : MS) (a1 : Int32) (a2 : Int64) (a3 : Int64) (a4 : Int32) (r : Int32) (h : f_faceOver F M a1 a2 a3 a4 = some r) : mMI l yX7_faceOver vX7_faceOver ({ frames := 1, cells := 0, slots := 0, locals := 29 }) G [.ref (mO G), .int a1, .long a2, .long a3, .int a4] M M r := by
  refine mBodyI (cc := cX7_faceOver) (maxL := 12) (ret := (some .int)) (by decide) rfl rfl ?_
  intro sz p e s m below meth c hC hP
  have hC0 := hC
  obtain ⟨hx, hb, -, hts, -, -, -, -, -, -⟩ := hC0
  have hS : va_S (mA G sz) s.heap s.heap [] := va_S.rf
  have hin : ∀ w ∈ wsX70, w ∈ vX7_faceOver := fun w h => List.mem_cons_of_mem _ (List.mem_append_right _ h)
  have fl_edges := hts _ (List.mem_cons_of_mem _ wm_62)
  have fl_xn := hts _ (List.mem_cons_of_mem _ wm_44)
  have fl_froms := hts _ (List.mem_cons_of_mem _ wm_64)
  have fl_xd := hts _ (List.mem_cons_of_mem _ wm_45)
  have fl_tos := hts _ (List.mem_cons_of_mem _ wm_65)
  have fl_ofs := hts _ (List.mem_cons_of_mem _ wm_63)
  have fl_faceOf := hts _ (List.mem_cons_of_mem _ wm_114)
  have fl_rounds := hts _ (List.mem_cons_of_mem _ wm_97)
  have L6 : ∀ (n6 : Nat) (H : Heap) (locs : List Loc) (ls : Array Slot) (x1 : Int32) (x2 : Int64) (x4 : Int64) (x6 : Int32) (x7 : Int32) (x8 : Int32), va_P G.1 vwCl (mW G M) H → va_S (mA G sz) s.heap H locs → lv_has ls 12 [(0, .ref (mO G)), (1, .int x1), (2, .long x2), (4, .long x4), (6, .int x6), (7, .int x7), (8, .int x8)] → f_faceOver_L6 F M n6 x1 x2 x4 x6 x7 x8 = some r → W p l e (headSpec vX7_faceOver ({ frames := 1, cells := 0, slots := 0, locals := 29 })).room s m ([.ref (mO G), .int a1, .long a2, .long a3, .int a4] : List Value).toArray below meth c H locs 0 0 (mQI below G M sz ([.ref (mO G), .int a1, .long a2, .long a3, .int a4] : List Value).toArray s r) (F0 m 6 ls []) := by
    intro n6
    induction n6 with
    | zero =>
      intro H locs ls x1 x2 x4 x6 x7 x8 hP hS hl h
      rw [f_faceOver_L6] at h; cases h
    | succ n6 ih6 =>
      have b149 : ∀ (H : Heap) (locs : List Loc) (ls : Array Slot) (x1 : Int32) (x2 : Int64) (x4 : Int64) (x6 : Int32) (x8 : Int32) (s0 : Int32), va_P G.1 vwCl (mW G M) H → va_S (mA G sz) s.heap H locs → lv_has ls 12 [(0, .ref (mO G)), (1, .int x1), (2, .long x2), (4, .long x4), (6, .int x6), (8, .int x8)] → f_faceOver_b149 F ((f_faceOver_L6 F M n6)) M x1 x2 x4 x6 x8 s0 = some r → W p l e (headSpec vX7_faceOver ({ frames := 1, cells := 0, slots := 0, locals := 29 })).room s m ([.ref (mO G), .int a1, .long a2, .long a3, .int a4] : List Value).toArray below meth c H locs 0 0 (mQI below G M sz ([.ref (mO G), .int a1, .long a2, .long a3, .int a4] : List Value).toArray s r) (F0 m 149 ls [.int s0]) := by
        intro H locs ls x1 x2 x4 x6 x8 s0 hP hS hl h
        unfold f_faceOver_b149 at h
        refine lv_istore (lv' := [(7, .int s0), (0, .ref (mO G)), (1, .int x1), (2, .long x2), (4, .long x4), (6, .int x6), (8, .int x8)]) hx hb dX7_faceOver_149 hl (by decide) rfl (fun ls hl => ?_)
        refine lv_iinc (v := x8 + 1) (lv' := [(8, .int (x8 + 1)), (7, .int s0), (0, .ref (mO G)), (1, .int x1), (2, .long x2), (4, .long x4), (6, .int x6)]) hx hb dX7_faceOver_151 hl (k := 6) rfl rfl (by decide) rfl (fun ls hl => ?_)
        refine lv_goto (tgt := 6) hx hb dX7_faceOver_154 (by decide) ?_
        exact ih6 _ _ _ x1 x2 x4 x6 s0 (x8 + 1) hP hS (lv_sub hl [2, 3, 4, 5, 6, 1, 0] rfl) h
      have b123 : ∀ (H : Heap) (locs : List Loc) (ls : Array Slot) (x1 : Int32) (x2 : Int64) (x4 : Int64) (x6 : Int32) (x7 : Int32) (x8 : Int32) (s0 : Int32), va_P G.1 vwCl (mW G M) H → va_S (mA G sz) s.heap H locs → lv_has ls 12 [(0, .ref (mO G)), (1, .int x1), (2, .long x2), (4, .long x4), (6, .int x6), (7, .int x7), (8, .int x8)] → f_faceOver_b123 F ((f_faceOver_L6 F M n6)) M x1 x2 x4 x6 x7 x8 s0 = some r → W p l e (headSpec vX7_faceOver ({ frames := 1, cells := 0, slots := 0, locals := 29 })).room s m ([.ref (mO G), .int a1, .long a2, .long a3, .int a4] : List Value).toArray below meth c H locs 0 0 (mQI below G M sz ([.ref (mO G), .int a1, .long a2, .long a3, .int a4] : List Value).toArray s r) (F0 m 123 ls [.int s0]) := by
        intro H locs ls x1 x2 x4 x6 x7 x8 s0 hP hS hl h
        unfold f_faceOver_b123 at h
        refine lv_istore (lv' := [(11, .int s0), (0, .ref (mO G)), (1, .int x1), (2, .long x2), (4, .long x4), (6, .int x6), (7, .int x7), (8, .int x8)]) hx hb dX7_faceOver_123 hl (by decide) rfl (fun ls hl => ?_)
        refine lv_iload hx hb dX7_faceOver_125 (lv_at hl 0 rfl) ?_
        refine lv_if_eq (tgt := 147) hx hb dX7_faceOver_127 (by decide) (fun u1 => ?_) (fun u1 => ?_)
        · have h := ite_t u1 h
          refine lv_iload hx hb dX7_faceOver_147 (lv_at hl 6 rfl) ?_
          exact b149 _ _ _ x1 x2 x4 x6 x8 x7 hP hS (lv_sub hl [1, 2, 3, 4, 5, 7] rfl) h
        · have h := ite_f u1 h
          refine lv_aload_n hx hb dX7_faceOver_130 rfl (lv_at hl 1 rfl) ?_
          refine m_get hC hin hP 20 (by decide) fl_faceOf rfl (v := .ref (mAd G 20)) rfl dX7_faceOver_131 ?_
          refine lv_aload_n hx hb dX7_faceOver_134 rfl (lv_at hl 1 rfl) ?_
          refine m_get hC hin hP 15 (by decide) fl_rounds rfl (v := .ref (mAd G 15)) rfl dX7_faceOver_135 ?_
          refine lv_iconst (v := 2) hx hb dX7_faceOver_138 (by decide) ?_
          refine lv_iload hx hb dX7_faceOver_139 (lv_at hl 7 rfl) ?_
          refine lv_imul hx hb dX7_faceOver_141 ?_
          obtain ⟨z3, t2, e4, h⟩ := rdI_el h
          refine m_ild hC hP 13 (N := 320) rfl z3 e4 dX7_faceOver_142 ?_
          obtain ⟨z6, t5, e7, h⟩ := rdI_el h
          refine m_ild hC hP 17 (N := 320) rfl z6 e7 dX7_faceOver_143 ?_
          refine lv_goto (tgt := 149) hx hb dX7_faceOver_144 (by decide) ?_
          exact b149 _ _ _ x1 x2 x4 x6 x8 t5 hP hS (lv_sub hl [1, 2, 3, 4, 5, 7] rfl) h
      intro H locs ls x1 x2 x4 x6 x7 x8 hP hS hl h
      rw [f_faceOver_L6] at h
      refine lv_iload hx hb dX7_faceOver_6 (lv_at hl 6 rfl) ?_
      refine lv_aload_n hx hb dX7_faceOver_8 rfl (lv_at hl 0 rfl) ?_
      refine m_get hC hin hP 11 (by decide) fl_edges rfl (v := .int (M.1 11)) rfl dX7_faceOver_9 ?_
      refine lv_icmp_ge (tgt := 157) hx hb dX7_faceOver_12 (by decide) (fun u1 => ?_) (fun u1 => ?_)
      · have h := ite_t u1 h
        refine lv_iload hx hb dX7_faceOver_157 (lv_at hl 5 rfl) ?_
        cases h
        exact m_iret hC hP hS rfl dX7_faceOver_159
      · have h := ite_f u1 h
        refine lv_aload_n hx hb dX7_faceOver_15 rfl (lv_at hl 0 rfl) ?_
        refine m_get hC hin hP 6 (by decide) fl_xn rfl (v := .ref (mAd G 6)) rfl dX7_faceOver_16 ?_
        refine lv_aload_n hx hb dX7_faceOver_19 rfl (lv_at hl 0 rfl) ?_
        refine m_get hC hin hP 13 (by decide) fl_froms rfl (v := .ref (mAd G 13)) rfl dX7_faceOver_20 ?_
        refine lv_iload hx hb dX7_faceOver_23 (lv_at hl 6 rfl) ?_
        obtain ⟨z3, t2, e4, h⟩ := rdI_el h
        refine m_ild hC hP 11 (N := 160) rfl z3 e4 dX7_faceOver_25 ?_
        obtain ⟨z6, t5, e7, h⟩ := rdL_el h
        refine m_lld hC hP 5 (N := 100) rfl z6 e7 dX7_faceOver_26 ?_
        refine lv_aload_n hx hb dX7_faceOver_27 rfl (lv_at hl 0 rfl) ?_
        refine m_get hC hin hP 7 (by decide) fl_xd rfl (v := .ref (mAd G 7)) rfl dX7_faceOver_28 ?_
        refine lv_aload_n hx hb dX7_faceOver_31 rfl (lv_at hl 0 rfl) ?_
        refine m_get hC hin hP 13 (by decide) fl_froms rfl (v := .ref (mAd G 13)) rfl dX7_faceOver_32 ?_
        refine lv_iload hx hb dX7_faceOver_35 (lv_at hl 6 rfl) ?_
        obtain ⟨z9, t8, e10, h⟩ := rdI_el h
        refine m_ild hC hP 11 (N := 160) rfl z9 e10 dX7_faceOver_37 ?_
        obtain ⟨z12, t11, e13, h⟩ := rdL_el h
        refine m_lld hC hP 6 (N := 100) rfl z12 e13 dX7_faceOver_38 ?_
        refine lv_lload_n hx hb dX7_faceOver_39 rfl (lv_at hl 2 rfl) ?_
        refine lv_lload hx hb dX7_faceOver_40 (lv_at hl 3 rfl) ?_
        obtain ⟨t15, e14, h⟩ := cal_el h
        refine m_SI (As := [.long t5, .long t11, .long x2, .long x4]) (rest := []) hC hP hS (c_compare l G F M t5 t11 x2 x4 t15 e14) (va_cwS 4 hts (gWMS wm_48 wm_49 wm_7 wm_40) rfl rfl rfl (by decide +kernel) ⟨Nat.le_of_ble_eq_true rfl, Nat.le_of_ble_eq_true rfl⟩) rfl hl.1 rfl (Nat.le_of_ble_eq_true rfl) dX7_faceOver_42 (fun H locs hP hS => ?_)
        refine lv_istore (lv' := [(9, .int t15), (0, .ref (mO G)), (1, .int x1), (2, .long x2), (4, .long x4), (6, .int x6), (7, .int x7), (8, .int x8)]) hx hb dX7_faceOver_45 hl (by decide) rfl (fun ls hl => ?_)
        refine lv_aload_n hx hb dX7_faceOver_47 rfl (lv_at hl 1 rfl) ?_
        refine m_get hC hin hP 6 (by decide) fl_xn rfl (v := .ref (mAd G 6)) rfl dX7_faceOver_48 ?_
        refine lv_aload_n hx hb dX7_faceOver_51 rfl (lv_at hl 1 rfl) ?_
        refine m_get hC hin hP 14 (by decide) fl_tos rfl (v := .ref (mAd G 14)) rfl dX7_faceOver_52 ?_
        refine lv_iload hx hb dX7_faceOver_55 (lv_at hl 7 rfl) ?_
        obtain ⟨z17, t16, e18, h⟩ := rdI_el h
        refine m_ild hC hP 12 (N := 160) rfl z17 e18 dX7_faceOver_57 ?_
        obtain ⟨z20, t19, e21, h⟩ := rdL_el h
        refine m_lld hC hP 5 (N := 100) rfl z20 e21 dX7_faceOver_58 ?_
        refine lv_aload_n hx hb dX7_faceOver_59 rfl (lv_at hl 1 rfl) ?_
        refine m_get hC hin hP 7 (by decide) fl_xd rfl (v := .ref (mAd G 7)) rfl dX7_faceOver_60 ?_
        refine lv_aload_n hx hb dX7_faceOver_63 rfl (lv_at hl 1 rfl) ?_
        refine m_get hC hin hP 14 (by decide) fl_tos rfl (v := .ref (mAd G 14)) rfl dX7_faceOver_64 ?_
        refine lv_iload hx hb dX7_faceOver_67 (lv_at hl 7 rfl) ?_
        obtain ⟨z23, t22, e24, h⟩ := rdI_el h
        refine m_ild hC hP 12 (N := 160) rfl z23 e24 dX7_faceOver_69 ?_
        obtain ⟨z26, t25, e27, h⟩ := rdL_el h
        refine m_lld hC hP 6 (N := 100) rfl z26 e27 dX7_faceOver_70 ?_
        refine lv_lload_n hx hb dX7_faceOver_71 rfl (lv_at hl 3 rfl) ?_
        refine lv_lload hx hb dX7_faceOver_72 (lv_at hl 4 rfl) ?_
        obtain ⟨t29, e28, h⟩ := cal_el h
        refine m_SI (As := [.long t19, .long t25, .long x2, .long x4]) (rest := []) hC hP hS (c_compare l G F M t19 t25 x2 x4 t29 e28) (va_cwS 4 hts (gWMS wm_48 wm_49 wm_7 wm_40) rfl rfl rfl (by decide +kernel) ⟨Nat.le_of_ble_eq_true rfl, Nat.le_of_ble_eq_true rfl⟩) rfl hl.1 rfl (Nat.le_of_ble_eq_true rfl) dX7_faceOver_74 (fun H locs hP hS => ?_)
        refine lv_istore (lv' := [(10, .int t29), (9, .int t15), (0, .ref (mO G)), (1, .int x1), (2, .long x2), (4, .long x4), (6, .int x6), (7, .int x7), (8, .int x8)]) hx hb dX7_faceOver_77 hl (by decide) rfl (fun ls hl => ?_)
        refine lv_aload_n hx hb dX7_faceOver_79 rfl (lv_at hl 2 rfl) ?_
        refine m_get hC hin hP 12 (by decide) fl_ofs rfl (v := .ref (mAd G 12)) rfl dX7_faceOver_80 ?_
        refine lv_iload hx hb dX7_faceOver_83 (lv_at hl 8 rfl) ?_
        obtain ⟨z31, t30, e32, h⟩ := rdI_el h
        refine m_ild hC hP 10 (N := 160) rfl z31 e32 dX7_faceOver_85 ?_
        refine lv_iload_n hx hb dX7_faceOver_86 rfl (lv_at hl 3 rfl) ?_
        refine lv_icmp_ne (tgt := 122) hx hb dX7_faceOver_87 (by decide) (fun u33 => ?_) (fun u33 => ?_)
        · have h := ite_f u33 h
          refine lv_iconst (v := 0) hx hb dX7_faceOver_122 (by decide) ?_
          exact b123 _ _ _ x1 x2 x4 x6 x7 x8 0 hP hS (lv_sub hl [2, 3, 4, 5, 6, 7, 8] rfl) h
        · have h := ite_t u33 h
          refine lv_iload hx hb dX7_faceOver_90 (lv_at hl 6 rfl) ?_
          refine lv_if_eq (tgt := 108) hx hb dX7_faceOver_92 (by decide) (fun u34 => ?_) (fun u34 => ?_)
          · have h := ite_t u34 h
            refine lv_iload hx hb dX7_faceOver_108 (lv_at hl 1 rfl) ?_
            refine lv_if_gt (tgt := 122) hx hb dX7_faceOver_110 (by decide) (fun u35 => ?_) (fun u35 => ?_)
            · have h := ite_t u35 h
              refine lv_iconst (v := 0) hx hb dX7_faceOver_122 (by decide) ?_
              exact b123 _ _ _ x1 x2 x4 x6 x7 x8 0 hP hS (lv_sub hl [2, 3, 4, 5, 6, 7, 8] rfl) h
            · have h := ite_f u35 h
              refine lv_iload hx hb dX7_faceOver_113 (lv_at hl 0 rfl) ?_
              refine lv_if_le (tgt := 122) hx hb dX7_faceOver_115 (by decide) (fun u36 => ?_) (fun u36 => ?_)
              · have h := ite_t u36 h
                refine lv_iconst (v := 0) hx hb dX7_faceOver_122 (by decide) ?_
                exact b123 _ _ _ x1 x2 x4 x6 x7 x8 0 hP hS (lv_sub hl [2, 3, 4, 5, 6, 7, 8] rfl) h
              · have h := ite_f u36 h
                refine lv_iconst (v := 1) hx hb dX7_faceOver_118 (by decide) ?_
                refine lv_goto (tgt := 123) hx hb dX7_faceOver_119 (by decide) ?_
                exact b123 _ _ _ x1 x2 x4 x6 x7 x8 1 hP hS (lv_sub hl [2, 3, 4, 5, 6, 7, 8] rfl) h
          · have h := ite_f u34 h
            refine lv_iload hx hb dX7_faceOver_95 (lv_at hl 1 rfl) ?_
            refine lv_if_ge (tgt := 122) hx hb dX7_faceOver_97 (by decide) (fun u37 => ?_) (fun u37 => ?_)
            · have h := ite_t u37 h
              refine lv_iconst (v := 0) hx hb dX7_faceOver_122 (by decide) ?_
              exact b123 _ _ _ x1 x2 x4 x6 x7 x8 0 hP hS (lv_sub hl [2, 3, 4, 5, 6, 7, 8] rfl) h
            · have h := ite_f u37 h
              refine lv_iload hx hb dX7_faceOver_100 (lv_at hl 0 rfl) ?_
              refine lv_if_lt (tgt := 122) hx hb dX7_faceOver_102 (by decide) (fun u38 => ?_) (fun u38 => ?_)
              · have h := ite_t u38 h
                refine lv_iconst (v := 0) hx hb dX7_faceOver_122 (by decide) ?_
                exact b123 _ _ _ x1 x2 x4 x6 x7 x8 0 hP hS (lv_sub hl [2, 3, 4, 5, 6, 7, 8] rfl) h
              · have h := ite_f u38 h
                refine lv_goto (tgt := 118) hx hb dX7_faceOver_105 (by decide) ?_
                refine lv_iconst (v := 1) hx hb dX7_faceOver_118 (by decide) ?_
                refine lv_goto (tgt := 123) hx hb dX7_faceOver_119 (by decide) ?_
                exact b123 _ _ _ x1 x2 x4 x6 x7 x8 1 hP hS (lv_sub hl [2, 3, 4, 5, 6, 7, 8] rfl) h
  refine m_entry (Nat.le_of_ble_eq_true rfl) (fun ls hl => ?_)
  have hl : lv_has ls 12 [(0, .ref (mO G)), (1, .int a1), (2, .long a2), (4, .long a3), (6, .int a4)] := hl
  unfold f_faceOver at h
  refine lv_iconst (v := 0) hx hb dX7_faceOver_0 (by decide) ?_
  refine lv_istore (lv' := [(7, .int 0), (0, .ref (mO G)), (1, .int a1), (2, .long a2), (4, .long a3), (6, .int a4)]) hx hb dX7_faceOver_1 hl (by decide) rfl (fun ls hl => ?_)
  refine lv_iconst (v := 0) hx hb dX7_faceOver_3 (by decide) ?_
  refine lv_istore (lv' := [(8, .int 0), (7, .int 0), (0, .ref (mO G)), (1, .int a1), (2, .long a2), (4, .long a3), (6, .int a4)]) hx hb dX7_faceOver_4 hl (by decide) rfl (fun ls hl => ?_)
  exact L6 F _ _ _ a1 a2 a3 a4 0 0 hP hS (lv_sub hl [2, 3, 4, 5, 6, 1, 0] rfl) h

theorem dX7_faceAbove_0 : decode cX7_faceAbove 0 = .ok (.iconst (-1), 1) := by decide +kernel
theorem dX7_faceAbove_1 : decode cX7_faceAbove 1 = .ok (.istore 10, 2) := by decide +kernel
theorem dX7_faceAbove_3 : decode cX7_faceAbove 3 = .ok (.iconst 0, 1) := by decide +kernel
theorem dX7_faceAbove_4 : decode cX7_faceAbove 4 = .ok (.istore 11, 2) := by decide +kernel
theorem dX7_faceAbove_6 : decode cX7_faceAbove 6 = .ok (.iload 11, 2) := by decide +kernel
theorem dX7_faceAbove_8 : decode cX7_faceAbove 8 = .ok (.aload_n 0, 1) := by decide +kernel
theorem dX7_faceAbove_9 : decode cX7_faceAbove 9 = .ok (.getfield 104, 3) := by decide +kernel
theorem dX7_faceAbove_12 : decode cX7_faceAbove 12 = .ok (.if_icmp .ge 210, 3) := by decide +kernel
theorem dX7_faceAbove_15 : decode cX7_faceAbove 15 = .ok (.aload_n 0, 1) := by decide +kernel
theorem dX7_faceAbove_16 : decode cX7_faceAbove 16 = .ok (.getfield 7, 3) := by decide +kernel
theorem dX7_faceAbove_19 : decode cX7_faceAbove 19 = .ok (.iload 11, 2) := by decide +kernel
theorem dX7_faceAbove_21 : decode cX7_faceAbove 21 = .ok (.iaload, 1) := by decide +kernel
theorem dX7_faceAbove_22 : decode cX7_faceAbove 22 = .ok (.i2l, 1) := by decide +kernel
theorem dX7_faceAbove_23 : decode cX7_faceAbove 23 = .ok (.lconst 1, 1) := by decide +kernel
theorem dX7_faceAbove_24 : decode cX7_faceAbove 24 = .ok (.lload_n 1, 1) := by decide +kernel
theorem dX7_faceAbove_25 : decode cX7_faceAbove 25 = .ok (.lload_n 3, 1) := by decide +kernel
theorem dX7_faceAbove_26 : decode cX7_faceAbove 26 = .ok (.invokestatic 126, 3) := by decide +kernel
theorem dX7_faceAbove_29 : decode cX7_faceAbove 29 = .ok (.istore 12, 2) := by decide +kernel
theorem dX7_faceAbove_31 : decode cX7_faceAbove 31 = .ok (.aload_n 0, 1) := by decide +kernel
theorem dX7_faceAbove_32 : decode cX7_faceAbove 32 = .ok (.getfield 16, 3) := by decide +kernel
theorem dX7_faceAbove_35 : decode cX7_faceAbove 35 = .ok (.iload 11, 2) := by decide +kernel
theorem dX7_faceAbove_37 : decode cX7_faceAbove 37 = .ok (.iaload, 1) := by decide +kernel
theorem dX7_faceAbove_38 : decode cX7_faceAbove 38 = .ok (.i2l, 1) := by decide +kernel
theorem dX7_faceAbove_39 : decode cX7_faceAbove 39 = .ok (.lconst 1, 1) := by decide +kernel
theorem dX7_faceAbove_40 : decode cX7_faceAbove 40 = .ok (.lload_n 1, 1) := by decide +kernel
theorem dX7_faceAbove_41 : decode cX7_faceAbove 41 = .ok (.lload_n 3, 1) := by decide +kernel
theorem dX7_faceAbove_42 : decode cX7_faceAbove 42 = .ok (.invokestatic 126, 3) := by decide +kernel
theorem dX7_faceAbove_45 : decode cX7_faceAbove 45 = .ok (.istore 13, 2) := by decide +kernel
theorem dX7_faceAbove_47 : decode cX7_faceAbove 47 = .ok (.aload_n 0, 1) := by decide +kernel
theorem dX7_faceAbove_48 : decode cX7_faceAbove 48 = .ok (.iload 11, 2) := by decide +kernel
theorem dX7_faceAbove_50 : decode cX7_faceAbove 50 = .ok (.invokevirtual 74, 3) := by decide +kernel
theorem dX7_faceAbove_53 : decode cX7_faceAbove 53 = .ok (.ifCond .le 35, 3) := by decide +kernel
theorem dX7_faceAbove_56 : decode cX7_faceAbove 56 = .ok (.iload 9, 2) := by decide +kernel
theorem dX7_faceAbove_58 : decode cX7_faceAbove 58 = .ok (.ifCond .eq 16, 3) := by decide +kernel
theorem dX7_faceAbove_61 : decode cX7_faceAbove 61 = .ok (.iload 12, 2) := by decide +kernel
theorem dX7_faceAbove_63 : decode cX7_faceAbove 63 = .ok (.ifCond .ge 25, 3) := by decide +kernel
theorem dX7_faceAbove_66 : decode cX7_faceAbove 66 = .ok (.iload 13, 2) := by decide +kernel
theorem dX7_faceAbove_68 : decode cX7_faceAbove 68 = .ok (.ifCond .lt 20, 3) := by decide +kernel
theorem dX7_faceAbove_71 : decode cX7_faceAbove 71 = .ok (.goto 13, 3) := by decide +kernel
theorem dX7_faceAbove_74 : decode cX7_faceAbove 74 = .ok (.iload 12, 2) := by decide +kernel
theorem dX7_faceAbove_76 : decode cX7_faceAbove 76 = .ok (.ifCond .gt 12, 3) := by decide +kernel
theorem dX7_faceAbove_79 : decode cX7_faceAbove 79 = .ok (.iload 13, 2) := by decide +kernel
theorem dX7_faceAbove_81 : decode cX7_faceAbove 81 = .ok (.ifCond .le 7, 3) := by decide +kernel
theorem dX7_faceAbove_84 : decode cX7_faceAbove 84 = .ok (.iconst 1, 1) := by decide +kernel
theorem dX7_faceAbove_85 : decode cX7_faceAbove 85 = .ok (.goto 4, 3) := by decide +kernel
theorem dX7_faceAbove_88 : decode cX7_faceAbove 88 = .ok (.iconst 0, 1) := by decide +kernel
theorem dX7_faceAbove_89 : decode cX7_faceAbove 89 = .ok (.istore 14, 2) := by decide +kernel
theorem dX7_faceAbove_91 : decode cX7_faceAbove 91 = .ok (.iload 14, 2) := by decide +kernel
theorem dX7_faceAbove_93 : decode cX7_faceAbove 93 = .ok (.ifCond .eq 34, 3) := by decide +kernel
theorem dX7_faceAbove_96 : decode cX7_faceAbove 96 = .ok (.aload_n 0, 1) := by decide +kernel
theorem dX7_faceAbove_97 : decode cX7_faceAbove 97 = .ok (.iload 11, 2) := by decide +kernel
theorem dX7_faceAbove_99 : decode cX7_faceAbove 99 = .ok (.lload_n 1, 1) := by decide +kernel
theorem dX7_faceAbove_100 : decode cX7_faceAbove 100 = .ok (.lload_n 3, 1) := by decide +kernel
theorem dX7_faceAbove_101 : decode cX7_faceAbove 101 = .ok (.invokevirtual 172, 3) := by decide +kernel
theorem dX7_faceAbove_104 : decode cX7_faceAbove 104 = .ok (.aload_n 0, 1) := by decide +kernel
theorem dX7_faceAbove_105 : decode cX7_faceAbove 105 = .ok (.iload 11, 2) := by decide +kernel
theorem dX7_faceAbove_107 : decode cX7_faceAbove 107 = .ok (.invokevirtual 74, 3) := by decide +kernel
theorem dX7_faceAbove_110 : decode cX7_faceAbove 110 = .ok (.i2l, 1) := by decide +kernel
theorem dX7_faceAbove_111 : decode cX7_faceAbove 111 = .ok (.lload_n 3, 1) := by decide +kernel
theorem dX7_faceAbove_112 : decode cX7_faceAbove 112 = .ok (.lmul, 1) := by decide +kernel
theorem dX7_faceAbove_113 : decode cX7_faceAbove 113 = .ok (.lload 5, 2) := by decide +kernel
theorem dX7_faceAbove_115 : decode cX7_faceAbove 115 = .ok (.lload 7, 2) := by decide +kernel
theorem dX7_faceAbove_117 : decode cX7_faceAbove 117 = .ok (.invokestatic 126, 3) := by decide +kernel
theorem dX7_faceAbove_120 : decode cX7_faceAbove 120 = .ok (.ifCond .ge 7, 3) := by decide +kernel
theorem dX7_faceAbove_123 : decode cX7_faceAbove 123 = .ok (.iconst 1, 1) := by decide +kernel
theorem dX7_faceAbove_124 : decode cX7_faceAbove 124 = .ok (.goto 4, 3) := by decide +kernel
theorem dX7_faceAbove_127 : decode cX7_faceAbove 127 = .ok (.iconst 0, 1) := by decide +kernel
theorem dX7_faceAbove_128 : decode cX7_faceAbove 128 = .ok (.istore 14, 2) := by decide +kernel
theorem dX7_faceAbove_130 : decode cX7_faceAbove 130 = .ok (.iload 14, 2) := by decide +kernel
theorem dX7_faceAbove_132 : decode cX7_faceAbove 132 = .ok (.ifCond .eq 70, 3) := by decide +kernel
theorem dX7_faceAbove_135 : decode cX7_faceAbove 135 = .ok (.iload 10, 2) := by decide +kernel
theorem dX7_faceAbove_137 : decode cX7_faceAbove 137 = .ok (.iconst (-1), 1) := by decide +kernel
theorem dX7_faceAbove_138 : decode cX7_faceAbove 138 = .ok (.if_icmp .eq 64, 3) := by decide +kernel
theorem dX7_faceAbove_141 : decode cX7_faceAbove 141 = .ok (.aload_n 0, 1) := by decide +kernel
theorem dX7_faceAbove_142 : decode cX7_faceAbove 142 = .ok (.iload 11, 2) := by decide +kernel
theorem dX7_faceAbove_144 : decode cX7_faceAbove 144 = .ok (.iload 10, 2) := by decide +kernel
theorem dX7_faceAbove_146 : decode cX7_faceAbove 146 = .ok (.lload_n 1, 1) := by decide +kernel
theorem dX7_faceAbove_147 : decode cX7_faceAbove 147 = .ok (.lload_n 3, 1) := by decide +kernel
theorem dX7_faceAbove_148 : decode cX7_faceAbove 148 = .ok (.invokevirtual 176, 3) := by decide +kernel
theorem dX7_faceAbove_151 : decode cX7_faceAbove 151 = .ok (.istore 15, 2) := by decide +kernel
theorem dX7_faceAbove_153 : decode cX7_faceAbove 153 = .ok (.iload 9, 2) := by decide +kernel
theorem dX7_faceAbove_155 : decode cX7_faceAbove 155 = .ok (.ifCond .eq 15, 3) := by decide +kernel
theorem dX7_faceAbove_158 : decode cX7_faceAbove 158 = .ok (.aload_n 0, 1) := by decide +kernel
theorem dX7_faceAbove_159 : decode cX7_faceAbove 159 = .ok (.iload 11, 2) := by decide +kernel
theorem dX7_faceAbove_161 : decode cX7_faceAbove 161 = .ok (.iload 10, 2) := by decide +kernel
theorem dX7_faceAbove_163 : decode cX7_faceAbove 163 = .ok (.invokevirtual 180, 3) := by decide +kernel
theorem dX7_faceAbove_166 : decode cX7_faceAbove 166 = .ok (.ineg, 1) := by decide +kernel
theorem dX7_faceAbove_167 : decode cX7_faceAbove 167 = .ok (.goto 11, 3) := by decide +kernel
theorem dX7_faceAbove_170 : decode cX7_faceAbove 170 = .ok (.aload_n 0, 1) := by decide +kernel
theorem dX7_faceAbove_171 : decode cX7_faceAbove 171 = .ok (.iload 11, 2) := by decide +kernel
theorem dX7_faceAbove_173 : decode cX7_faceAbove 173 = .ok (.iload 10, 2) := by decide +kernel
theorem dX7_faceAbove_175 : decode cX7_faceAbove 175 = .ok (.invokevirtual 180, 3) := by decide +kernel
theorem dX7_faceAbove_178 : decode cX7_faceAbove 178 = .ok (.istore 16, 2) := by decide +kernel
theorem dX7_faceAbove_180 : decode cX7_faceAbove 180 = .ok (.iload 15, 2) := by decide +kernel
theorem dX7_faceAbove_182 : decode cX7_faceAbove 182 = .ok (.ifCond .gt 13, 3) := by decide +kernel
theorem dX7_faceAbove_185 : decode cX7_faceAbove 185 = .ok (.iload 15, 2) := by decide +kernel
theorem dX7_faceAbove_187 : decode cX7_faceAbove 187 = .ok (.ifCond .ne 12, 3) := by decide +kernel
theorem dX7_faceAbove_190 : decode cX7_faceAbove 190 = .ok (.iload 16, 2) := by decide +kernel
theorem dX7_faceAbove_192 : decode cX7_faceAbove 192 = .ok (.ifCond .le 7, 3) := by decide +kernel
theorem dX7_faceAbove_195 : decode cX7_faceAbove 195 = .ok (.iconst 1, 1) := by decide +kernel
theorem dX7_faceAbove_196 : decode cX7_faceAbove 196 = .ok (.goto 4, 3) := by decide +kernel
theorem dX7_faceAbove_199 : decode cX7_faceAbove 199 = .ok (.iconst 0, 1) := by decide +kernel
theorem dX7_faceAbove_200 : decode cX7_faceAbove 200 = .ok (.istore 14, 2) := by decide +kernel
theorem dX7_faceAbove_202 : decode cX7_faceAbove 202 = .ok (.iload 14, 2) := by decide +kernel
theorem dX7_faceAbove_204 : decode cX7_faceAbove 204 = .ok (.ifCond .eq 8, 3) := by decide +kernel
theorem dX7_faceAbove_207 : decode cX7_faceAbove 207 = .ok (.iload 11, 2) := by decide +kernel
theorem dX7_faceAbove_209 : decode cX7_faceAbove 209 = .ok (.goto 5, 3) := by decide +kernel
theorem dX7_faceAbove_212 : decode cX7_faceAbove 212 = .ok (.iload 10, 2) := by decide +kernel
theorem dX7_faceAbove_214 : decode cX7_faceAbove 214 = .ok (.istore 10, 2) := by decide +kernel
theorem dX7_faceAbove_216 : decode cX7_faceAbove 216 = .ok (.iinc 11 1, 3) := by decide +kernel
theorem dX7_faceAbove_219 : decode cX7_faceAbove 219 = .ok (.goto (-213), 3) := by decide +kernel
theorem dX7_faceAbove_222 : decode cX7_faceAbove 222 = .ok (.iload 10, 2) := by decide +kernel
theorem dX7_faceAbove_224 : decode cX7_faceAbove 224 = .ok (.iconst (-1), 1) := by decide +kernel
theorem dX7_faceAbove_225 : decode cX7_faceAbove 225 = .ok (.if_icmp .ne 7, 3) := by decide +kernel
theorem dX7_faceAbove_228 : decode cX7_faceAbove 228 = .ok (.iconst 0, 1) := by decide +kernel
theorem dX7_faceAbove_229 : decode cX7_faceAbove 229 = .ok (.goto 13, 3) := by decide +kernel
theorem dX7_faceAbove_232 : decode cX7_faceAbove 232 = .ok (.aload_n 0, 1) := by decide +kernel
theorem dX7_faceAbove_233 : decode cX7_faceAbove 233 = .ok (.iload 10, 2) := by decide +kernel
theorem dX7_faceAbove_235 : decode cX7_faceAbove 235 = .ok (.lload_n 1, 1) := by decide +kernel
theorem dX7_faceAbove_236 : decode cX7_faceAbove 236 = .ok (.lload_n 3, 1) := by decide +kernel
theorem dX7_faceAbove_237 : decode cX7_faceAbove 237 = .ok (.iload 9, 2) := by decide +kernel
theorem dX7_faceAbove_239 : decode cX7_faceAbove 239 = .ok (.invokevirtual 183, 3) := by decide +kernel
theorem dX7_faceAbove_242 : decode cX7_faceAbove 242 = .ok (.ireturn, 1) := by decide +kernel
def f_faceAbove_b214 (F : Nat) (k6 : Int64 → Int64 → Int64 → Int64 → Int32 → Int32 → Int32 → Option Int32) (M : MS) (x1 : Int64) (x3 : Int64) (x5 : Int64) (x7 : Int64) (x9 : Int32) (x11 : Int32) (s0 : Int32) : Option Int32 := k6 x1 x3 x5 x7 x9 s0 (x11 + 1)
def f_faceAbove_b202 (F : Nat) (k6 : Int64 → Int64 → Int64 → Int64 → Int32 → Int32 → Int32 → Option Int32) (M : MS) (x1 : Int64) (x3 : Int64) (x5 : Int64) (x7 : Int64) (x9 : Int32) (x10 : Int32) (x11 : Int32) (x14 : Int32) : Option Int32 := (if x14 = 0 then f_faceAbove_b214 F k6 M x1 x3 x5 x7 x9 x11 x10 else f_faceAbove_b214 F k6 M x1 x3 x5 x7 x9 x11 x11)
def f_faceAbove_b178 (F : Nat) (k6 : Int64 → Int64 → Int64 → Int64 → Int32 → Int32 → Int32 → Option Int32) (M : MS) (x1 : Int64) (x3 : Int64) (x5 : Int64) (x7 : Int64) (x9 : Int32) (x10 : Int32) (x11 : Int32) (x15 : Int32) (s0 : Int32) : Option Int32 := (if 0 < x15 then f_faceAbove_b202 F k6 M x1 x3 x5 x7 x9 x10 x11 1 else (if x15 = 0 then (if s0 ≤ 0 then f_faceAbove_b202 F k6 M x1 x3 x5 x7 x9 x10 x11 0 else f_faceAbove_b202 F k6 M x1 x3 x5 x7 x9 x10 x11 1) else f_faceAbove_b202 F k6 M x1 x3 x5 x7 x9 x10 x11 0))
def f_faceAbove_b128 (F : Nat) (k6 : Int64 → Int64 → Int64 → Int64 → Int32 → Int32 → Int32 → Option Int32) (M : MS) (x1 : Int64) (x3 : Int64) (x5 : Int64) (x7 : Int64) (x9 : Int32) (x10 : Int32) (x11 : Int32) (s0 : Int32) : Option Int32 := (if s0 = 0 then f_faceAbove_b202 F k6 M x1 x3 x5 x7 x9 x10 x11 s0 else (if x10 = ((-1)) then f_faceAbove_b202 F k6 M x1 x3 x5 x7 x9 x10 x11 s0 else cal (f_heights F M x11 x10 x1 x3) fun t4 => (if x9 = 0 then cal (f_slopes F M x11 x10) fun t7 => f_faceAbove_b178 F k6 M x1 x3 x5 x7 x9 x10 x11 t4 t7 else cal (f_slopes F M x11 x10) fun t9 => f_faceAbove_b178 F k6 M x1 x3 x5 x7 x9 x10 x11 t4 (-t9))))
def f_faceAbove_b89 (F : Nat) (k6 : Int64 → Int64 → Int64 → Int64 → Int32 → Int32 → Int32 → Option Int32) (M : MS) (x1 : Int64) (x3 : Int64) (x5 : Int64) (x7 : Int64) (x9 : Int32) (x10 : Int32) (x11 : Int32) (s0 : Int32) : Option Int32 := (if s0 = 0 then f_faceAbove_b128 F k6 M x1 x3 x5 x7 x9 x10 x11 0 else cal (f_height F M x11 x1 x3) fun t3 => cal (f_dx F M x11) fun t5 => cal (f_compare F M t3 (t5.toInt64 * x3) x5 x7) fun t7 => (if 0 ≤ t7 then f_faceAbove_b128 F k6 M x1 x3 x5 x7 x9 x10 x11 0 else f_faceAbove_b128 F k6 M x1 x3 x5 x7 x9 x10 x11 1))
def f_faceAbove_L6 (F : Nat) (M : MS) : Nat → Int64 → Int64 → Int64 → Int64 → Int32 → Int32 → Int32 → Option Int32
  | 0, _, _, _, _, _, _, _ => none
  | n6 + 1, x1, x3, x5, x7, x9, x10, x11 => (if (M.1 0) ≤ x11 then (if x10 = ((-1)) then some 0 else cal (f_faceOver F M x10 x1 x3 x9) fun t4 => some t4) else rdI 13 (M.2.1 1) x11 fun t5 => cal (f_compare F M t5.toInt64 1 x1 x3) fun t9 => rdI 13 (M.2.1 3) x11 fun t10 => cal (f_compare F M t10.toInt64 1 x1 x3) fun t14 => cal (f_dx F M x11) fun t16 => (if t16 ≤ 0 then f_faceAbove_b89 F ((f_faceAbove_L6 F M n6)) M x1 x3 x5 x7 x9 x10 x11 0 else (if x9 = 0 then (if 0 < t9 then f_faceAbove_b89 F ((f_faceAbove_L6 F M n6)) M x1 x3 x5 x7 x9 x10 x11 0 else (if t14 ≤ 0 then f_faceAbove_b89 F ((f_faceAbove_L6 F M n6)) M x1 x3 x5 x7 x9 x10 x11 0 else f_faceAbove_b89 F ((f_faceAbove_L6 F M n6)) M x1 x3 x5 x7 x9 x10 x11 1)) else (if 0 ≤ t9 then f_faceAbove_b89 F ((f_faceAbove_L6 F M n6)) M x1 x3 x5 x7 x9 x10 x11 0 else (if t14 < 0 then f_faceAbove_b89 F ((f_faceAbove_L6 F M n6)) M x1 x3 x5 x7 x9 x10 x11 0 else f_faceAbove_b89 F ((f_faceAbove_L6 F M n6)) M x1 x3 x5 x7 x9 x10 x11 1)))))
def f_faceAbove (F : Nat) (M : MS) (a1 : Int64) (a2 : Int64) (a3 : Int64) (a4 : Int64) (a5 : Int32) : Option Int32 := f_faceAbove_L6 F M F a1 a2 a3 a4 a5 ((-1)) 0
set_option maxRecDepth 100000 in
set_option maxHeartbeats 4000000 in
theorem c_faceAbove (l : Launch) (G : mG) (F : Nat) (M : MS) (a1 : Int64) (a2 : Int64) (a3 : Int64) (a4 : Int64) (a5 : Int32) (r : Int32) (h : f_faceAbove F M a1 a2 a3 a4 a5 = some r) : mMI l yX7_faceAbove vX7_faceAbove ({ frames := 3, cells := 0, slots := 0, locals := 72 }) G [.ref (mO G), .long a1, .long a2, .long a3, .long a4, .int a5] M M r := by
  refine mBodyI (cc := cX7_faceAbove) (maxL := 17) (ret := (some .int)) (by decide) rfl rfl ?_
  intro sz p e s m below meth c hC hP
  have hC0 := hC
  obtain ⟨hx, hb, -, hts, -, -, -, -, -, -⟩ := hC0
  have hS : va_S (mA G sz) s.heap s.heap [] := va_S.rf
  have hin : ∀ w ∈ wsX70, w ∈ vX7_faceAbove := fun w h => List.mem_cons_of_mem _ (List.mem_append_right _ h)
  have fl_segments := hts _ (List.mem_cons_of_mem _ wm_53)
  have fl_x1 := hts _ (List.mem_cons_of_mem _ wm_10)
  have fl_x2 := hts _ (List.mem_cons_of_mem _ wm_9)
  have L6 : ∀ (n6 : Nat) (H : Heap) (locs : List Loc) (ls : Array Slot) (x1 : Int64) (x3 : Int64) (x5 : Int64) (x7 : Int64) (x9 : Int32) (x10 : Int32) (x11 : Int32), va_P G.1 vwCl (mW G M) H → va_S (mA G sz) s.heap H locs → lv_has ls 17 [(0, .ref (mO G)), (1, .long x1), (3, .long x3), (5, .long x5), (7, .long x7), (9, .int x9), (10, .int x10), (11, .int x11)] → f_faceAbove_L6 F M n6 x1 x3 x5 x7 x9 x10 x11 = some r → W p l e (headSpec vX7_faceAbove ({ frames := 3, cells := 0, slots := 0, locals := 72 })).room s m ([.ref (mO G), .long a1, .long a2, .long a3, .long a4, .int a5] : List Value).toArray below meth c H locs 0 0 (mQI below G M sz ([.ref (mO G), .long a1, .long a2, .long a3, .long a4, .int a5] : List Value).toArray s r) (F0 m 6 ls []) := by
    intro n6
    induction n6 with
    | zero =>
      intro H locs ls x1 x3 x5 x7 x9 x10 x11 hP hS hl h
      rw [f_faceAbove_L6] at h; cases h
    | succ n6 ih6 =>
      have b214 : ∀ (H : Heap) (locs : List Loc) (ls : Array Slot) (x1 : Int64) (x3 : Int64) (x5 : Int64) (x7 : Int64) (x9 : Int32) (x11 : Int32) (s0 : Int32), va_P G.1 vwCl (mW G M) H → va_S (mA G sz) s.heap H locs → lv_has ls 17 [(0, .ref (mO G)), (1, .long x1), (3, .long x3), (5, .long x5), (7, .long x7), (9, .int x9), (11, .int x11)] → f_faceAbove_b214 F ((f_faceAbove_L6 F M n6)) M x1 x3 x5 x7 x9 x11 s0 = some r → W p l e (headSpec vX7_faceAbove ({ frames := 3, cells := 0, slots := 0, locals := 72 })).room s m ([.ref (mO G), .long a1, .long a2, .long a3, .long a4, .int a5] : List Value).toArray below meth c H locs 0 0 (mQI below G M sz ([.ref (mO G), .long a1, .long a2, .long a3, .long a4, .int a5] : List Value).toArray s r) (F0 m 214 ls [.int s0]) := by
        intro H locs ls x1 x3 x5 x7 x9 x11 s0 hP hS hl h
        unfold f_faceAbove_b214 at h
        refine lv_istore (lv' := [(10, .int s0), (0, .ref (mO G)), (1, .long x1), (3, .long x3), (5, .long x5), (7, .long x7), (9, .int x9), (11, .int x11)]) hx hb dX7_faceAbove_214 hl (by decide) rfl (fun ls hl => ?_)
        refine lv_iinc (v := x11 + 1) (lv' := [(11, .int (x11 + 1)), (10, .int s0), (0, .ref (mO G)), (1, .long x1), (3, .long x3), (5, .long x5), (7, .long x7), (9, .int x9)]) hx hb dX7_faceAbove_216 hl (k := 7) rfl rfl (by decide) rfl (fun ls hl => ?_)
        refine lv_goto (tgt := 6) hx hb dX7_faceAbove_219 (by decide) ?_
        exact ih6 _ _ _ x1 x3 x5 x7 x9 s0 (x11 + 1) hP hS (lv_sub hl [2, 3, 4, 5, 6, 7, 1, 0] rfl) h
      have b202 : ∀ (H : Heap) (locs : List Loc) (ls : Array Slot) (x1 : Int64) (x3 : Int64) (x5 : Int64) (x7 : Int64) (x9 : Int32) (x10 : Int32) (x11 : Int32) (x14 : Int32), va_P G.1 vwCl (mW G M) H → va_S (mA G sz) s.heap H locs → lv_has ls 17 [(0, .ref (mO G)), (1, .long x1), (3, .long x3), (5, .long x5), (7, .long x7), (9, .int x9), (10, .int x10), (11, .int x11), (14, .int x14)] → f_faceAbove_b202 F ((f_faceAbove_L6 F M n6)) M x1 x3 x5 x7 x9 x10 x11 x14 = some r → W p l e (headSpec vX7_faceAbove ({ frames := 3, cells := 0, slots := 0, locals := 72 })).room s m ([.ref (mO G), .long a1, .long a2, .long a3, .long a4, .int a5] : List Value).toArray below meth c H locs 0 0 (mQI below G M sz ([.ref (mO G), .long a1, .long a2, .long a3, .long a4, .int a5] : List Value).toArray s r) (F0 m 202 ls []) := by
        intro H locs ls x1 x3 x5 x7 x9 x10 x11 x14 hP hS hl h
        unfold f_faceAbove_b202 at h
        refine lv_iload hx hb dX7_faceAbove_202 (lv_at hl 8 rfl) ?_
        refine lv_if_eq (tgt := 212) hx hb dX7_faceAbove_204 (by decide) (fun u1 => ?_) (fun u1 => ?_)
        · have h := ite_t u1 h
          refine lv_iload hx hb dX7_faceAbove_212 (lv_at hl 6 rfl) ?_
          exact b214 _ _ _ x1 x3 x5 x7 x9 x11 x10 hP hS (lv_sub hl [0, 1, 2, 3, 4, 5, 7] rfl) h
        · have h := ite_f u1 h
          refine lv_iload hx hb dX7_faceAbove_207 (lv_at hl 7 rfl) ?_
          refine lv_goto (tgt := 214) hx hb dX7_faceAbove_209 (by decide) ?_
          exact b214 _ _ _ x1 x3 x5 x7 x9 x11 x11 hP hS (lv_sub hl [0, 1, 2, 3, 4, 5, 7] rfl) h
      have b178 : ∀ (H : Heap) (locs : List Loc) (ls : Array Slot) (x1 : Int64) (x3 : Int64) (x5 : Int64) (x7 : Int64) (x9 : Int32) (x10 : Int32) (x11 : Int32) (x15 : Int32) (s0 : Int32), va_P G.1 vwCl (mW G M) H → va_S (mA G sz) s.heap H locs → lv_has ls 17 [(0, .ref (mO G)), (1, .long x1), (3, .long x3), (5, .long x5), (7, .long x7), (9, .int x9), (10, .int x10), (11, .int x11), (15, .int x15)] → f_faceAbove_b178 F ((f_faceAbove_L6 F M n6)) M x1 x3 x5 x7 x9 x10 x11 x15 s0 = some r → W p l e (headSpec vX7_faceAbove ({ frames := 3, cells := 0, slots := 0, locals := 72 })).room s m ([.ref (mO G), .long a1, .long a2, .long a3, .long a4, .int a5] : List Value).toArray below meth c H locs 0 0 (mQI below G M sz ([.ref (mO G), .long a1, .long a2, .long a3, .long a4, .int a5] : List Value).toArray s r) (F0 m 178 ls [.int s0]) := by
        intro H locs ls x1 x3 x5 x7 x9 x10 x11 x15 s0 hP hS hl h
        unfold f_faceAbove_b178 at h
        refine lv_istore (lv' := [(16, .int s0), (0, .ref (mO G)), (1, .long x1), (3, .long x3), (5, .long x5), (7, .long x7), (9, .int x9), (10, .int x10), (11, .int x11), (15, .int x15)]) hx hb dX7_faceAbove_178 hl (by decide) rfl (fun ls hl => ?_)
        refine lv_iload hx hb dX7_faceAbove_180 (lv_at hl 9 rfl) ?_
        refine lv_if_gt (tgt := 195) hx hb dX7_faceAbove_182 (by decide) (fun u1 => ?_) (fun u1 => ?_)
        · have h := ite_t u1 h
          refine lv_iconst (v := 1) hx hb dX7_faceAbove_195 (by decide) ?_
          refine lv_goto (tgt := 200) hx hb dX7_faceAbove_196 (by decide) ?_
          refine lv_istore (lv' := [(14, .int 1), (16, .int s0), (0, .ref (mO G)), (1, .long x1), (3, .long x3), (5, .long x5), (7, .long x7), (9, .int x9), (10, .int x10), (11, .int x11), (15, .int x15)]) hx hb dX7_faceAbove_200 hl (by decide) rfl (fun ls hl => ?_)
          exact b202 _ _ _ x1 x3 x5 x7 x9 x10 x11 1 hP hS (lv_sub hl [2, 3, 4, 5, 6, 7, 8, 9, 0] rfl) h
        · have h := ite_f u1 h
          refine lv_iload hx hb dX7_faceAbove_185 (lv_at hl 9 rfl) ?_
          refine lv_if_ne (tgt := 199) hx hb dX7_faceAbove_187 (by decide) (fun u2 => ?_) (fun u2 => ?_)
          · have h := ite_f u2 h
            refine lv_iconst (v := 0) hx hb dX7_faceAbove_199 (by decide) ?_
            refine lv_istore (lv' := [(14, .int 0), (16, .int s0), (0, .ref (mO G)), (1, .long x1), (3, .long x3), (5, .long x5), (7, .long x7), (9, .int x9), (10, .int x10), (11, .int x11), (15, .int x15)]) hx hb dX7_faceAbove_200 hl (by decide) rfl (fun ls hl => ?_)
            exact b202 _ _ _ x1 x3 x5 x7 x9 x10 x11 0 hP hS (lv_sub hl [2, 3, 4, 5, 6, 7, 8, 9, 0] rfl) h
          · have h := ite_t u2 h
            refine lv_iload hx hb dX7_faceAbove_190 (lv_at hl 0 rfl) ?_
            refine lv_if_le (tgt := 199) hx hb dX7_faceAbove_192 (by decide) (fun u3 => ?_) (fun u3 => ?_)
            · have h := ite_t u3 h
              refine lv_iconst (v := 0) hx hb dX7_faceAbove_199 (by decide) ?_
              refine lv_istore (lv' := [(14, .int 0), (16, .int s0), (0, .ref (mO G)), (1, .long x1), (3, .long x3), (5, .long x5), (7, .long x7), (9, .int x9), (10, .int x10), (11, .int x11), (15, .int x15)]) hx hb dX7_faceAbove_200 hl (by decide) rfl (fun ls hl => ?_)
              exact b202 _ _ _ x1 x3 x5 x7 x9 x10 x11 0 hP hS (lv_sub hl [2, 3, 4, 5, 6, 7, 8, 9, 0] rfl) h
            · have h := ite_f u3 h
              refine lv_iconst (v := 1) hx hb dX7_faceAbove_195 (by decide) ?_
              refine lv_goto (tgt := 200) hx hb dX7_faceAbove_196 (by decide) ?_
              refine lv_istore (lv' := [(14, .int 1), (16, .int s0), (0, .ref (mO G)), (1, .long x1), (3, .long x3), (5, .long x5), (7, .long x7), (9, .int x9), (10, .int x10), (11, .int x11), (15, .int x15)]) hx hb dX7_faceAbove_200 hl (by decide) rfl (fun ls hl => ?_)
              exact b202 _ _ _ x1 x3 x5 x7 x9 x10 x11 1 hP hS (lv_sub hl [2, 3, 4, 5, 6, 7, 8, 9, 0] rfl) h
      have b128 : ∀ (H : Heap) (locs : List Loc) (ls : Array Slot) (x1 : Int64) (x3 : Int64) (x5 : Int64) (x7 : Int64) (x9 : Int32) (x10 : Int32) (x11 : Int32) (s0 : Int32), va_P G.1 vwCl (mW G M) H → va_S (mA G sz) s.heap H locs → lv_has ls 17 [(0, .ref (mO G)), (1, .long x1), (3, .long x3), (5, .long x5), (7, .long x7), (9, .int x9), (10, .int x10), (11, .int x11)] → f_faceAbove_b128 F ((f_faceAbove_L6 F M n6)) M x1 x3 x5 x7 x9 x10 x11 s0 = some r → W p l e (headSpec vX7_faceAbove ({ frames := 3, cells := 0, slots := 0, locals := 72 })).room s m ([.ref (mO G), .long a1, .long a2, .long a3, .long a4, .int a5] : List Value).toArray below meth c H locs 0 0 (mQI below G M sz ([.ref (mO G), .long a1, .long a2, .long a3, .long a4, .int a5] : List Value).toArray s r) (F0 m 128 ls [.int s0]) := by
        intro H locs ls x1 x3 x5 x7 x9 x10 x11 s0 hP hS hl h
        unfold f_faceAbove_b128 at h
        refine lv_istore (lv' := [(14, .int s0), (0, .ref (mO G)), (1, .long x1), (3, .long x3), (5, .long x5), (7, .long x7), (9, .int x9), (10, .int x10), (11, .int x11)]) hx hb dX7_faceAbove_128 hl (by decide) rfl (fun ls hl => ?_)
        refine lv_iload hx hb dX7_faceAbove_130 (lv_at hl 0 rfl) ?_
        refine lv_if_eq (tgt := 202) hx hb dX7_faceAbove_132 (by decide) (fun u1 => ?_) (fun u1 => ?_)
        · have h := ite_t u1 h
          exact b202 _ _ _ x1 x3 x5 x7 x9 x10 x11 s0 hP hS (lv_sub hl [1, 2, 3, 4, 5, 6, 7, 8, 0] rfl) h
        · have h := ite_f u1 h
          refine lv_iload hx hb dX7_faceAbove_135 (lv_at hl 7 rfl) ?_
          refine lv_iconst (v := (-1)) hx hb dX7_faceAbove_137 (by decide) ?_
          refine lv_icmp_eq (tgt := 202) hx hb dX7_faceAbove_138 (by decide) (fun u2 => ?_) (fun u2 => ?_)
          · have h := ite_t u2 h
            exact b202 _ _ _ x1 x3 x5 x7 x9 x10 x11 s0 hP hS (lv_sub hl [1, 2, 3, 4, 5, 6, 7, 8, 0] rfl) h
          · have h := ite_f u2 h
            refine lv_aload_n hx hb dX7_faceAbove_141 rfl (lv_at hl 1 rfl) ?_
            refine lv_iload hx hb dX7_faceAbove_142 (lv_at hl 8 rfl) ?_
            refine lv_iload hx hb dX7_faceAbove_144 (lv_at hl 7 rfl) ?_
            refine lv_lload_n hx hb dX7_faceAbove_146 rfl (lv_at hl 2 rfl) ?_
            refine lv_lload_n hx hb dX7_faceAbove_147 rfl (lv_at hl 3 rfl) ?_
            obtain ⟨t4, e3, h⟩ := cal_el h
            refine m_VI (As := [.int x11, .int x10, .long x1, .long x3]) (rest := []) hC hP hS (c_heights l G F M x11 x10 x1 x3 t4 e3) (cwV 4 hts (gWM wm_116 wm_117 wm_118 wm_7 wm_108) rfl rfl rfl (by decide +kernel) ⟨Nat.le_of_ble_eq_true rfl, Nat.le_of_ble_eq_true rfl⟩) rfl hl.1 rfl (Nat.le_of_ble_eq_true rfl) dX7_faceAbove_148 (fun H locs hP hS => ?_)
            refine lv_istore (lv' := [(15, .int t4), (14, .int s0), (0, .ref (mO G)), (1, .long x1), (3, .long x3), (5, .long x5), (7, .long x7), (9, .int x9), (10, .int x10), (11, .int x11)]) hx hb dX7_faceAbove_151 hl (by decide) rfl (fun ls hl => ?_)
            refine lv_iload hx hb dX7_faceAbove_153 (lv_at hl 7 rfl) ?_
            refine lv_if_eq (tgt := 170) hx hb dX7_faceAbove_155 (by decide) (fun u5 => ?_) (fun u5 => ?_)
            · have h := ite_t u5 h
              refine lv_aload_n hx hb dX7_faceAbove_170 rfl (lv_at hl 2 rfl) ?_
              refine lv_iload hx hb dX7_faceAbove_171 (lv_at hl 9 rfl) ?_
              refine lv_iload hx hb dX7_faceAbove_173 (lv_at hl 8 rfl) ?_
              obtain ⟨t7, e6, h⟩ := cal_el h
              refine m_VI (As := [.int x11, .int x10]) (rest := []) hC hP hS (c_slopes l G F M x11 x10 t7 e6) (cwV 2 hts (gWM wm_119 wm_120 wm_121 wm_7 wm_112) rfl rfl rfl (by decide +kernel) ⟨Nat.le_of_ble_eq_true rfl, Nat.le_of_ble_eq_true rfl⟩) rfl hl.1 rfl (Nat.le_of_ble_eq_true rfl) dX7_faceAbove_175 (fun H locs hP hS => ?_)
              exact b178 _ _ _ x1 x3 x5 x7 x9 x10 x11 t4 t7 hP hS (lv_sub hl [2, 3, 4, 5, 6, 7, 8, 9, 0] rfl) h
            · have h := ite_f u5 h
              refine lv_aload_n hx hb dX7_faceAbove_158 rfl (lv_at hl 2 rfl) ?_
              refine lv_iload hx hb dX7_faceAbove_159 (lv_at hl 9 rfl) ?_
              refine lv_iload hx hb dX7_faceAbove_161 (lv_at hl 8 rfl) ?_
              obtain ⟨t9, e8, h⟩ := cal_el h
              refine m_VI (As := [.int x11, .int x10]) (rest := []) hC hP hS (c_slopes l G F M x11 x10 t9 e8) (cwV 2 hts (gWM wm_119 wm_120 wm_121 wm_7 wm_112) rfl rfl rfl (by decide +kernel) ⟨Nat.le_of_ble_eq_true rfl, Nat.le_of_ble_eq_true rfl⟩) rfl hl.1 rfl (Nat.le_of_ble_eq_true rfl) dX7_faceAbove_163 (fun H locs hP hS => ?_)
              refine lv_ineg hx hb dX7_faceAbove_166 ?_
              refine lv_goto (tgt := 178) hx hb dX7_faceAbove_167 (by decide) ?_
              exact b178 _ _ _ x1 x3 x5 x7 x9 x10 x11 t4 (-t9) hP hS (lv_sub hl [2, 3, 4, 5, 6, 7, 8, 9, 0] rfl) h
      have b89 : ∀ (H : Heap) (locs : List Loc) (ls : Array Slot) (x1 : Int64) (x3 : Int64) (x5 : Int64) (x7 : Int64) (x9 : Int32) (x10 : Int32) (x11 : Int32) (s0 : Int32), va_P G.1 vwCl (mW G M) H → va_S (mA G sz) s.heap H locs → lv_has ls 17 [(0, .ref (mO G)), (1, .long x1), (3, .long x3), (5, .long x5), (7, .long x7), (9, .int x9), (10, .int x10), (11, .int x11)] → f_faceAbove_b89 F ((f_faceAbove_L6 F M n6)) M x1 x3 x5 x7 x9 x10 x11 s0 = some r → W p l e (headSpec vX7_faceAbove ({ frames := 3, cells := 0, slots := 0, locals := 72 })).room s m ([.ref (mO G), .long a1, .long a2, .long a3, .long a4, .int a5] : List Value).toArray below meth c H locs 0 0 (mQI below G M sz ([.ref (mO G), .long a1, .long a2, .long a3, .long a4, .int a5] : List Value).toArray s r) (F0 m 89 ls [.int s0]) := by
        intro H locs ls x1 x3 x5 x7 x9 x10 x11 s0 hP hS hl h
        unfold f_faceAbove_b89 at h
        refine lv_istore (lv' := [(14, .int s0), (0, .ref (mO G)), (1, .long x1), (3, .long x3), (5, .long x5), (7, .long x7), (9, .int x9), (10, .int x10), (11, .int x11)]) hx hb dX7_faceAbove_89 hl (by decide) rfl (fun ls hl => ?_)
        refine lv_iload hx hb dX7_faceAbove_91 (lv_at hl 0 rfl) ?_
        refine lv_if_eq (tgt := 127) hx hb dX7_faceAbove_93 (by decide) (fun u1 => ?_) (fun u1 => ?_)
        · have h := ite_t u1 h
          refine lv_iconst (v := 0) hx hb dX7_faceAbove_127 (by decide) ?_
          exact b128 _ _ _ x1 x3 x5 x7 x9 x10 x11 0 hP hS (lv_sub hl [1, 2, 3, 4, 5, 6, 7, 8] rfl) h
        · have h := ite_f u1 h
          refine lv_aload_n hx hb dX7_faceAbove_96 rfl (lv_at hl 1 rfl) ?_
          refine lv_iload hx hb dX7_faceAbove_97 (lv_at hl 8 rfl) ?_
          refine lv_lload_n hx hb dX7_faceAbove_99 rfl (lv_at hl 2 rfl) ?_
          refine lv_lload_n hx hb dX7_faceAbove_100 rfl (lv_at hl 3 rfl) ?_
          obtain ⟨t3, e2, h⟩ := cal_el h
          refine m_VL (As := [.int x11, .long x1, .long x3]) (rest := []) hC hP hS (c_height l G F M x11 x1 x3 t3 e2) (cwV 3 hts (gWM wm_109 wm_110 wm_111 wm_7 wm_107) rfl rfl rfl (by decide +kernel) ⟨Nat.le_of_ble_eq_true rfl, Nat.le_of_ble_eq_true rfl⟩) rfl hl.1 rfl (Nat.le_of_ble_eq_true rfl) dX7_faceAbove_101 (fun H locs hP hS => ?_)
          refine lv_aload_n hx hb dX7_faceAbove_104 rfl (lv_at hl 1 rfl) ?_
          refine lv_iload hx hb dX7_faceAbove_105 (lv_at hl 8 rfl) ?_
          obtain ⟨t5, e4, h⟩ := cal_el h
          refine m_VI (As := [.int x11]) (rest := [.long t3]) hC hP hS (c_dx l G F M x11 t5 e4) (cwV 1 hts (gWM wm_15 wm_16 wm_17 wm_7 wm_8) rfl rfl rfl (by decide +kernel) ⟨Nat.le_of_ble_eq_true rfl, Nat.le_of_ble_eq_true rfl⟩) rfl hl.1 rfl (Nat.le_of_ble_eq_true rfl) dX7_faceAbove_107 (fun H locs hP hS => ?_)
          refine lv_i2l (v := t5.toInt64) hx hb dX7_faceAbove_110 rfl ?_
          refine lv_lload_n hx hb dX7_faceAbove_111 rfl (lv_at hl 3 rfl) ?_
          refine lv_lmul hx hb dX7_faceAbove_112 ?_
          refine lv_lload hx hb dX7_faceAbove_113 (lv_at hl 4 rfl) ?_
          refine lv_lload hx hb dX7_faceAbove_115 (lv_at hl 5 rfl) ?_
          obtain ⟨t7, e6, h⟩ := cal_el h
          refine m_SI (As := [.long t3, .long (t5.toInt64 * x3), .long x5, .long x7]) (rest := []) hC hP hS (c_compare l G F M t3 (t5.toInt64 * x3) x5 x7 t7 e6) (va_cwS 4 hts (gWMS wm_48 wm_49 wm_7 wm_40) rfl rfl rfl (by decide +kernel) ⟨Nat.le_of_ble_eq_true rfl, Nat.le_of_ble_eq_true rfl⟩) rfl hl.1 rfl (Nat.le_of_ble_eq_true rfl) dX7_faceAbove_117 (fun H locs hP hS => ?_)
          refine lv_if_ge (tgt := 127) hx hb dX7_faceAbove_120 (by decide) (fun u8 => ?_) (fun u8 => ?_)
          · have h := ite_t u8 h
            refine lv_iconst (v := 0) hx hb dX7_faceAbove_127 (by decide) ?_
            exact b128 _ _ _ x1 x3 x5 x7 x9 x10 x11 0 hP hS (lv_sub hl [1, 2, 3, 4, 5, 6, 7, 8] rfl) h
          · have h := ite_f u8 h
            refine lv_iconst (v := 1) hx hb dX7_faceAbove_123 (by decide) ?_
            refine lv_goto (tgt := 128) hx hb dX7_faceAbove_124 (by decide) ?_
            exact b128 _ _ _ x1 x3 x5 x7 x9 x10 x11 1 hP hS (lv_sub hl [1, 2, 3, 4, 5, 6, 7, 8] rfl) h
      intro H locs ls x1 x3 x5 x7 x9 x10 x11 hP hS hl h
      rw [f_faceAbove_L6] at h
      refine lv_iload hx hb dX7_faceAbove_6 (lv_at hl 7 rfl) ?_
      refine lv_aload_n hx hb dX7_faceAbove_8 rfl (lv_at hl 0 rfl) ?_
      refine m_get hC hin hP 0 (by decide) fl_segments rfl (v := .int (M.1 0)) rfl dX7_faceAbove_9 ?_
      refine lv_icmp_ge (tgt := 222) hx hb dX7_faceAbove_12 (by decide) (fun u1 => ?_) (fun u1 => ?_)
      · have h := ite_t u1 h
        refine lv_iload hx hb dX7_faceAbove_222 (lv_at hl 6 rfl) ?_
        refine lv_iconst (v := (-1)) hx hb dX7_faceAbove_224 (by decide) ?_
        refine lv_icmp_ne (tgt := 232) hx hb dX7_faceAbove_225 (by decide) (fun u2 => ?_) (fun u2 => ?_)
        · have h := ite_f u2 h
          refine lv_aload_n hx hb dX7_faceAbove_232 rfl (lv_at hl 0 rfl) ?_
          refine lv_iload hx hb dX7_faceAbove_233 (lv_at hl 6 rfl) ?_
          refine lv_lload_n hx hb dX7_faceAbove_235 rfl (lv_at hl 1 rfl) ?_
          refine lv_lload_n hx hb dX7_faceAbove_236 rfl (lv_at hl 2 rfl) ?_
          refine lv_iload hx hb dX7_faceAbove_237 (lv_at hl 5 rfl) ?_
          obtain ⟨t4, e3, h⟩ := cal_el h
          refine m_VI (As := [.int x10, .long x1, .long x3, .int x9]) (rest := []) hC hP hS (c_faceOver l G F M x10 x1 x3 x9 t4 e3) (cwV 4 hts (gWM wm_122 wm_123 wm_124 wm_7 wm_113) rfl rfl rfl (by decide +kernel) ⟨Nat.le_of_ble_eq_true rfl, Nat.le_of_ble_eq_true rfl⟩) rfl hl.1 rfl (Nat.le_of_ble_eq_true rfl) dX7_faceAbove_239 (fun H locs hP hS => ?_)
          cases h
          exact m_iret hC hP hS rfl dX7_faceAbove_242
        · have h := ite_t u2 h
          refine lv_iconst (v := 0) hx hb dX7_faceAbove_228 (by decide) ?_
          refine lv_goto (tgt := 242) hx hb dX7_faceAbove_229 (by decide) ?_
          cases h
          exact m_iret hC hP hS rfl dX7_faceAbove_242
      · have h := ite_f u1 h
        refine lv_aload_n hx hb dX7_faceAbove_15 rfl (lv_at hl 0 rfl) ?_
        refine m_get hC hin hP 1 (by decide) fl_x1 rfl (v := .ref (mAd G 1)) rfl dX7_faceAbove_16 ?_
        refine lv_iload hx hb dX7_faceAbove_19 (lv_at hl 7 rfl) ?_
        obtain ⟨z6, t5, e7, h⟩ := rdI_el h
        refine m_ild hC hP 1 (N := 13) rfl z6 e7 dX7_faceAbove_21 ?_
        refine lv_i2l (v := t5.toInt64) hx hb dX7_faceAbove_22 rfl ?_
        refine lv_lconst (v := 1) hx hb dX7_faceAbove_23 (by decide) ?_
        refine lv_lload_n hx hb dX7_faceAbove_24 rfl (lv_at hl 1 rfl) ?_
        refine lv_lload_n hx hb dX7_faceAbove_25 rfl (lv_at hl 2 rfl) ?_
        obtain ⟨t9, e8, h⟩ := cal_el h
        refine m_SI (As := [.long t5.toInt64, .long 1, .long x1, .long x3]) (rest := []) hC hP hS (c_compare l G F M t5.toInt64 1 x1 x3 t9 e8) (va_cwS 4 hts (gWMS wm_48 wm_49 wm_7 wm_40) rfl rfl rfl (by decide +kernel) ⟨Nat.le_of_ble_eq_true rfl, Nat.le_of_ble_eq_true rfl⟩) rfl hl.1 rfl (Nat.le_of_ble_eq_true rfl) dX7_faceAbove_26 (fun H locs hP hS => ?_)
        refine lv_istore (lv' := [(12, .int t9), (0, .ref (mO G)), (1, .long x1), (3, .long x3), (5, .long x5), (7, .long x7), (9, .int x9), (10, .int x10), (11, .int x11)]) hx hb dX7_faceAbove_29 hl (by decide) rfl (fun ls hl => ?_)
        refine lv_aload_n hx hb dX7_faceAbove_31 rfl (lv_at hl 1 rfl) ?_
        refine m_get hC hin hP 3 (by decide) fl_x2 rfl (v := .ref (mAd G 3)) rfl dX7_faceAbove_32 ?_
        refine lv_iload hx hb dX7_faceAbove_35 (lv_at hl 8 rfl) ?_
        obtain ⟨z11, t10, e12, h⟩ := rdI_el h
        refine m_ild hC hP 3 (N := 13) rfl z11 e12 dX7_faceAbove_37 ?_
        refine lv_i2l (v := t10.toInt64) hx hb dX7_faceAbove_38 rfl ?_
        refine lv_lconst (v := 1) hx hb dX7_faceAbove_39 (by decide) ?_
        refine lv_lload_n hx hb dX7_faceAbove_40 rfl (lv_at hl 2 rfl) ?_
        refine lv_lload_n hx hb dX7_faceAbove_41 rfl (lv_at hl 3 rfl) ?_
        obtain ⟨t14, e13, h⟩ := cal_el h
        refine m_SI (As := [.long t10.toInt64, .long 1, .long x1, .long x3]) (rest := []) hC hP hS (c_compare l G F M t10.toInt64 1 x1 x3 t14 e13) (va_cwS 4 hts (gWMS wm_48 wm_49 wm_7 wm_40) rfl rfl rfl (by decide +kernel) ⟨Nat.le_of_ble_eq_true rfl, Nat.le_of_ble_eq_true rfl⟩) rfl hl.1 rfl (Nat.le_of_ble_eq_true rfl) dX7_faceAbove_42 (fun H locs hP hS => ?_)
        refine lv_istore (lv' := [(13, .int t14), (12, .int t9), (0, .ref (mO G)), (1, .long x1), (3, .long x3), (5, .long x5), (7, .long x7), (9, .int x9), (10, .int x10), (11, .int x11)]) hx hb dX7_faceAbove_45 hl (by decide) rfl (fun ls hl => ?_)
        refine lv_aload_n hx hb dX7_faceAbove_47 rfl (lv_at hl 2 rfl) ?_
        refine lv_iload hx hb dX7_faceAbove_48 (lv_at hl 9 rfl) ?_
        obtain ⟨t16, e15, h⟩ := cal_el h
        refine m_VI (As := [.int x11]) (rest := []) hC hP hS (c_dx l G F M x11 t16 e15) (cwV 1 hts (gWM wm_15 wm_16 wm_17 wm_7 wm_8) rfl rfl rfl (by decide +kernel) ⟨Nat.le_of_ble_eq_true rfl, Nat.le_of_ble_eq_true rfl⟩) rfl hl.1 rfl (Nat.le_of_ble_eq_true rfl) dX7_faceAbove_50 (fun H locs hP hS => ?_)
        refine lv_if_le (tgt := 88) hx hb dX7_faceAbove_53 (by decide) (fun u17 => ?_) (fun u17 => ?_)
        · have h := ite_t u17 h
          refine lv_iconst (v := 0) hx hb dX7_faceAbove_88 (by decide) ?_
          exact b89 _ _ _ x1 x3 x5 x7 x9 x10 x11 0 hP hS (lv_sub hl [2, 3, 4, 5, 6, 7, 8, 9] rfl) h
        · have h := ite_f u17 h
          refine lv_iload hx hb dX7_faceAbove_56 (lv_at hl 7 rfl) ?_
          refine lv_if_eq (tgt := 74) hx hb dX7_faceAbove_58 (by decide) (fun u18 => ?_) (fun u18 => ?_)
          · have h := ite_t u18 h
            refine lv_iload hx hb dX7_faceAbove_74 (lv_at hl 1 rfl) ?_
            refine lv_if_gt (tgt := 88) hx hb dX7_faceAbove_76 (by decide) (fun u19 => ?_) (fun u19 => ?_)
            · have h := ite_t u19 h
              refine lv_iconst (v := 0) hx hb dX7_faceAbove_88 (by decide) ?_
              exact b89 _ _ _ x1 x3 x5 x7 x9 x10 x11 0 hP hS (lv_sub hl [2, 3, 4, 5, 6, 7, 8, 9] rfl) h
            · have h := ite_f u19 h
              refine lv_iload hx hb dX7_faceAbove_79 (lv_at hl 0 rfl) ?_
              refine lv_if_le (tgt := 88) hx hb dX7_faceAbove_81 (by decide) (fun u20 => ?_) (fun u20 => ?_)
              · have h := ite_t u20 h
                refine lv_iconst (v := 0) hx hb dX7_faceAbove_88 (by decide) ?_
                exact b89 _ _ _ x1 x3 x5 x7 x9 x10 x11 0 hP hS (lv_sub hl [2, 3, 4, 5, 6, 7, 8, 9] rfl) h
              · have h := ite_f u20 h
                refine lv_iconst (v := 1) hx hb dX7_faceAbove_84 (by decide) ?_
                refine lv_goto (tgt := 89) hx hb dX7_faceAbove_85 (by decide) ?_
                exact b89 _ _ _ x1 x3 x5 x7 x9 x10 x11 1 hP hS (lv_sub hl [2, 3, 4, 5, 6, 7, 8, 9] rfl) h
          · have h := ite_f u18 h
            refine lv_iload hx hb dX7_faceAbove_61 (lv_at hl 1 rfl) ?_
            refine lv_if_ge (tgt := 88) hx hb dX7_faceAbove_63 (by decide) (fun u21 => ?_) (fun u21 => ?_)
            · have h := ite_t u21 h
              refine lv_iconst (v := 0) hx hb dX7_faceAbove_88 (by decide) ?_
              exact b89 _ _ _ x1 x3 x5 x7 x9 x10 x11 0 hP hS (lv_sub hl [2, 3, 4, 5, 6, 7, 8, 9] rfl) h
            · have h := ite_f u21 h
              refine lv_iload hx hb dX7_faceAbove_66 (lv_at hl 0 rfl) ?_
              refine lv_if_lt (tgt := 88) hx hb dX7_faceAbove_68 (by decide) (fun u22 => ?_) (fun u22 => ?_)
              · have h := ite_t u22 h
                refine lv_iconst (v := 0) hx hb dX7_faceAbove_88 (by decide) ?_
                exact b89 _ _ _ x1 x3 x5 x7 x9 x10 x11 0 hP hS (lv_sub hl [2, 3, 4, 5, 6, 7, 8, 9] rfl) h
              · have h := ite_f u22 h
                refine lv_goto (tgt := 84) hx hb dX7_faceAbove_71 (by decide) ?_
                refine lv_iconst (v := 1) hx hb dX7_faceAbove_84 (by decide) ?_
                refine lv_goto (tgt := 89) hx hb dX7_faceAbove_85 (by decide) ?_
                exact b89 _ _ _ x1 x3 x5 x7 x9 x10 x11 1 hP hS (lv_sub hl [2, 3, 4, 5, 6, 7, 8, 9] rfl) h
  refine m_entry (Nat.le_of_ble_eq_true rfl) (fun ls hl => ?_)
  have hl : lv_has ls 17 [(0, .ref (mO G)), (1, .long a1), (3, .long a2), (5, .long a3), (7, .long a4), (9, .int a5)] := hl
  unfold f_faceAbove at h
  refine lv_iconst (v := (-1)) hx hb dX7_faceAbove_0 (by decide) ?_
  refine lv_istore (lv' := [(10, .int ((-1))), (0, .ref (mO G)), (1, .long a1), (3, .long a2), (5, .long a3), (7, .long a4), (9, .int a5)]) hx hb dX7_faceAbove_1 hl (by decide) rfl (fun ls hl => ?_)
  refine lv_iconst (v := 0) hx hb dX7_faceAbove_3 (by decide) ?_
  refine lv_istore (lv' := [(11, .int 0), (10, .int ((-1))), (0, .ref (mO G)), (1, .long a1), (3, .long a2), (5, .long a3), (7, .long a4), (9, .int a5)]) hx hb dX7_faceAbove_4 hl (by decide) rfl (fun ls hl => ?_)
  exact L6 F _ _ _ a1 a2 a3 a4 a5 ((-1)) 0 hP hS (lv_sub hl [2, 3, 4, 5, 6, 7, 1, 0] rfl) h

theorem dX7_laysFaces_0 : decode cX7_laysFaces 0 = .ok (.iconst 0, 1) := by decide +kernel
theorem dX7_laysFaces_1 : decode cX7_laysFaces 1 = .ok (.istore_n 1, 1) := by decide +kernel
theorem dX7_laysFaces_2 : decode cX7_laysFaces 2 = .ok (.iload_n 1, 1) := by decide +kernel
theorem dX7_laysFaces_3 : decode cX7_laysFaces 3 = .ok (.aload_n 0, 1) := by decide +kernel
theorem dX7_laysFaces_4 : decode cX7_laysFaces 4 = .ok (.getfield 123, 3) := by decide +kernel
theorem dX7_laysFaces_7 : decode cX7_laysFaces 7 = .ok (.if_icmp .ge 35, 3) := by decide +kernel
theorem dX7_laysFaces_10 : decode cX7_laysFaces 10 = .ok (.aload_n 0, 1) := by decide +kernel
theorem dX7_laysFaces_11 : decode cX7_laysFaces 11 = .ok (.getfield 35, 3) := by decide +kernel
theorem dX7_laysFaces_14 : decode cX7_laysFaces 14 = .ok (.iload_n 1, 1) := by decide +kernel
theorem dX7_laysFaces_15 : decode cX7_laysFaces 15 = .ok (.iaload, 1) := by decide +kernel
theorem dX7_laysFaces_16 : decode cX7_laysFaces 16 = .ok (.iload_n 1, 1) := by decide +kernel
theorem dX7_laysFaces_17 : decode cX7_laysFaces 17 = .ok (.if_icmp .ne 19, 3) := by decide +kernel
theorem dX7_laysFaces_20 : decode cX7_laysFaces 20 = .ok (.aload_n 0, 1) := by decide +kernel
theorem dX7_laysFaces_21 : decode cX7_laysFaces 21 = .ok (.getfield 56, 3) := by decide +kernel
theorem dX7_laysFaces_24 : decode cX7_laysFaces 24 = .ok (.aload_n 0, 1) := by decide +kernel
theorem dX7_laysFaces_25 : decode cX7_laysFaces 25 = .ok (.getfield 47, 3) := by decide +kernel
theorem dX7_laysFaces_28 : decode cX7_laysFaces 28 = .ok (.aload_n 0, 1) := by decide +kernel
theorem dX7_laysFaces_29 : decode cX7_laysFaces 29 = .ok (.iload_n 1, 1) := by decide +kernel
theorem dX7_laysFaces_30 : decode cX7_laysFaces 30 = .ok (.invokevirtual 187, 3) := by decide +kernel
theorem dX7_laysFaces_33 : decode cX7_laysFaces 33 = .ok (.iaload, 1) := by decide +kernel
theorem dX7_laysFaces_34 : decode cX7_laysFaces 34 = .ok (.iconst 1, 1) := by decide +kernel
theorem dX7_laysFaces_35 : decode cX7_laysFaces 35 = .ok (.bastore, 1) := by decide +kernel
theorem dX7_laysFaces_36 : decode cX7_laysFaces 36 = .ok (.iinc 1 1, 3) := by decide +kernel
theorem dX7_laysFaces_39 : decode cX7_laysFaces 39 = .ok (.goto (-37), 3) := by decide +kernel
theorem dX7_laysFaces_42 : decode cX7_laysFaces 42 = .ok (.aload_n 0, 1) := by decide +kernel
theorem dX7_laysFaces_43 : decode cX7_laysFaces 43 = .ok (.iconst 1, 1) := by decide +kernel
theorem dX7_laysFaces_44 : decode cX7_laysFaces 44 = .ok (.putfield 63, 3) := by decide +kernel
theorem dX7_laysFaces_47 : decode cX7_laysFaces 47 = .ok (.iconst 0, 1) := by decide +kernel
theorem dX7_laysFaces_48 : decode cX7_laysFaces 48 = .ok (.istore_n 1, 1) := by decide +kernel
theorem dX7_laysFaces_49 : decode cX7_laysFaces 49 = .ok (.iload_n 1, 1) := by decide +kernel
theorem dX7_laysFaces_50 : decode cX7_laysFaces 50 = .ok (.aload_n 0, 1) := by decide +kernel
theorem dX7_laysFaces_51 : decode cX7_laysFaces 51 = .ok (.getfield 162, 3) := by decide +kernel
theorem dX7_laysFaces_54 : decode cX7_laysFaces 54 = .ok (.if_icmp .ge 87, 3) := by decide +kernel
theorem dX7_laysFaces_57 : decode cX7_laysFaces 57 = .ok (.aload_n 0, 1) := by decide +kernel
theorem dX7_laysFaces_58 : decode cX7_laysFaces 58 = .ok (.getfield 60, 3) := by decide +kernel
theorem dX7_laysFaces_61 : decode cX7_laysFaces 61 = .ok (.iload_n 1, 1) := by decide +kernel
theorem dX7_laysFaces_62 : decode cX7_laysFaces 62 = .ok (.iconst 1, 1) := by decide +kernel
theorem dX7_laysFaces_63 : decode cX7_laysFaces 63 = .ok (.iastore, 1) := by decide +kernel
theorem dX7_laysFaces_64 : decode cX7_laysFaces 64 = .ok (.iconst 0, 1) := by decide +kernel
theorem dX7_laysFaces_65 : decode cX7_laysFaces 65 = .ok (.istore_n 2, 1) := by decide +kernel
theorem dX7_laysFaces_66 : decode cX7_laysFaces 66 = .ok (.iload_n 2, 1) := by decide +kernel
theorem dX7_laysFaces_67 : decode cX7_laysFaces 67 = .ok (.aload_n 0, 1) := by decide +kernel
theorem dX7_laysFaces_68 : decode cX7_laysFaces 68 = .ok (.getfield 162, 3) := by decide +kernel
theorem dX7_laysFaces_71 : decode cX7_laysFaces 71 = .ok (.if_icmp .ge 41, 3) := by decide +kernel
theorem dX7_laysFaces_74 : decode cX7_laysFaces 74 = .ok (.aload_n 0, 1) := by decide +kernel
theorem dX7_laysFaces_75 : decode cX7_laysFaces 75 = .ok (.getfield 60, 3) := by decide +kernel
theorem dX7_laysFaces_78 : decode cX7_laysFaces 78 = .ok (.iload_n 1, 1) := by decide +kernel
theorem dX7_laysFaces_79 : decode cX7_laysFaces 79 = .ok (.dup2, 1) := by decide +kernel
theorem dX7_laysFaces_80 : decode cX7_laysFaces 80 = .ok (.iaload, 1) := by decide +kernel
theorem dX7_laysFaces_81 : decode cX7_laysFaces 81 = .ok (.aload_n 0, 1) := by decide +kernel
theorem dX7_laysFaces_82 : decode cX7_laysFaces 82 = .ok (.getfield 56, 3) := by decide +kernel
theorem dX7_laysFaces_85 : decode cX7_laysFaces 85 = .ok (.iload_n 2, 1) := by decide +kernel
theorem dX7_laysFaces_86 : decode cX7_laysFaces 86 = .ok (.baload, 1) := by decide +kernel
theorem dX7_laysFaces_87 : decode cX7_laysFaces 87 = .ok (.ifCond .ne 16, 3) := by decide +kernel
theorem dX7_laysFaces_90 : decode cX7_laysFaces 90 = .ok (.aload_n 0, 1) := by decide +kernel
theorem dX7_laysFaces_91 : decode cX7_laysFaces 91 = .ok (.iload_n 2, 1) := by decide +kernel
theorem dX7_laysFaces_92 : decode cX7_laysFaces 92 = .ok (.iload_n 1, 1) := by decide +kernel
theorem dX7_laysFaces_93 : decode cX7_laysFaces 93 = .ok (.invokevirtual 190, 3) := by decide +kernel
theorem dX7_laysFaces_96 : decode cX7_laysFaces 96 = .ok (.ifCond .eq 7, 3) := by decide +kernel
theorem dX7_laysFaces_99 : decode cX7_laysFaces 99 = .ok (.iconst 1, 1) := by decide +kernel
theorem dX7_laysFaces_100 : decode cX7_laysFaces 100 = .ok (.goto 4, 3) := by decide +kernel
theorem dX7_laysFaces_103 : decode cX7_laysFaces 103 = .ok (.iconst 0, 1) := by decide +kernel
theorem dX7_laysFaces_104 : decode cX7_laysFaces 104 = .ok (.iadd, 1) := by decide +kernel
theorem dX7_laysFaces_105 : decode cX7_laysFaces 105 = .ok (.iastore, 1) := by decide +kernel
theorem dX7_laysFaces_106 : decode cX7_laysFaces 106 = .ok (.iinc 2 1, 3) := by decide +kernel
theorem dX7_laysFaces_109 : decode cX7_laysFaces 109 = .ok (.goto (-43), 3) := by decide +kernel
theorem dX7_laysFaces_112 : decode cX7_laysFaces 112 = .ok (.aload_n 0, 1) := by decide +kernel
theorem dX7_laysFaces_113 : decode cX7_laysFaces 113 = .ok (.dup, 1) := by decide +kernel
theorem dX7_laysFaces_114 : decode cX7_laysFaces 114 = .ok (.getfield 63, 3) := by decide +kernel
theorem dX7_laysFaces_117 : decode cX7_laysFaces 117 = .ok (.aload_n 0, 1) := by decide +kernel
theorem dX7_laysFaces_118 : decode cX7_laysFaces 118 = .ok (.getfield 56, 3) := by decide +kernel
theorem dX7_laysFaces_121 : decode cX7_laysFaces 121 = .ok (.iload_n 1, 1) := by decide +kernel
theorem dX7_laysFaces_122 : decode cX7_laysFaces 122 = .ok (.baload, 1) := by decide +kernel
theorem dX7_laysFaces_123 : decode cX7_laysFaces 123 = .ok (.ifCond .eq 7, 3) := by decide +kernel
theorem dX7_laysFaces_126 : decode cX7_laysFaces 126 = .ok (.iconst 0, 1) := by decide +kernel
theorem dX7_laysFaces_127 : decode cX7_laysFaces 127 = .ok (.goto 4, 3) := by decide +kernel
theorem dX7_laysFaces_130 : decode cX7_laysFaces 130 = .ok (.iconst 1, 1) := by decide +kernel
theorem dX7_laysFaces_131 : decode cX7_laysFaces 131 = .ok (.iadd, 1) := by decide +kernel
theorem dX7_laysFaces_132 : decode cX7_laysFaces 132 = .ok (.putfield 63, 3) := by decide +kernel
theorem dX7_laysFaces_135 : decode cX7_laysFaces 135 = .ok (.iinc 1 1, 3) := by decide +kernel
theorem dX7_laysFaces_138 : decode cX7_laysFaces 138 = .ok (.goto (-89), 3) := by decide +kernel
theorem dX7_laysFaces_141 : decode cX7_laysFaces 141 = .ok (.iconst 0, 1) := by decide +kernel
theorem dX7_laysFaces_142 : decode cX7_laysFaces 142 = .ok (.istore_n 1, 1) := by decide +kernel
theorem dX7_laysFaces_143 : decode cX7_laysFaces 143 = .ok (.iload_n 1, 1) := by decide +kernel
theorem dX7_laysFaces_144 : decode cX7_laysFaces 144 = .ok (.aload_n 0, 1) := by decide +kernel
theorem dX7_laysFaces_145 : decode cX7_laysFaces 145 = .ok (.getfield 123, 3) := by decide +kernel
theorem dX7_laysFaces_148 : decode cX7_laysFaces 148 = .ok (.if_icmp .ge 63, 3) := by decide +kernel
theorem dX7_laysFaces_151 : decode cX7_laysFaces 151 = .ok (.aload_n 0, 1) := by decide +kernel
theorem dX7_laysFaces_152 : decode cX7_laysFaces 152 = .ok (.getfield 35, 3) := by decide +kernel
theorem dX7_laysFaces_155 : decode cX7_laysFaces 155 = .ok (.iload_n 1, 1) := by decide +kernel
theorem dX7_laysFaces_156 : decode cX7_laysFaces 156 = .ok (.iaload, 1) := by decide +kernel
theorem dX7_laysFaces_157 : decode cX7_laysFaces 157 = .ok (.iload_n 1, 1) := by decide +kernel
theorem dX7_laysFaces_158 : decode cX7_laysFaces 158 = .ok (.if_icmp .ne 47, 3) := by decide +kernel
theorem dX7_laysFaces_161 : decode cX7_laysFaces 161 = .ok (.aload_n 0, 1) := by decide +kernel
theorem dX7_laysFaces_162 : decode cX7_laysFaces 162 = .ok (.getfield 60, 3) := by decide +kernel
theorem dX7_laysFaces_165 : decode cX7_laysFaces 165 = .ok (.aload_n 0, 1) := by decide +kernel
theorem dX7_laysFaces_166 : decode cX7_laysFaces 166 = .ok (.getfield 47, 3) := by decide +kernel
theorem dX7_laysFaces_169 : decode cX7_laysFaces 169 = .ok (.aload_n 0, 1) := by decide +kernel
theorem dX7_laysFaces_170 : decode cX7_laysFaces 170 = .ok (.iload_n 1, 1) := by decide +kernel
theorem dX7_laysFaces_171 : decode cX7_laysFaces 171 = .ok (.invokevirtual 187, 3) := by decide +kernel
theorem dX7_laysFaces_174 : decode cX7_laysFaces 174 = .ok (.iaload, 1) := by decide +kernel
theorem dX7_laysFaces_175 : decode cX7_laysFaces 175 = .ok (.aload_n 0, 1) := by decide +kernel
theorem dX7_laysFaces_176 : decode cX7_laysFaces 176 = .ok (.aload_n 0, 1) := by decide +kernel
theorem dX7_laysFaces_177 : decode cX7_laysFaces 177 = .ok (.getfield 22, 3) := by decide +kernel
theorem dX7_laysFaces_180 : decode cX7_laysFaces 180 = .ok (.iload_n 1, 1) := by decide +kernel
theorem dX7_laysFaces_181 : decode cX7_laysFaces 181 = .ok (.laload, 1) := by decide +kernel
theorem dX7_laysFaces_182 : decode cX7_laysFaces 182 = .ok (.aload_n 0, 1) := by decide +kernel
theorem dX7_laysFaces_183 : decode cX7_laysFaces 183 = .ok (.getfield 26, 3) := by decide +kernel
theorem dX7_laysFaces_186 : decode cX7_laysFaces 186 = .ok (.iload_n 1, 1) := by decide +kernel
theorem dX7_laysFaces_187 : decode cX7_laysFaces 187 = .ok (.laload, 1) := by decide +kernel
theorem dX7_laysFaces_188 : decode cX7_laysFaces 188 = .ok (.aload_n 0, 1) := by decide +kernel
theorem dX7_laysFaces_189 : decode cX7_laysFaces 189 = .ok (.getfield 29, 3) := by decide +kernel
theorem dX7_laysFaces_192 : decode cX7_laysFaces 192 = .ok (.iload_n 1, 1) := by decide +kernel
theorem dX7_laysFaces_193 : decode cX7_laysFaces 193 = .ok (.laload, 1) := by decide +kernel
theorem dX7_laysFaces_194 : decode cX7_laysFaces 194 = .ok (.aload_n 0, 1) := by decide +kernel
theorem dX7_laysFaces_195 : decode cX7_laysFaces 195 = .ok (.getfield 32, 3) := by decide +kernel
theorem dX7_laysFaces_198 : decode cX7_laysFaces 198 = .ok (.iload_n 1, 1) := by decide +kernel
theorem dX7_laysFaces_199 : decode cX7_laysFaces 199 = .ok (.laload, 1) := by decide +kernel
theorem dX7_laysFaces_200 : decode cX7_laysFaces 200 = .ok (.iconst 1, 1) := by decide +kernel
theorem dX7_laysFaces_201 : decode cX7_laysFaces 201 = .ok (.invokevirtual 193, 3) := by decide +kernel
theorem dX7_laysFaces_204 : decode cX7_laysFaces 204 = .ok (.iastore, 1) := by decide +kernel
theorem dX7_laysFaces_205 : decode cX7_laysFaces 205 = .ok (.iinc 1 1, 3) := by decide +kernel
theorem dX7_laysFaces_208 : decode cX7_laysFaces 208 = .ok (.goto (-65), 3) := by decide +kernel
theorem dX7_laysFaces_211 : decode cX7_laysFaces 211 = .ok (.return_, 1) := by decide +kernel
def f_laysFaces_b205 (F : Nat) (k143 : MS → Int32 → Option MS) (M : MS) (x1 : Int32) : Option MS := k143 M (x1 + 1)
def f_laysFaces_L143 (F : Nat) : Nat → MS → Int32 → Option MS
  | 0, _, _ => none
  | n143 + 1, M, x1 => (if (M.1 5) ≤ x1 then some M else rdI 100 (M.2.1 10) x1 fun t2 => (if t2 = x1 then cal (f_highestOut F M x1) fun t7 => rdI 320 (M.2.1 15) t7 fun t8 => rdL 100 (M.2.2 6) x1 fun t11 => rdL 100 (M.2.2 7) x1 fun t14 => rdL 100 (M.2.2 8) x1 fun t17 => rdL 100 (M.2.2 9) x1 fun t20 => cal (f_faceAbove F M t11 t14 t17 t20 1) fun t24 => wrI 320 M 20 t8 t24 fun M27 => f_laysFaces_b205 F ((f_laysFaces_L143 F n143)) M27 x1 else f_laysFaces_b205 F ((f_laysFaces_L143 F n143)) M x1))
def f_laysFaces_b131 (F : Nat) (k49 : MS → Int32 → Option MS) (M : MS) (x1 : Int32) (s0 : Int32) (s1 : Int32) : Option MS := wrF M 21 (s1 + s0) fun M1 => k49 M1 (x1 + 1)
def f_laysFaces_b104 (F : Nat) (k49 : MS → Int32 → Option MS) (k66 : MS → Int32 → Int32 → Option MS) (M : MS) (x1 : Int32) (x2 : Int32) (s0 : Int32) (s1 : Int32) (s2 : Int32) : Option MS := wrI 320 M 20 s2 (s1 + s0) fun M3 => k66 M3 x1 (x2 + 1)
def f_laysFaces_L66 (F : Nat) (k49 : MS → Int32 → Option MS) : Nat → MS → Int32 → Int32 → Option MS
  | 0, _, _, _ => none
  | n66 + 1, M, x1, x2 => (if (M.1 16) ≤ x2 then rdI 320 (M.2.1 19) x1 fun t2 => (if t2 = 0 then f_laysFaces_b131 F k49 M x1 1 (M.1 21) else f_laysFaces_b131 F k49 M x1 0 (M.1 21)) else rdI 320 (M.2.1 20) x1 fun t6 => rdI 320 (M.2.1 19) x2 fun t9 => (if t9 = 0 then cal (f_isAhead F M x2 x1) fun t14 => (if t14 = 0 then f_laysFaces_b104 F k49 ((f_laysFaces_L66 F k49 n66)) M x1 x2 0 t6 x1 else f_laysFaces_b104 F k49 ((f_laysFaces_L66 F k49 n66)) M x1 x2 1 t6 x1) else f_laysFaces_b104 F k49 ((f_laysFaces_L66 F k49 n66)) M x1 x2 0 t6 x1))
def f_laysFaces_L49 (F : Nat) : Nat → MS → Int32 → Option MS
  | 0, _, _ => none
  | n49 + 1, M, x1 => (if (M.1 16) ≤ x1 then f_laysFaces_L143 F F M 0 else wrI 320 M 20 x1 1 fun M4 => f_laysFaces_L66 F ((f_laysFaces_L49 F n49)) F M4 x1 0)
def f_laysFaces_b36 (F : Nat) (k2 : MS → Int32 → Option MS) (M : MS) (x1 : Int32) : Option MS := k2 M (x1 + 1)
def f_laysFaces_L2 (F : Nat) : Nat → MS → Int32 → Option MS
  | 0, _, _ => none
  | n2 + 1, M, x1 => (if (M.1 5) ≤ x1 then wrF M 21 1 fun M2 => f_laysFaces_L49 F F M2 0 else rdI 100 (M.2.1 10) x1 fun t4 => (if t4 = x1 then cal (f_highestOut F M x1) fun t9 => rdI 320 (M.2.1 15) t9 fun t10 => okB 1 <| wrI 320 M 19 t10 1 fun M15 => f_laysFaces_b36 F ((f_laysFaces_L2 F n2)) M15 x1 else f_laysFaces_b36 F ((f_laysFaces_L2 F n2)) M x1))
def f_laysFaces (F : Nat) (M : MS) : Option MS := f_laysFaces_L2 F F M 0
set_option maxRecDepth 100000 in
set_option maxHeartbeats 4000000 in
theorem c_laysFaces (l : Launch) (G : mG) (F : Nat) (M M2 : MS) (h : f_laysFaces F M = some M2) : mMV l yX7_laysFaces vX7_laysFaces ({ frames := 4, cells := 0, slots := 0, locals := 108 }) G [.ref (mO G)] M M2 := by
  refine mBodyV (cc := cX7_laysFaces) (maxL := 3) (ret := none) (by decide) rfl rfl ?_
  intro sz p e s m below meth c hC hP
  have hC0 := hC
  obtain ⟨hx, hb, -, hts, -, -, -, -, -, -⟩ := hC0
  have hS : va_S (mA G sz) s.heap s.heap [] := va_S.rf
  have hin : ∀ w ∈ wsX70, w ∈ vX7_laysFaces := fun w h => List.mem_cons_of_mem _ (List.mem_append_right _ h)
  have fl_vertices := hts _ (List.mem_cons_of_mem _ wm_43)
  have fl_faces := hts _ (List.mem_cons_of_mem _ wm_126)
  have fl_parts := hts _ (List.mem_cons_of_mem _ wm_70)
  have fl_isAround := hts _ (List.mem_cons_of_mem _ wm_96)
  have fl_rounds := hts _ (List.mem_cons_of_mem _ wm_97)
  have fl_many := hts _ (List.mem_cons_of_mem _ wm_94)
  have fl_faceOf := hts _ (List.mem_cons_of_mem _ wm_114)
  have fl_xn := hts _ (List.mem_cons_of_mem _ wm_44)
  have fl_xd := hts _ (List.mem_cons_of_mem _ wm_45)
  have fl_yn := hts _ (List.mem_cons_of_mem _ wm_46)
  have fl_yd := hts _ (List.mem_cons_of_mem _ wm_47)
  have L143 : ∀ (n143 : Nat) (H : Heap) (locs : List Loc) (ls : Array Slot) (M : MS) (x1 : Int32), va_P G.1 vwCl (mW G M) H → va_S (mA G sz) s.heap H locs → lv_has ls 3 [(0, .ref (mO G)), (1, .int x1)] → f_laysFaces_L143 F n143 M x1 = some M2 → W p l e (headSpec vX7_laysFaces ({ frames := 4, cells := 0, slots := 0, locals := 108 })).room s m ([.ref (mO G)] : List Value).toArray below meth c H locs 0 0 (mQV below G M2 sz ([.ref (mO G)] : List Value).toArray s) (F0 m 143 ls []) := by
    intro n143
    induction n143 with
    | zero =>
      intro H locs ls M x1 hP hS hl h
      rw [f_laysFaces_L143] at h; cases h
    | succ n143 ih143 =>
      have b205 : ∀ (H : Heap) (locs : List Loc) (ls : Array Slot) (M : MS) (x1 : Int32), va_P G.1 vwCl (mW G M) H → va_S (mA G sz) s.heap H locs → lv_has ls 3 [(0, .ref (mO G)), (1, .int x1)] → f_laysFaces_b205 F ((f_laysFaces_L143 F n143)) M x1 = some M2 → W p l e (headSpec vX7_laysFaces ({ frames := 4, cells := 0, slots := 0, locals := 108 })).room s m ([.ref (mO G)] : List Value).toArray below meth c H locs 0 0 (mQV below G M2 sz ([.ref (mO G)] : List Value).toArray s) (F0 m 205 ls []) := by
        intro H locs ls M x1 hP hS hl h
        unfold f_laysFaces_b205 at h
        refine lv_iinc (v := x1 + 1) (lv' := [(1, .int (x1 + 1)), (0, .ref (mO G))]) hx hb dX7_laysFaces_205 hl (k := 1) rfl rfl (by decide) rfl (fun ls hl => ?_)
        refine lv_goto (tgt := 143) hx hb dX7_laysFaces_208 (by decide) ?_
        exact ih143 _ _ _ M (x1 + 1) hP hS (lv_sub hl [1, 0] rfl) h
      intro H locs ls M x1 hP hS hl h
      rw [f_laysFaces_L143] at h
      refine lv_iload_n hx hb dX7_laysFaces_143 rfl (lv_at hl 1 rfl) ?_
      refine lv_aload_n hx hb dX7_laysFaces_144 rfl (lv_at hl 0 rfl) ?_
      refine m_get hC hin hP 5 (by decide) fl_vertices rfl (v := .int (M.1 5)) rfl dX7_laysFaces_145 ?_
      refine lv_icmp_ge (tgt := 211) hx hb dX7_laysFaces_148 (by decide) (fun u1 => ?_) (fun u1 => ?_)
      · have h := ite_t u1 h
        cases h
        exact m_vret hC hP hS dX7_laysFaces_211
      · have h := ite_f u1 h
        refine lv_aload_n hx hb dX7_laysFaces_151 rfl (lv_at hl 0 rfl) ?_
        refine m_get hC hin hP 10 (by decide) fl_parts rfl (v := .ref (mAd G 10)) rfl dX7_laysFaces_152 ?_
        refine lv_iload_n hx hb dX7_laysFaces_155 rfl (lv_at hl 1 rfl) ?_
        obtain ⟨z3, t2, e4, h⟩ := rdI_el h
        refine m_ild hC hP 9 (N := 100) rfl z3 e4 dX7_laysFaces_156 ?_
        refine lv_iload_n hx hb dX7_laysFaces_157 rfl (lv_at hl 1 rfl) ?_
        refine lv_icmp_ne (tgt := 205) hx hb dX7_laysFaces_158 (by decide) (fun u5 => ?_) (fun u5 => ?_)
        · have h := ite_f u5 h
          exact b205 _ _ _ M x1 hP hS (lv_sub hl [0, 1] rfl) h
        · have h := ite_t u5 h
          refine lv_aload_n hx hb dX7_laysFaces_161 rfl (lv_at hl 0 rfl) ?_
          refine m_get hC hin hP 20 (by decide) fl_faceOf rfl (v := .ref (mAd G 20)) rfl dX7_laysFaces_162 ?_
          refine lv_aload_n hx hb dX7_laysFaces_165 rfl (lv_at hl 0 rfl) ?_
          refine m_get hC hin hP 15 (by decide) fl_rounds rfl (v := .ref (mAd G 15)) rfl dX7_laysFaces_166 ?_
          refine lv_aload_n hx hb dX7_laysFaces_169 rfl (lv_at hl 0 rfl) ?_
          refine lv_iload_n hx hb dX7_laysFaces_170 rfl (lv_at hl 1 rfl) ?_
          obtain ⟨t7, e6, h⟩ := cal_el h
          refine m_VI (As := [.int x1]) (rest := [.ref (mAd G 15), .ref (mAd G 20)]) hC hP hS (c_highestOut l G F M x1 t7 e6) (cwV 1 hts (gWM wm_127 wm_128 wm_129 wm_7 wm_105) rfl rfl rfl (by decide +kernel) ⟨Nat.le_of_ble_eq_true rfl, Nat.le_of_ble_eq_true rfl⟩) rfl hl.1 rfl (Nat.le_of_ble_eq_true rfl) dX7_laysFaces_171 (fun H locs hP hS => ?_)
          obtain ⟨z9, t8, e10, h⟩ := rdI_el h
          refine m_ild hC hP 13 (N := 320) rfl z9 e10 dX7_laysFaces_174 ?_
          refine lv_aload_n hx hb dX7_laysFaces_175 rfl (lv_at hl 0 rfl) ?_
          refine lv_aload_n hx hb dX7_laysFaces_176 rfl (lv_at hl 0 rfl) ?_
          refine m_get hC hin hP 6 (by decide) fl_xn rfl (v := .ref (mAd G 6)) rfl dX7_laysFaces_177 ?_
          refine lv_iload_n hx hb dX7_laysFaces_180 rfl (lv_at hl 1 rfl) ?_
          obtain ⟨z12, t11, e13, h⟩ := rdL_el h
          refine m_lld hC hP 5 (N := 100) rfl z12 e13 dX7_laysFaces_181 ?_
          refine lv_aload_n hx hb dX7_laysFaces_182 rfl (lv_at hl 0 rfl) ?_
          refine m_get hC hin hP 7 (by decide) fl_xd rfl (v := .ref (mAd G 7)) rfl dX7_laysFaces_183 ?_
          refine lv_iload_n hx hb dX7_laysFaces_186 rfl (lv_at hl 1 rfl) ?_
          obtain ⟨z15, t14, e16, h⟩ := rdL_el h
          refine m_lld hC hP 6 (N := 100) rfl z15 e16 dX7_laysFaces_187 ?_
          refine lv_aload_n hx hb dX7_laysFaces_188 rfl (lv_at hl 0 rfl) ?_
          refine m_get hC hin hP 8 (by decide) fl_yn rfl (v := .ref (mAd G 8)) rfl dX7_laysFaces_189 ?_
          refine lv_iload_n hx hb dX7_laysFaces_192 rfl (lv_at hl 1 rfl) ?_
          obtain ⟨z18, t17, e19, h⟩ := rdL_el h
          refine m_lld hC hP 7 (N := 100) rfl z18 e19 dX7_laysFaces_193 ?_
          refine lv_aload_n hx hb dX7_laysFaces_194 rfl (lv_at hl 0 rfl) ?_
          refine m_get hC hin hP 9 (by decide) fl_yd rfl (v := .ref (mAd G 9)) rfl dX7_laysFaces_195 ?_
          refine lv_iload_n hx hb dX7_laysFaces_198 rfl (lv_at hl 1 rfl) ?_
          obtain ⟨z21, t20, e22, h⟩ := rdL_el h
          refine m_lld hC hP 8 (N := 100) rfl z21 e22 dX7_laysFaces_199 ?_
          refine lv_iconst (v := 1) hx hb dX7_laysFaces_200 (by decide) ?_
          obtain ⟨t24, e23, h⟩ := cal_el h
          refine m_VI (As := [.long t11, .long t14, .long t17, .long t20, .int 1]) (rest := [.int t8, .ref (mAd G 20)]) hC hP hS (c_faceAbove l G F M t11 t14 t17 t20 1 t24 e23) (cwV 5 hts (gWM wm_133 wm_134 wm_135 wm_7 wm_115) rfl rfl rfl (by decide +kernel) ⟨Nat.le_of_ble_eq_true rfl, Nat.le_of_ble_eq_true rfl⟩) rfl hl.1 rfl (Nat.le_of_ble_eq_true rfl) dX7_laysFaces_201 (fun H locs hP hS => ?_)
          obtain ⟨z25, M27, e26, h⟩ := wrI_el h
          refine m_ist hC hP hS 17 (N := 320) rfl z25 (maset_20 G) e26 dX7_laysFaces_204 (fun H locs hP hS => ?_)
          exact b205 _ _ _ M27 x1 hP hS (lv_sub hl [0, 1] rfl) h
  have L49 : ∀ (n49 : Nat) (H : Heap) (locs : List Loc) (ls : Array Slot) (M : MS) (x1 : Int32), va_P G.1 vwCl (mW G M) H → va_S (mA G sz) s.heap H locs → lv_has ls 3 [(0, .ref (mO G)), (1, .int x1)] → f_laysFaces_L49 F n49 M x1 = some M2 → W p l e (headSpec vX7_laysFaces ({ frames := 4, cells := 0, slots := 0, locals := 108 })).room s m ([.ref (mO G)] : List Value).toArray below meth c H locs 0 0 (mQV below G M2 sz ([.ref (mO G)] : List Value).toArray s) (F0 m 49 ls []) := by
    intro n49
    induction n49 with
    | zero =>
      intro H locs ls M x1 hP hS hl h
      rw [f_laysFaces_L49] at h; cases h
    | succ n49 ih49 =>
      have b131 : ∀ (H : Heap) (locs : List Loc) (ls : Array Slot) (M : MS) (x1 : Int32) (s0 : Int32) (s1 : Int32), va_P G.1 vwCl (mW G M) H → va_S (mA G sz) s.heap H locs → lv_has ls 3 [(0, .ref (mO G)), (1, .int x1)] → f_laysFaces_b131 F ((f_laysFaces_L49 F n49)) M x1 s0 s1 = some M2 → W p l e (headSpec vX7_laysFaces ({ frames := 4, cells := 0, slots := 0, locals := 108 })).room s m ([.ref (mO G)] : List Value).toArray below meth c H locs 0 0 (mQV below G M2 sz ([.ref (mO G)] : List Value).toArray s) (F0 m 131 ls [.int s0, .int s1, .ref (mO G)]) := by
        intro H locs ls M x1 s0 s1 hP hS hl h
        unfold f_laysFaces_b131 at h
        refine lv_iadd hx hb dX7_laysFaces_131 ?_
        obtain ⟨M1, e2, h⟩ := wrF_el h
        refine m_put hC hin hP hS 21 (by decide) fl_faces rfl rfl (by decide +kernel) (mset_21 G _ _) e2 dX7_laysFaces_132 (fun H locs hP hS => ?_)
        refine lv_iinc (v := x1 + 1) (lv' := [(1, .int (x1 + 1)), (0, .ref (mO G))]) hx hb dX7_laysFaces_135 hl (k := 1) rfl rfl (by decide) rfl (fun ls hl => ?_)
        refine lv_goto (tgt := 49) hx hb dX7_laysFaces_138 (by decide) ?_
        exact ih49 _ _ _ M1 (x1 + 1) hP hS (lv_sub hl [1, 0] rfl) h
      have L66 : ∀ (n66 : Nat) (H : Heap) (locs : List Loc) (ls : Array Slot) (M : MS) (x1 : Int32) (x2 : Int32), va_P G.1 vwCl (mW G M) H → va_S (mA G sz) s.heap H locs → lv_has ls 3 [(0, .ref (mO G)), (1, .int x1), (2, .int x2)] → f_laysFaces_L66 F ((f_laysFaces_L49 F n49)) n66 M x1 x2 = some M2 → W p l e (headSpec vX7_laysFaces ({ frames := 4, cells := 0, slots := 0, locals := 108 })).room s m ([.ref (mO G)] : List Value).toArray below meth c H locs 0 0 (mQV below G M2 sz ([.ref (mO G)] : List Value).toArray s) (F0 m 66 ls []) := by
        intro n66
        induction n66 with
        | zero =>
          intro H locs ls M x1 x2 hP hS hl h
          rw [f_laysFaces_L66] at h; cases h
        | succ n66 ih66 =>
          have b104 : ∀ (H : Heap) (locs : List Loc) (ls : Array Slot) (M : MS) (x1 : Int32) (x2 : Int32) (s0 : Int32) (s1 : Int32) (s2 : Int32), va_P G.1 vwCl (mW G M) H → va_S (mA G sz) s.heap H locs → lv_has ls 3 [(0, .ref (mO G)), (1, .int x1), (2, .int x2)] → f_laysFaces_b104 F ((f_laysFaces_L49 F n49)) ((f_laysFaces_L66 F ((f_laysFaces_L49 F n49)) n66)) M x1 x2 s0 s1 s2 = some M2 → W p l e (headSpec vX7_laysFaces ({ frames := 4, cells := 0, slots := 0, locals := 108 })).room s m ([.ref (mO G)] : List Value).toArray below meth c H locs 0 0 (mQV below G M2 sz ([.ref (mO G)] : List Value).toArray s) (F0 m 104 ls [.int s0, .int s1, .int s2, .ref (mAd G 20)]) := by
            intro H locs ls M x1 x2 s0 s1 s2 hP hS hl h
            unfold f_laysFaces_b104 at h
            refine lv_iadd hx hb dX7_laysFaces_104 ?_
            obtain ⟨z1, M3, e2, h⟩ := wrI_el h
            refine m_ist hC hP hS 17 (N := 320) rfl z1 (maset_20 G) e2 dX7_laysFaces_105 (fun H locs hP hS => ?_)
            refine lv_iinc (v := x2 + 1) (lv' := [(2, .int (x2 + 1)), (0, .ref (mO G)), (1, .int x1)]) hx hb dX7_laysFaces_106 hl (k := 2) rfl rfl (by decide) rfl (fun ls hl => ?_)
            refine lv_goto (tgt := 66) hx hb dX7_laysFaces_109 (by decide) ?_
            exact ih66 _ _ _ M3 x1 (x2 + 1) hP hS (lv_sub hl [1, 2, 0] rfl) h
          intro H locs ls M x1 x2 hP hS hl h
          rw [f_laysFaces_L66] at h
          refine lv_iload_n hx hb dX7_laysFaces_66 rfl (lv_at hl 2 rfl) ?_
          refine lv_aload_n hx hb dX7_laysFaces_67 rfl (lv_at hl 0 rfl) ?_
          refine m_get hC hin hP 16 (by decide) fl_many rfl (v := .int (M.1 16)) rfl dX7_laysFaces_68 ?_
          refine lv_icmp_ge (tgt := 112) hx hb dX7_laysFaces_71 (by decide) (fun u1 => ?_) (fun u1 => ?_)
          · have h := ite_t u1 h
            refine lv_aload_n hx hb dX7_laysFaces_112 rfl (lv_at hl 0 rfl) ?_
            refine lv_dup hx hb dX7_laysFaces_113 rfl ?_
            refine m_get hC hin hP 21 (by decide) fl_faces rfl (v := .int (M.1 21)) rfl dX7_laysFaces_114 ?_
            refine lv_aload_n hx hb dX7_laysFaces_117 rfl (lv_at hl 0 rfl) ?_
            refine m_get hC hin hP 19 (by decide) fl_isAround rfl (v := .ref (mAd G 19)) rfl dX7_laysFaces_118 ?_
            refine lv_iload_n hx hb dX7_laysFaces_121 rfl (lv_at hl 1 rfl) ?_
            obtain ⟨z3, t2, e4, h⟩ := rdI_el h
            refine m_zld hC hP 16 (N := 320) rfl z3 e4 dX7_laysFaces_122 ?_
            refine lv_if_eq (tgt := 130) hx hb dX7_laysFaces_123 (by decide) (fun u5 => ?_) (fun u5 => ?_)
            · have h := ite_t u5 h
              refine lv_iconst (v := 1) hx hb dX7_laysFaces_130 (by decide) ?_
              exact b131 _ _ _ M x1 1 (M.1 21) hP hS (lv_sub hl [0, 1] rfl) h
            · have h := ite_f u5 h
              refine lv_iconst (v := 0) hx hb dX7_laysFaces_126 (by decide) ?_
              refine lv_goto (tgt := 131) hx hb dX7_laysFaces_127 (by decide) ?_
              exact b131 _ _ _ M x1 0 (M.1 21) hP hS (lv_sub hl [0, 1] rfl) h
          · have h := ite_f u1 h
            refine lv_aload_n hx hb dX7_laysFaces_74 rfl (lv_at hl 0 rfl) ?_
            refine m_get hC hin hP 20 (by decide) fl_faceOf rfl (v := .ref (mAd G 20)) rfl dX7_laysFaces_75 ?_
            refine lv_iload_n hx hb dX7_laysFaces_78 rfl (lv_at hl 1 rfl) ?_
            refine lv_dup2_11 hx hb dX7_laysFaces_79 rfl rfl ?_
            obtain ⟨z7, t6, e8, h⟩ := rdI_el h
            refine m_ild hC hP 17 (N := 320) rfl z7 e8 dX7_laysFaces_80 ?_
            refine lv_aload_n hx hb dX7_laysFaces_81 rfl (lv_at hl 0 rfl) ?_
            refine m_get hC hin hP 19 (by decide) fl_isAround rfl (v := .ref (mAd G 19)) rfl dX7_laysFaces_82 ?_
            refine lv_iload_n hx hb dX7_laysFaces_85 rfl (lv_at hl 2 rfl) ?_
            obtain ⟨z10, t9, e11, h⟩ := rdI_el h
            refine m_zld hC hP 16 (N := 320) rfl z10 e11 dX7_laysFaces_86 ?_
            refine lv_if_ne (tgt := 103) hx hb dX7_laysFaces_87 (by decide) (fun u12 => ?_) (fun u12 => ?_)
            · have h := ite_f u12 h
              refine lv_iconst (v := 0) hx hb dX7_laysFaces_103 (by decide) ?_
              exact b104 _ _ _ M x1 x2 0 t6 x1 hP hS (lv_sub hl [0, 1, 2] rfl) h
            · have h := ite_t u12 h
              refine lv_aload_n hx hb dX7_laysFaces_90 rfl (lv_at hl 0 rfl) ?_
              refine lv_iload_n hx hb dX7_laysFaces_91 rfl (lv_at hl 2 rfl) ?_
              refine lv_iload_n hx hb dX7_laysFaces_92 rfl (lv_at hl 1 rfl) ?_
              obtain ⟨t14, e13, h⟩ := cal_el h
              refine m_VI (As := [.int x2, .int x1]) (rest := [.int t6, .int x1, .ref (mAd G 20)]) hC hP hS (c_isAhead l G F M x2 x1 t14 e13) (cwV 2 hts (gWM wm_130 wm_131 wm_132 wm_7 wm_106) rfl rfl rfl (by decide +kernel) ⟨Nat.le_of_ble_eq_true rfl, Nat.le_of_ble_eq_true rfl⟩) rfl hl.1 rfl (Nat.le_of_ble_eq_true rfl) dX7_laysFaces_93 (fun H locs hP hS => ?_)
              refine lv_if_eq (tgt := 103) hx hb dX7_laysFaces_96 (by decide) (fun u15 => ?_) (fun u15 => ?_)
              · have h := ite_t u15 h
                refine lv_iconst (v := 0) hx hb dX7_laysFaces_103 (by decide) ?_
                exact b104 _ _ _ M x1 x2 0 t6 x1 hP hS (lv_sub hl [0, 1, 2] rfl) h
              · have h := ite_f u15 h
                refine lv_iconst (v := 1) hx hb dX7_laysFaces_99 (by decide) ?_
                refine lv_goto (tgt := 104) hx hb dX7_laysFaces_100 (by decide) ?_
                exact b104 _ _ _ M x1 x2 1 t6 x1 hP hS (lv_sub hl [0, 1, 2] rfl) h
      intro H locs ls M x1 hP hS hl h
      rw [f_laysFaces_L49] at h
      refine lv_iload_n hx hb dX7_laysFaces_49 rfl (lv_at hl 1 rfl) ?_
      refine lv_aload_n hx hb dX7_laysFaces_50 rfl (lv_at hl 0 rfl) ?_
      refine m_get hC hin hP 16 (by decide) fl_many rfl (v := .int (M.1 16)) rfl dX7_laysFaces_51 ?_
      refine lv_icmp_ge (tgt := 141) hx hb dX7_laysFaces_54 (by decide) (fun u1 => ?_) (fun u1 => ?_)
      · have h := ite_t u1 h
        refine lv_iconst (v := 0) hx hb dX7_laysFaces_141 (by decide) ?_
        refine lv_istore_n (lv' := [(1, .int 0), (0, .ref (mO G))]) hx hb dX7_laysFaces_142 rfl hl (by decide) rfl (fun ls hl => ?_)
        exact L143 F _ _ _ M 0 hP hS (lv_sub hl [1, 0] rfl) h
      · have h := ite_f u1 h
        refine lv_aload_n hx hb dX7_laysFaces_57 rfl (lv_at hl 0 rfl) ?_
        refine m_get hC hin hP 20 (by decide) fl_faceOf rfl (v := .ref (mAd G 20)) rfl dX7_laysFaces_58 ?_
        refine lv_iload_n hx hb dX7_laysFaces_61 rfl (lv_at hl 1 rfl) ?_
        refine lv_iconst (v := 1) hx hb dX7_laysFaces_62 (by decide) ?_
        obtain ⟨z2, M4, e3, h⟩ := wrI_el h
        refine m_ist hC hP hS 17 (N := 320) rfl z2 (maset_20 G) e3 dX7_laysFaces_63 (fun H locs hP hS => ?_)
        refine lv_iconst (v := 0) hx hb dX7_laysFaces_64 (by decide) ?_
        refine lv_istore_n (lv' := [(2, .int 0), (0, .ref (mO G)), (1, .int x1)]) hx hb dX7_laysFaces_65 rfl hl (by decide) rfl (fun ls hl => ?_)
        exact L66 F _ _ _ M4 x1 0 hP hS (lv_sub hl [1, 2, 0] rfl) h
  have L2 : ∀ (n2 : Nat) (H : Heap) (locs : List Loc) (ls : Array Slot) (M : MS) (x1 : Int32), va_P G.1 vwCl (mW G M) H → va_S (mA G sz) s.heap H locs → lv_has ls 3 [(0, .ref (mO G)), (1, .int x1)] → f_laysFaces_L2 F n2 M x1 = some M2 → W p l e (headSpec vX7_laysFaces ({ frames := 4, cells := 0, slots := 0, locals := 108 })).room s m ([.ref (mO G)] : List Value).toArray below meth c H locs 0 0 (mQV below G M2 sz ([.ref (mO G)] : List Value).toArray s) (F0 m 2 ls []) := by
    intro n2
    induction n2 with
    | zero =>
      intro H locs ls M x1 hP hS hl h
      rw [f_laysFaces_L2] at h; cases h
    | succ n2 ih2 =>
      have b36 : ∀ (H : Heap) (locs : List Loc) (ls : Array Slot) (M : MS) (x1 : Int32), va_P G.1 vwCl (mW G M) H → va_S (mA G sz) s.heap H locs → lv_has ls 3 [(0, .ref (mO G)), (1, .int x1)] → f_laysFaces_b36 F ((f_laysFaces_L2 F n2)) M x1 = some M2 → W p l e (headSpec vX7_laysFaces ({ frames := 4, cells := 0, slots := 0, locals := 108 })).room s m ([.ref (mO G)] : List Value).toArray below meth c H locs 0 0 (mQV below G M2 sz ([.ref (mO G)] : List Value).toArray s) (F0 m 36 ls []) := by
        intro H locs ls M x1 hP hS hl h
        unfold f_laysFaces_b36 at h
        refine lv_iinc (v := x1 + 1) (lv' := [(1, .int (x1 + 1)), (0, .ref (mO G))]) hx hb dX7_laysFaces_36 hl (k := 1) rfl rfl (by decide) rfl (fun ls hl => ?_)
        refine lv_goto (tgt := 2) hx hb dX7_laysFaces_39 (by decide) ?_
        exact ih2 _ _ _ M (x1 + 1) hP hS (lv_sub hl [1, 0] rfl) h
      intro H locs ls M x1 hP hS hl h
      rw [f_laysFaces_L2] at h
      refine lv_iload_n hx hb dX7_laysFaces_2 rfl (lv_at hl 1 rfl) ?_
      refine lv_aload_n hx hb dX7_laysFaces_3 rfl (lv_at hl 0 rfl) ?_
      refine m_get hC hin hP 5 (by decide) fl_vertices rfl (v := .int (M.1 5)) rfl dX7_laysFaces_4 ?_
      refine lv_icmp_ge (tgt := 42) hx hb dX7_laysFaces_7 (by decide) (fun u1 => ?_) (fun u1 => ?_)
      · have h := ite_t u1 h
        refine lv_aload_n hx hb dX7_laysFaces_42 rfl (lv_at hl 0 rfl) ?_
        refine lv_iconst (v := 1) hx hb dX7_laysFaces_43 (by decide) ?_
        obtain ⟨M2, e3, h⟩ := wrF_el h
        refine m_put hC hin hP hS 21 (by decide) fl_faces rfl rfl (by decide +kernel) (mset_21 G _ _) e3 dX7_laysFaces_44 (fun H locs hP hS => ?_)
        refine lv_iconst (v := 0) hx hb dX7_laysFaces_47 (by decide) ?_
        refine lv_istore_n (lv' := [(1, .int 0), (0, .ref (mO G))]) hx hb dX7_laysFaces_48 rfl hl (by decide) rfl (fun ls hl => ?_)
        exact L49 F _ _ _ M2 0 hP hS (lv_sub hl [1, 0] rfl) h
      · have h := ite_f u1 h
        refine lv_aload_n hx hb dX7_laysFaces_10 rfl (lv_at hl 0 rfl) ?_
        refine m_get hC hin hP 10 (by decide) fl_parts rfl (v := .ref (mAd G 10)) rfl dX7_laysFaces_11 ?_
        refine lv_iload_n hx hb dX7_laysFaces_14 rfl (lv_at hl 1 rfl) ?_
        obtain ⟨z5, t4, e6, h⟩ := rdI_el h
        refine m_ild hC hP 9 (N := 100) rfl z5 e6 dX7_laysFaces_15 ?_
        refine lv_iload_n hx hb dX7_laysFaces_16 rfl (lv_at hl 1 rfl) ?_
        refine lv_icmp_ne (tgt := 36) hx hb dX7_laysFaces_17 (by decide) (fun u7 => ?_) (fun u7 => ?_)
        · have h := ite_f u7 h
          exact b36 _ _ _ M x1 hP hS (lv_sub hl [0, 1] rfl) h
        · have h := ite_t u7 h
          refine lv_aload_n hx hb dX7_laysFaces_20 rfl (lv_at hl 0 rfl) ?_
          refine m_get hC hin hP 19 (by decide) fl_isAround rfl (v := .ref (mAd G 19)) rfl dX7_laysFaces_21 ?_
          refine lv_aload_n hx hb dX7_laysFaces_24 rfl (lv_at hl 0 rfl) ?_
          refine m_get hC hin hP 15 (by decide) fl_rounds rfl (v := .ref (mAd G 15)) rfl dX7_laysFaces_25 ?_
          refine lv_aload_n hx hb dX7_laysFaces_28 rfl (lv_at hl 0 rfl) ?_
          refine lv_iload_n hx hb dX7_laysFaces_29 rfl (lv_at hl 1 rfl) ?_
          obtain ⟨t9, e8, h⟩ := cal_el h
          refine m_VI (As := [.int x1]) (rest := [.ref (mAd G 15), .ref (mAd G 19)]) hC hP hS (c_highestOut l G F M x1 t9 e8) (cwV 1 hts (gWM wm_127 wm_128 wm_129 wm_7 wm_105) rfl rfl rfl (by decide +kernel) ⟨Nat.le_of_ble_eq_true rfl, Nat.le_of_ble_eq_true rfl⟩) rfl hl.1 rfl (Nat.le_of_ble_eq_true rfl) dX7_laysFaces_30 (fun H locs hP hS => ?_)
          obtain ⟨z11, t10, e12, h⟩ := rdI_el h
          refine m_ild hC hP 13 (N := 320) rfl z11 e12 dX7_laysFaces_33 ?_
          refine lv_iconst (v := 1) hx hb dX7_laysFaces_34 (by decide) ?_
          obtain ⟨z16, h⟩ := okB_el h
          obtain ⟨z13, M15, e14, h⟩ := wrI_el h
          refine m_zst hC hP hS 16 (N := 320) rfl z13 z16 (maset_19 G) e14 dX7_laysFaces_35 (fun H locs hP hS => ?_)
          exact b36 _ _ _ M15 x1 hP hS (lv_sub hl [0, 1] rfl) h
  refine m_entry (Nat.le_of_ble_eq_true rfl) (fun ls hl => ?_)
  have hl : lv_has ls 3 [(0, .ref (mO G))] := hl
  unfold f_laysFaces at h
  refine lv_iconst (v := 0) hx hb dX7_laysFaces_0 (by decide) ?_
  refine lv_istore_n (lv' := [(1, .int 0), (0, .ref (mO G))]) hx hb dX7_laysFaces_1 rfl hl (by decide) rfl (fun ls hl => ?_)
  exact L2 F _ _ _ M 0 hP hS (lv_sub hl [1, 0] rfl) h

theorem dX7_lays_0 : decode cX7_lays 0 = .ok (.aload_n 0, 1) := by decide +kernel
theorem dX7_lays_1 : decode cX7_lays 1 = .ok (.invokevirtual 197, 3) := by decide +kernel
theorem dX7_lays_4 : decode cX7_lays 4 = .ok (.aload_n 0, 1) := by decide +kernel
theorem dX7_lays_5 : decode cX7_lays 5 = .ok (.invokevirtual 200, 3) := by decide +kernel
theorem dX7_lays_8 : decode cX7_lays 8 = .ok (.aload_n 0, 1) := by decide +kernel
theorem dX7_lays_9 : decode cX7_lays 9 = .ok (.invokevirtual 203, 3) := by decide +kernel
theorem dX7_lays_12 : decode cX7_lays 12 = .ok (.aload_n 0, 1) := by decide +kernel
theorem dX7_lays_13 : decode cX7_lays 13 = .ok (.invokevirtual 206, 3) := by decide +kernel
theorem dX7_lays_16 : decode cX7_lays 16 = .ok (.aload_n 0, 1) := by decide +kernel
theorem dX7_lays_17 : decode cX7_lays 17 = .ok (.invokevirtual 209, 3) := by decide +kernel
theorem dX7_lays_20 : decode cX7_lays 20 = .ok (.return_, 1) := by decide +kernel
def f_lays (F : Nat) (M : MS) : Option MS := cal (f_laysVertices F M) fun M2 => cal (f_laysEdges F M2) fun M4 => cal (f_laysParts F M4) fun M6 => cal (f_laysRounds F M6) fun M8 => cal (f_laysFaces F M8) fun M10 => some M10
set_option maxRecDepth 100000 in
set_option maxHeartbeats 4000000 in
theorem c_lays (l : Launch) (G : mG) (F : Nat) (M M2 : MS) (h : f_lays F M = some M2) : mMV l yX7_lays vX7_lays ({ frames := 7, cells := 0, slots := 0, locals := 159 }) G [.ref (mO G)] M M2 := by
  refine mBodyV (cc := cX7_lays) (maxL := 1) (ret := none) (by decide) rfl rfl ?_
  intro sz p e s m below meth c hC hP
  have hC0 := hC
  obtain ⟨hx, hb, -, hts, -, -, -, -, -, -⟩ := hC0
  have hS : va_S (mA G sz) s.heap s.heap [] := va_S.rf
  refine m_entry (Nat.le_of_ble_eq_true rfl) (fun ls hl => ?_)
  have hl : lv_has ls 1 [(0, .ref (mO G))] := hl
  unfold f_lays at h
  refine lv_aload_n hx hb dX7_lays_0 rfl (lv_at hl 0 rfl) ?_
  obtain ⟨M2, e1, h⟩ := cal_el h
  refine m_VV (As := []) (rest := []) hC hP hS (c_laysVertices l G F M M2 e1) (cwV 0 hts (gWM wm_137 wm_138 wm_139 wm_7 wm_52) rfl rfl rfl (by decide +kernel) ⟨Nat.le_of_ble_eq_true rfl, Nat.le_of_ble_eq_true rfl⟩) rfl hl.1 rfl (Nat.le_of_ble_eq_true rfl) dX7_lays_1 (fun H locs hP hS => ?_)
  refine lv_aload_n hx hb dX7_lays_4 rfl (lv_at hl 0 rfl) ?_
  obtain ⟨M4, e3, h⟩ := cal_el h
  refine m_VV (As := []) (rest := []) hC hP hS (c_laysEdges l G F M2 M4 e3) (cwV 0 hts (gWM wm_140 wm_141 wm_142 wm_7 wm_61) rfl rfl rfl (by decide +kernel) ⟨Nat.le_of_ble_eq_true rfl, Nat.le_of_ble_eq_true rfl⟩) rfl hl.1 rfl (Nat.le_of_ble_eq_true rfl) dX7_lays_5 (fun H locs hP hS => ?_)
  refine lv_aload_n hx hb dX7_lays_8 rfl (lv_at hl 0 rfl) ?_
  obtain ⟨M6, e5, h⟩ := cal_el h
  refine m_VV (As := []) (rest := []) hC hP hS (c_laysParts l G F M4 M6 e5) (cwV 0 hts (gWM wm_143 wm_144 wm_145 wm_7 wm_69) rfl rfl rfl (by decide +kernel) ⟨Nat.le_of_ble_eq_true rfl, Nat.le_of_ble_eq_true rfl⟩) rfl hl.1 rfl (Nat.le_of_ble_eq_true rfl) dX7_lays_9 (fun H locs hP hS => ?_)
  refine lv_aload_n hx hb dX7_lays_12 rfl (lv_at hl 0 rfl) ?_
  obtain ⟨M8, e7, h⟩ := cal_el h
  refine m_VV (As := []) (rest := []) hC hP hS (c_laysRounds l G F M6 M8 e7) (cwV 0 hts (gWM wm_146 wm_147 wm_148 wm_7 wm_101) rfl rfl rfl (by decide +kernel) ⟨Nat.le_of_ble_eq_true rfl, Nat.le_of_ble_eq_true rfl⟩) rfl hl.1 rfl (Nat.le_of_ble_eq_true rfl) dX7_lays_13 (fun H locs hP hS => ?_)
  refine lv_aload_n hx hb dX7_lays_16 rfl (lv_at hl 0 rfl) ?_
  obtain ⟨M10, e9, h⟩ := cal_el h
  refine m_VV (As := []) (rest := []) hC hP hS (c_laysFaces l G F M8 M10 e9) (cwV 0 hts (gWM wm_149 wm_150 wm_151 wm_7 wm_125) rfl rfl rfl (by decide +kernel) ⟨Nat.le_of_ble_eq_true rfl, Nat.le_of_ble_eq_true rfl⟩) rfl hl.1 rfl (Nat.le_of_ble_eq_true rfl) dX7_lays_17 (fun H locs hP hS => ?_)
  cases h
  exact m_vret hC hP hS dX7_lays_20

theorem dX7_add_0 : decode cX7_add 0 = .ok (.iload_n 1, 1) := by decide +kernel
theorem dX7_add_1 : decode cX7_add 1 = .ok (.invokestatic 100, 3) := by decide +kernel
theorem dX7_add_4 : decode cX7_add 4 = .ok (.ifCond .eq 40, 3) := by decide +kernel
theorem dX7_add_7 : decode cX7_add 7 = .ok (.iload_n 2, 1) := by decide +kernel
theorem dX7_add_8 : decode cX7_add 8 = .ok (.invokestatic 100, 3) := by decide +kernel
theorem dX7_add_11 : decode cX7_add 11 = .ok (.ifCond .eq 33, 3) := by decide +kernel
theorem dX7_add_14 : decode cX7_add 14 = .ok (.iload_n 3, 1) := by decide +kernel
theorem dX7_add_15 : decode cX7_add 15 = .ok (.invokestatic 100, 3) := by decide +kernel
theorem dX7_add_18 : decode cX7_add 18 = .ok (.ifCond .eq 26, 3) := by decide +kernel
theorem dX7_add_21 : decode cX7_add 21 = .ok (.iload 4, 2) := by decide +kernel
theorem dX7_add_23 : decode cX7_add 23 = .ok (.invokestatic 100, 3) := by decide +kernel
theorem dX7_add_26 : decode cX7_add 26 = .ok (.ifCond .eq 18, 3) := by decide +kernel
theorem dX7_add_29 : decode cX7_add 29 = .ok (.iload_n 1, 1) := by decide +kernel
theorem dX7_add_30 : decode cX7_add 30 = .ok (.iload_n 3, 1) := by decide +kernel
theorem dX7_add_31 : decode cX7_add 31 = .ok (.if_icmp .ne 9, 3) := by decide +kernel
theorem dX7_add_34 : decode cX7_add 34 = .ok (.iload_n 2, 1) := by decide +kernel
theorem dX7_add_35 : decode cX7_add 35 = .ok (.iload 4, 2) := by decide +kernel
theorem dX7_add_37 : decode cX7_add 37 = .ok (.if_icmp .eq 7, 3) := by decide +kernel
theorem dX7_add_40 : decode cX7_add 40 = .ok (.iconst 1, 1) := by decide +kernel
theorem dX7_add_41 : decode cX7_add 41 = .ok (.goto 4, 3) := by decide +kernel
theorem dX7_add_44 : decode cX7_add 44 = .ok (.iconst 0, 1) := by decide +kernel
theorem dX7_add_45 : decode cX7_add 45 = .ok (.istore 5, 2) := by decide +kernel
theorem dX7_add_47 : decode cX7_add 47 = .ok (.aload_n 0, 1) := by decide +kernel
theorem dX7_add_48 : decode cX7_add 48 = .ok (.iload 5, 2) := by decide +kernel
theorem dX7_add_50 : decode cX7_add 50 = .ok (.ifCond .ne 7, 3) := by decide +kernel
theorem dX7_add_53 : decode cX7_add 53 = .ok (.iconst 1, 1) := by decide +kernel
theorem dX7_add_54 : decode cX7_add 54 = .ok (.goto 17, 3) := by decide +kernel
theorem dX7_add_57 : decode cX7_add 57 = .ok (.aload_n 0, 1) := by decide +kernel
theorem dX7_add_58 : decode cX7_add 58 = .ok (.getfield 104, 3) := by decide +kernel
theorem dX7_add_61 : decode cX7_add 61 = .ok (.bipush 12, 2) := by decide +kernel
theorem dX7_add_63 : decode cX7_add 63 = .ok (.if_icmp .ne 7, 3) := by decide +kernel
theorem dX7_add_66 : decode cX7_add 66 = .ok (.iconst 2, 1) := by decide +kernel
theorem dX7_add_67 : decode cX7_add 67 = .ok (.goto 4, 3) := by decide +kernel
theorem dX7_add_70 : decode cX7_add 70 = .ok (.iconst 0, 1) := by decide +kernel
theorem dX7_add_71 : decode cX7_add 71 = .ok (.invokevirtual 107, 3) := by decide +kernel
theorem dX7_add_74 : decode cX7_add 74 = .ok (.ifCond .ne 5, 3) := by decide +kernel
theorem dX7_add_77 : decode cX7_add 77 = .ok (.iconst 0, 1) := by decide +kernel
theorem dX7_add_78 : decode cX7_add 78 = .ok (.ireturn, 1) := by decide +kernel
theorem dX7_add_79 : decode cX7_add 79 = .ok (.aload_n 0, 1) := by decide +kernel
theorem dX7_add_80 : decode cX7_add 80 = .ok (.aload_n 0, 1) := by decide +kernel
theorem dX7_add_81 : decode cX7_add 81 = .ok (.getfield 104, 3) := by decide +kernel
theorem dX7_add_84 : decode cX7_add 84 = .ok (.iload_n 1, 1) := by decide +kernel
theorem dX7_add_85 : decode cX7_add 85 = .ok (.iload_n 2, 1) := by decide +kernel
theorem dX7_add_86 : decode cX7_add 86 = .ok (.iload_n 3, 1) := by decide +kernel
theorem dX7_add_87 : decode cX7_add 87 = .ok (.iload 4, 2) := by decide +kernel
theorem dX7_add_89 : decode cX7_add 89 = .ok (.invokevirtual 110, 3) := by decide +kernel
theorem dX7_add_92 : decode cX7_add 92 = .ok (.iconst 1, 1) := by decide +kernel
theorem dX7_add_93 : decode cX7_add 93 = .ok (.istore 6, 2) := by decide +kernel
theorem dX7_add_95 : decode cX7_add 95 = .ok (.iconst 0, 1) := by decide +kernel
theorem dX7_add_96 : decode cX7_add 96 = .ok (.istore 7, 2) := by decide +kernel
theorem dX7_add_98 : decode cX7_add 98 = .ok (.iload 7, 2) := by decide +kernel
theorem dX7_add_100 : decode cX7_add 100 = .ok (.aload_n 0, 1) := by decide +kernel
theorem dX7_add_101 : decode cX7_add 101 = .ok (.getfield 104, 3) := by decide +kernel
theorem dX7_add_104 : decode cX7_add 104 = .ok (.if_icmp .ge 35, 3) := by decide +kernel
theorem dX7_add_107 : decode cX7_add 107 = .ok (.iload 6, 2) := by decide +kernel
theorem dX7_add_109 : decode cX7_add 109 = .ok (.ifCond .eq 21, 3) := by decide +kernel
theorem dX7_add_112 : decode cX7_add 112 = .ok (.aload_n 0, 1) := by decide +kernel
theorem dX7_add_113 : decode cX7_add 113 = .ok (.aload_n 0, 1) := by decide +kernel
theorem dX7_add_114 : decode cX7_add 114 = .ok (.getfield 104, 3) := by decide +kernel
theorem dX7_add_117 : decode cX7_add 117 = .ok (.iload 7, 2) := by decide +kernel
theorem dX7_add_119 : decode cX7_add 119 = .ok (.invokevirtual 114, 3) := by decide +kernel
theorem dX7_add_122 : decode cX7_add 122 = .ok (.iconst 2, 1) := by decide +kernel
theorem dX7_add_123 : decode cX7_add 123 = .ok (.if_icmp .ge 7, 3) := by decide +kernel
theorem dX7_add_126 : decode cX7_add 126 = .ok (.iconst 1, 1) := by decide +kernel
theorem dX7_add_127 : decode cX7_add 127 = .ok (.goto 4, 3) := by decide +kernel
theorem dX7_add_130 : decode cX7_add 130 = .ok (.iconst 0, 1) := by decide +kernel
theorem dX7_add_131 : decode cX7_add 131 = .ok (.istore 6, 2) := by decide +kernel
theorem dX7_add_133 : decode cX7_add 133 = .ok (.iinc 7 1, 3) := by decide +kernel
theorem dX7_add_136 : decode cX7_add 136 = .ok (.goto (-38), 3) := by decide +kernel
theorem dX7_add_139 : decode cX7_add 139 = .ok (.aload_n 0, 1) := by decide +kernel
theorem dX7_add_140 : decode cX7_add 140 = .ok (.iload 6, 2) := by decide +kernel
theorem dX7_add_142 : decode cX7_add 142 = .ok (.ifCond .eq 7, 3) := by decide +kernel
theorem dX7_add_145 : decode cX7_add 145 = .ok (.iconst 0, 1) := by decide +kernel
theorem dX7_add_146 : decode cX7_add 146 = .ok (.goto 4, 3) := by decide +kernel
theorem dX7_add_149 : decode cX7_add 149 = .ok (.iconst 2, 1) := by decide +kernel
theorem dX7_add_150 : decode cX7_add 150 = .ok (.invokevirtual 107, 3) := by decide +kernel
theorem dX7_add_153 : decode cX7_add 153 = .ok (.ifCond .ne 5, 3) := by decide +kernel
theorem dX7_add_156 : decode cX7_add 156 = .ok (.iconst 0, 1) := by decide +kernel
theorem dX7_add_157 : decode cX7_add 157 = .ok (.ireturn, 1) := by decide +kernel
theorem dX7_add_158 : decode cX7_add 158 = .ok (.aload_n 0, 1) := by decide +kernel
theorem dX7_add_159 : decode cX7_add 159 = .ok (.dup, 1) := by decide +kernel
theorem dX7_add_160 : decode cX7_add 160 = .ok (.getfield 104, 3) := by decide +kernel
theorem dX7_add_163 : decode cX7_add 163 = .ok (.iconst 1, 1) := by decide +kernel
theorem dX7_add_164 : decode cX7_add 164 = .ok (.iadd, 1) := by decide +kernel
theorem dX7_add_165 : decode cX7_add 165 = .ok (.putfield 104, 3) := by decide +kernel
theorem dX7_add_168 : decode cX7_add 168 = .ok (.aload_n 0, 1) := by decide +kernel
theorem dX7_add_169 : decode cX7_add 169 = .ok (.invokevirtual 117, 3) := by decide +kernel
theorem dX7_add_172 : decode cX7_add 172 = .ok (.aload_n 0, 1) := by decide +kernel
theorem dX7_add_173 : decode cX7_add 173 = .ok (.getfield 104, 3) := by decide +kernel
theorem dX7_add_176 : decode cX7_add 176 = .ok (.iconst 1, 1) := by decide +kernel
theorem dX7_add_177 : decode cX7_add 177 = .ok (.isub, 1) := by decide +kernel
theorem dX7_add_178 : decode cX7_add 178 = .ok (.ireturn, 1) := by decide +kernel
def f_add_b150 (F : Nat) (M : MS) (s0 : Int32) : Option (MS × Int32) := caM (f_goes F M s0) fun M2 t3 => (if t3 = 0 then some (M2, 0) else wrF M2 0 ((M2.1 0) + 1) fun M5 => cal (f_lays F M5) fun M8 => some (M8, (M8.1 0) - 1))
def f_add_b131 (F : Nat) (k98 : MS → Int32 → Int32 → Option (MS × Int32)) (M : MS) (x7 : Int32) (s0 : Int32) : Option (MS × Int32) := k98 M s0 (x7 + 1)
def f_add_L98 (F : Nat) : Nat → MS → Int32 → Int32 → Option (MS × Int32)
  | 0, _, _, _ => none
  | n98 + 1, M, x6, x7 => (if (M.1 0) ≤ x7 then (if x6 = 0 then f_add_b150 F M 2 else f_add_b150 F M 0) else (if x6 = 0 then f_add_b131 F ((f_add_L98 F n98)) M x7 0 else cal (f_common F M (M.1 0) x7) fun t5 => (if 2 ≤ t5 then f_add_b131 F ((f_add_L98 F n98)) M x7 0 else f_add_b131 F ((f_add_L98 F n98)) M x7 1)))
def f_add_b71 (F : Nat) (M : MS) (x1 : Int32) (x2 : Int32) (x3 : Int32) (x4 : Int32) (s0 : Int32) : Option (MS × Int32) := caM (f_goes F M s0) fun M2 t3 => (if t3 = 0 then some (M2, 0) else cal (f_puts F M2 (M2.1 0) x1 x2 x3 x4) fun M6 => f_add_L98 F F M6 1 0)
def f_add_b45 (F : Nat) (M : MS) (x1 : Int32) (x2 : Int32) (x3 : Int32) (x4 : Int32) (s0 : Int32) : Option (MS × Int32) := (if s0 = 0 then f_add_b71 F M x1 x2 x3 x4 1 else (if (M.1 0) = 12 then f_add_b71 F M x1 x2 x3 x4 2 else f_add_b71 F M x1 x2 x3 x4 0))
def f_add (F : Nat) (M : MS) (a1 : Int32) (a2 : Int32) (a3 : Int32) (a4 : Int32) : Option (MS × Int32) := cal (f_isPlace F M a1) fun t2 => (if t2 = 0 then f_add_b45 F M a1 a2 a3 a4 0 else cal (f_isPlace F M a2) fun t5 => (if t5 = 0 then f_add_b45 F M a1 a2 a3 a4 0 else cal (f_isPlace F M a3) fun t8 => (if t8 = 0 then f_add_b45 F M a1 a2 a3 a4 0 else cal (f_isPlace F M a4) fun t11 => (if t11 = 0 then f_add_b45 F M a1 a2 a3 a4 0 else (if a1 = a3 then (if a2 = a4 then f_add_b45 F M a1 a2 a3 a4 0 else f_add_b45 F M a1 a2 a3 a4 1) else f_add_b45 F M a1 a2 a3 a4 1)))))
set_option maxRecDepth 100000 in
set_option maxHeartbeats 4000000 in
theorem c_add (l : Launch) (G : mG) (F : Nat) (M M2 : MS) (a1 : Int32) (a2 : Int32) (a3 : Int32) (a4 : Int32) (r : Int32) (h : f_add F M a1 a2 a3 a4 = some (M2, r)) : mMI l yX7_add vX7_add ({ frames := 8, cells := 0, slots := 0, locals := 179 }) G [.ref (mO G), .int a1, .int a2, .int a3, .int a4] M M2 r := by
  refine mBodyI (cc := cX7_add) (maxL := 8) (ret := (some .int)) (by decide) rfl rfl ?_
  intro sz p e s m below meth c hC hP
  have hC0 := hC
  obtain ⟨hx, hb, -, hts, -, -, -, -, -, -⟩ := hC0
  have hS : va_S (mA G sz) s.heap s.heap [] := va_S.rf
  have hin : ∀ w ∈ wsX70, w ∈ vX7_add := fun w h => List.mem_cons_of_mem _ (List.mem_append_right _ h)
  have fl_segments := hts _ (List.mem_cons_of_mem _ wm_53)
  have b150 : ∀ (H : Heap) (locs : List Loc) (ls : Array Slot) (M : MS) (s0 : Int32), va_P G.1 vwCl (mW G M) H → va_S (mA G sz) s.heap H locs → lv_has ls 8 [(0, .ref (mO G))] → f_add_b150 F M s0 = some (M2, r) → W p l e (headSpec vX7_add ({ frames := 8, cells := 0, slots := 0, locals := 179 })).room s m ([.ref (mO G), .int a1, .int a2, .int a3, .int a4] : List Value).toArray below meth c H locs 0 0 (mQI below G M2 sz ([.ref (mO G), .int a1, .int a2, .int a3, .int a4] : List Value).toArray s r) (F0 m 150 ls [.int s0, .ref (mO G)]) := by
    intro H locs ls M s0 hP hS hl h
    unfold f_add_b150 at h
    obtain ⟨M2, t3, e1, h⟩ := caM_el h
    refine m_VI (As := [.int s0]) (rest := []) hC hP hS (c_goes l G F M M2 s0 t3 e1) (cwV 1 hts (gWM wm_155 wm_156 wm_157 wm_7 wm_2) rfl rfl rfl (by decide +kernel) ⟨Nat.le_of_ble_eq_true rfl, Nat.le_of_ble_eq_true rfl⟩) rfl hl.1 rfl (Nat.le_of_ble_eq_true rfl) dX7_add_150 (fun H locs hP hS => ?_)
    refine lv_if_ne (tgt := 158) hx hb dX7_add_153 (by decide) (fun u4 => ?_) (fun u4 => ?_)
    · have h := ite_f u4 h
      refine lv_aload_n hx hb dX7_add_158 rfl (lv_at hl 0 rfl) ?_
      refine lv_dup hx hb dX7_add_159 rfl ?_
      refine m_get hC hin hP 0 (by decide) fl_segments rfl (v := .int (M2.1 0)) rfl dX7_add_160 ?_
      refine lv_iconst (v := 1) hx hb dX7_add_163 (by decide) ?_
      refine lv_iadd hx hb dX7_add_164 ?_
      obtain ⟨M5, e6, h⟩ := wrF_el h
      refine m_put hC hin hP hS 0 (by decide) fl_segments rfl rfl (by decide +kernel) (mset_0 G _ _) e6 dX7_add_165 (fun H locs hP hS => ?_)
      refine lv_aload_n hx hb dX7_add_168 rfl (lv_at hl 0 rfl) ?_
      obtain ⟨M8, e7, h⟩ := cal_el h
      refine m_VV (As := []) (rest := []) hC hP hS (c_lays l G F M5 M8 e7) (cwV 0 hts (gWM wm_161 wm_162 wm_163 wm_7 wm_136) rfl rfl rfl (by decide +kernel) ⟨Nat.le_of_ble_eq_true rfl, Nat.le_of_ble_eq_true rfl⟩) rfl hl.1 rfl (Nat.le_of_ble_eq_true rfl) dX7_add_169 (fun H locs hP hS => ?_)
      refine lv_aload_n hx hb dX7_add_172 rfl (lv_at hl 0 rfl) ?_
      refine m_get hC hin hP 0 (by decide) fl_segments rfl (v := .int (M8.1 0)) rfl dX7_add_173 ?_
      refine lv_iconst (v := 1) hx hb dX7_add_176 (by decide) ?_
      refine lv_isub hx hb dX7_add_177 ?_
      cases h
      exact m_iret hC hP hS rfl dX7_add_178
    · have h := ite_t u4 h
      refine lv_iconst (v := 0) hx hb dX7_add_156 (by decide) ?_
      cases h
      exact m_iret hC hP hS rfl dX7_add_157
  have L98 : ∀ (n98 : Nat) (H : Heap) (locs : List Loc) (ls : Array Slot) (M : MS) (x6 : Int32) (x7 : Int32), va_P G.1 vwCl (mW G M) H → va_S (mA G sz) s.heap H locs → lv_has ls 8 [(0, .ref (mO G)), (6, .int x6), (7, .int x7)] → f_add_L98 F n98 M x6 x7 = some (M2, r) → W p l e (headSpec vX7_add ({ frames := 8, cells := 0, slots := 0, locals := 179 })).room s m ([.ref (mO G), .int a1, .int a2, .int a3, .int a4] : List Value).toArray below meth c H locs 0 0 (mQI below G M2 sz ([.ref (mO G), .int a1, .int a2, .int a3, .int a4] : List Value).toArray s r) (F0 m 98 ls []) := by
    intro n98
    induction n98 with
    | zero =>
      intro H locs ls M x6 x7 hP hS hl h
      rw [f_add_L98] at h; cases h
    | succ n98 ih98 =>
      have b131 : ∀ (H : Heap) (locs : List Loc) (ls : Array Slot) (M : MS) (x7 : Int32) (s0 : Int32), va_P G.1 vwCl (mW G M) H → va_S (mA G sz) s.heap H locs → lv_has ls 8 [(0, .ref (mO G)), (7, .int x7)] → f_add_b131 F ((f_add_L98 F n98)) M x7 s0 = some (M2, r) → W p l e (headSpec vX7_add ({ frames := 8, cells := 0, slots := 0, locals := 179 })).room s m ([.ref (mO G), .int a1, .int a2, .int a3, .int a4] : List Value).toArray below meth c H locs 0 0 (mQI below G M2 sz ([.ref (mO G), .int a1, .int a2, .int a3, .int a4] : List Value).toArray s r) (F0 m 131 ls [.int s0]) := by
        intro H locs ls M x7 s0 hP hS hl h
        unfold f_add_b131 at h
        refine lv_istore (lv' := [(6, .int s0), (0, .ref (mO G)), (7, .int x7)]) hx hb dX7_add_131 hl (by decide) rfl (fun ls hl => ?_)
        refine lv_iinc (v := x7 + 1) (lv' := [(7, .int (x7 + 1)), (6, .int s0), (0, .ref (mO G))]) hx hb dX7_add_133 hl (k := 2) rfl rfl (by decide) rfl (fun ls hl => ?_)
        refine lv_goto (tgt := 98) hx hb dX7_add_136 (by decide) ?_
        exact ih98 _ _ _ M s0 (x7 + 1) hP hS (lv_sub hl [2, 1, 0] rfl) h
      intro H locs ls M x6 x7 hP hS hl h
      rw [f_add_L98] at h
      refine lv_iload hx hb dX7_add_98 (lv_at hl 2 rfl) ?_
      refine lv_aload_n hx hb dX7_add_100 rfl (lv_at hl 0 rfl) ?_
      refine m_get hC hin hP 0 (by decide) fl_segments rfl (v := .int (M.1 0)) rfl dX7_add_101 ?_
      refine lv_icmp_ge (tgt := 139) hx hb dX7_add_104 (by decide) (fun u1 => ?_) (fun u1 => ?_)
      · have h := ite_t u1 h
        refine lv_aload_n hx hb dX7_add_139 rfl (lv_at hl 0 rfl) ?_
        refine lv_iload hx hb dX7_add_140 (lv_at hl 1 rfl) ?_
        refine lv_if_eq (tgt := 149) hx hb dX7_add_142 (by decide) (fun u2 => ?_) (fun u2 => ?_)
        · have h := ite_t u2 h
          refine lv_iconst (v := 2) hx hb dX7_add_149 (by decide) ?_
          exact b150 _ _ _ M 2 hP hS (lv_sub hl [0] rfl) h
        · have h := ite_f u2 h
          refine lv_iconst (v := 0) hx hb dX7_add_145 (by decide) ?_
          refine lv_goto (tgt := 150) hx hb dX7_add_146 (by decide) ?_
          exact b150 _ _ _ M 0 hP hS (lv_sub hl [0] rfl) h
      · have h := ite_f u1 h
        refine lv_iload hx hb dX7_add_107 (lv_at hl 1 rfl) ?_
        refine lv_if_eq (tgt := 130) hx hb dX7_add_109 (by decide) (fun u3 => ?_) (fun u3 => ?_)
        · have h := ite_t u3 h
          refine lv_iconst (v := 0) hx hb dX7_add_130 (by decide) ?_
          exact b131 _ _ _ M x7 0 hP hS (lv_sub hl [0, 2] rfl) h
        · have h := ite_f u3 h
          refine lv_aload_n hx hb dX7_add_112 rfl (lv_at hl 0 rfl) ?_
          refine lv_aload_n hx hb dX7_add_113 rfl (lv_at hl 0 rfl) ?_
          refine m_get hC hin hP 0 (by decide) fl_segments rfl (v := .int (M.1 0)) rfl dX7_add_114 ?_
          refine lv_iload hx hb dX7_add_117 (lv_at hl 2 rfl) ?_
          obtain ⟨t5, e4, h⟩ := cal_el h
          refine m_VI (As := [.int (M.1 0), .int x7]) (rest := []) hC hP hS (c_common l G F M (M.1 0) x7 t5 e4) (cwV 2 hts (gWM wm_57 wm_58 wm_59 wm_7 wm_27) rfl rfl rfl (by decide +kernel) ⟨Nat.le_of_ble_eq_true rfl, Nat.le_of_ble_eq_true rfl⟩) rfl hl.1 rfl (Nat.le_of_ble_eq_true rfl) dX7_add_119 (fun H locs hP hS => ?_)
          refine lv_iconst (v := 2) hx hb dX7_add_122 (by decide) ?_
          refine lv_icmp_ge (tgt := 130) hx hb dX7_add_123 (by decide) (fun u6 => ?_) (fun u6 => ?_)
          · have h := ite_t u6 h
            refine lv_iconst (v := 0) hx hb dX7_add_130 (by decide) ?_
            exact b131 _ _ _ M x7 0 hP hS (lv_sub hl [0, 2] rfl) h
          · have h := ite_f u6 h
            refine lv_iconst (v := 1) hx hb dX7_add_126 (by decide) ?_
            refine lv_goto (tgt := 131) hx hb dX7_add_127 (by decide) ?_
            exact b131 _ _ _ M x7 1 hP hS (lv_sub hl [0, 2] rfl) h
  have b71 : ∀ (H : Heap) (locs : List Loc) (ls : Array Slot) (M : MS) (x1 : Int32) (x2 : Int32) (x3 : Int32) (x4 : Int32) (s0 : Int32), va_P G.1 vwCl (mW G M) H → va_S (mA G sz) s.heap H locs → lv_has ls 8 [(0, .ref (mO G)), (1, .int x1), (2, .int x2), (3, .int x3), (4, .int x4)] → f_add_b71 F M x1 x2 x3 x4 s0 = some (M2, r) → W p l e (headSpec vX7_add ({ frames := 8, cells := 0, slots := 0, locals := 179 })).room s m ([.ref (mO G), .int a1, .int a2, .int a3, .int a4] : List Value).toArray below meth c H locs 0 0 (mQI below G M2 sz ([.ref (mO G), .int a1, .int a2, .int a3, .int a4] : List Value).toArray s r) (F0 m 71 ls [.int s0, .ref (mO G)]) := by
    intro H locs ls M x1 x2 x3 x4 s0 hP hS hl h
    unfold f_add_b71 at h
    obtain ⟨M2, t3, e1, h⟩ := caM_el h
    refine m_VI (As := [.int s0]) (rest := []) hC hP hS (c_goes l G F M M2 s0 t3 e1) (cwV 1 hts (gWM wm_155 wm_156 wm_157 wm_7 wm_2) rfl rfl rfl (by decide +kernel) ⟨Nat.le_of_ble_eq_true rfl, Nat.le_of_ble_eq_true rfl⟩) rfl hl.1 rfl (Nat.le_of_ble_eq_true rfl) dX7_add_71 (fun H locs hP hS => ?_)
    refine lv_if_ne (tgt := 79) hx hb dX7_add_74 (by decide) (fun u4 => ?_) (fun u4 => ?_)
    · have h := ite_f u4 h
      refine lv_aload_n hx hb dX7_add_79 rfl (lv_at hl 0 rfl) ?_
      refine lv_aload_n hx hb dX7_add_80 rfl (lv_at hl 0 rfl) ?_
      refine m_get hC hin hP 0 (by decide) fl_segments rfl (v := .int (M2.1 0)) rfl dX7_add_81 ?_
      refine lv_iload_n hx hb dX7_add_84 rfl (lv_at hl 1 rfl) ?_
      refine lv_iload_n hx hb dX7_add_85 rfl (lv_at hl 2 rfl) ?_
      refine lv_iload_n hx hb dX7_add_86 rfl (lv_at hl 3 rfl) ?_
      refine lv_iload hx hb dX7_add_87 (lv_at hl 4 rfl) ?_
      obtain ⟨M6, e5, h⟩ := cal_el h
      refine m_VV (As := [.int (M2.1 0), .int x1, .int x2, .int x3, .int x4]) (rest := []) hC hP hS (c_puts l G F M2 M6 (M2.1 0) x1 x2 x3 x4 e5) (cwV 5 hts (gWM wm_158 wm_159 wm_160 wm_7 wm_39) rfl rfl rfl (by decide +kernel) ⟨Nat.le_of_ble_eq_true rfl, Nat.le_of_ble_eq_true rfl⟩) rfl hl.1 rfl (Nat.le_of_ble_eq_true rfl) dX7_add_89 (fun H locs hP hS => ?_)
      refine lv_iconst (v := 1) hx hb dX7_add_92 (by decide) ?_
      refine lv_istore (lv' := [(6, .int 1), (0, .ref (mO G)), (1, .int x1), (2, .int x2), (3, .int x3), (4, .int x4)]) hx hb dX7_add_93 hl (by decide) rfl (fun ls hl => ?_)
      refine lv_iconst (v := 0) hx hb dX7_add_95 (by decide) ?_
      refine lv_istore (lv' := [(7, .int 0), (6, .int 1), (0, .ref (mO G)), (1, .int x1), (2, .int x2), (3, .int x3), (4, .int x4)]) hx hb dX7_add_96 hl (by decide) rfl (fun ls hl => ?_)
      exact L98 F _ _ _ M6 1 0 hP hS (lv_sub hl [2, 1, 0] rfl) h
    · have h := ite_t u4 h
      refine lv_iconst (v := 0) hx hb dX7_add_77 (by decide) ?_
      cases h
      exact m_iret hC hP hS rfl dX7_add_78
  have b45 : ∀ (H : Heap) (locs : List Loc) (ls : Array Slot) (M : MS) (x1 : Int32) (x2 : Int32) (x3 : Int32) (x4 : Int32) (s0 : Int32), va_P G.1 vwCl (mW G M) H → va_S (mA G sz) s.heap H locs → lv_has ls 8 [(0, .ref (mO G)), (1, .int x1), (2, .int x2), (3, .int x3), (4, .int x4)] → f_add_b45 F M x1 x2 x3 x4 s0 = some (M2, r) → W p l e (headSpec vX7_add ({ frames := 8, cells := 0, slots := 0, locals := 179 })).room s m ([.ref (mO G), .int a1, .int a2, .int a3, .int a4] : List Value).toArray below meth c H locs 0 0 (mQI below G M2 sz ([.ref (mO G), .int a1, .int a2, .int a3, .int a4] : List Value).toArray s r) (F0 m 45 ls [.int s0]) := by
    intro H locs ls M x1 x2 x3 x4 s0 hP hS hl h
    unfold f_add_b45 at h
    refine lv_istore (lv' := [(5, .int s0), (0, .ref (mO G)), (1, .int x1), (2, .int x2), (3, .int x3), (4, .int x4)]) hx hb dX7_add_45 hl (by decide) rfl (fun ls hl => ?_)
    refine lv_aload_n hx hb dX7_add_47 rfl (lv_at hl 1 rfl) ?_
    refine lv_iload hx hb dX7_add_48 (lv_at hl 0 rfl) ?_
    refine lv_if_ne (tgt := 57) hx hb dX7_add_50 (by decide) (fun u1 => ?_) (fun u1 => ?_)
    · have h := ite_f u1 h
      refine lv_aload_n hx hb dX7_add_57 rfl (lv_at hl 1 rfl) ?_
      refine m_get hC hin hP 0 (by decide) fl_segments rfl (v := .int (M.1 0)) rfl dX7_add_58 ?_
      refine lv_bipush (v := 12) hx hb dX7_add_61 (by decide) ?_
      refine lv_icmp_ne (tgt := 70) hx hb dX7_add_63 (by decide) (fun u2 => ?_) (fun u2 => ?_)
      · have h := ite_f u2 h
        refine lv_iconst (v := 0) hx hb dX7_add_70 (by decide) ?_
        exact b71 _ _ _ M x1 x2 x3 x4 0 hP hS (lv_sub hl [1, 2, 3, 4, 5] rfl) h
      · have h := ite_t u2 h
        refine lv_iconst (v := 2) hx hb dX7_add_66 (by decide) ?_
        refine lv_goto (tgt := 71) hx hb dX7_add_67 (by decide) ?_
        exact b71 _ _ _ M x1 x2 x3 x4 2 hP hS (lv_sub hl [1, 2, 3, 4, 5] rfl) h
    · have h := ite_t u1 h
      refine lv_iconst (v := 1) hx hb dX7_add_53 (by decide) ?_
      refine lv_goto (tgt := 71) hx hb dX7_add_54 (by decide) ?_
      exact b71 _ _ _ M x1 x2 x3 x4 1 hP hS (lv_sub hl [1, 2, 3, 4, 5] rfl) h
  refine m_entry (Nat.le_of_ble_eq_true rfl) (fun ls hl => ?_)
  have hl : lv_has ls 8 [(0, .ref (mO G)), (1, .int a1), (2, .int a2), (3, .int a3), (4, .int a4)] := hl
  unfold f_add at h
  refine lv_iload_n hx hb dX7_add_0 rfl (lv_at hl 1 rfl) ?_
  obtain ⟨t2, e1, h⟩ := cal_el h
  refine m_SI (As := [.int a1]) (rest := []) hC hP hS (c_isPlace l G F M a1 t2 e1) (va_cwS 1 hts (gWMS wm_153 wm_154 wm_7 wm_4) rfl rfl rfl (by decide +kernel) ⟨Nat.le_of_ble_eq_true rfl, Nat.le_of_ble_eq_true rfl⟩) rfl hl.1 rfl (Nat.le_of_ble_eq_true rfl) dX7_add_1 (fun H locs hP hS => ?_)
  refine lv_if_eq (tgt := 44) hx hb dX7_add_4 (by decide) (fun u3 => ?_) (fun u3 => ?_)
  · have h := ite_t u3 h
    refine lv_iconst (v := 0) hx hb dX7_add_44 (by decide) ?_
    exact b45 _ _ _ M a1 a2 a3 a4 0 hP hS (lv_sub hl [0, 1, 2, 3, 4] rfl) h
  · have h := ite_f u3 h
    refine lv_iload_n hx hb dX7_add_7 rfl (lv_at hl 2 rfl) ?_
    obtain ⟨t5, e4, h⟩ := cal_el h
    refine m_SI (As := [.int a2]) (rest := []) hC hP hS (c_isPlace l G F M a2 t5 e4) (va_cwS 1 hts (gWMS wm_153 wm_154 wm_7 wm_4) rfl rfl rfl (by decide +kernel) ⟨Nat.le_of_ble_eq_true rfl, Nat.le_of_ble_eq_true rfl⟩) rfl hl.1 rfl (Nat.le_of_ble_eq_true rfl) dX7_add_8 (fun H locs hP hS => ?_)
    refine lv_if_eq (tgt := 44) hx hb dX7_add_11 (by decide) (fun u6 => ?_) (fun u6 => ?_)
    · have h := ite_t u6 h
      refine lv_iconst (v := 0) hx hb dX7_add_44 (by decide) ?_
      exact b45 _ _ _ M a1 a2 a3 a4 0 hP hS (lv_sub hl [0, 1, 2, 3, 4] rfl) h
    · have h := ite_f u6 h
      refine lv_iload_n hx hb dX7_add_14 rfl (lv_at hl 3 rfl) ?_
      obtain ⟨t8, e7, h⟩ := cal_el h
      refine m_SI (As := [.int a3]) (rest := []) hC hP hS (c_isPlace l G F M a3 t8 e7) (va_cwS 1 hts (gWMS wm_153 wm_154 wm_7 wm_4) rfl rfl rfl (by decide +kernel) ⟨Nat.le_of_ble_eq_true rfl, Nat.le_of_ble_eq_true rfl⟩) rfl hl.1 rfl (Nat.le_of_ble_eq_true rfl) dX7_add_15 (fun H locs hP hS => ?_)
      refine lv_if_eq (tgt := 44) hx hb dX7_add_18 (by decide) (fun u9 => ?_) (fun u9 => ?_)
      · have h := ite_t u9 h
        refine lv_iconst (v := 0) hx hb dX7_add_44 (by decide) ?_
        exact b45 _ _ _ M a1 a2 a3 a4 0 hP hS (lv_sub hl [0, 1, 2, 3, 4] rfl) h
      · have h := ite_f u9 h
        refine lv_iload hx hb dX7_add_21 (lv_at hl 4 rfl) ?_
        obtain ⟨t11, e10, h⟩ := cal_el h
        refine m_SI (As := [.int a4]) (rest := []) hC hP hS (c_isPlace l G F M a4 t11 e10) (va_cwS 1 hts (gWMS wm_153 wm_154 wm_7 wm_4) rfl rfl rfl (by decide +kernel) ⟨Nat.le_of_ble_eq_true rfl, Nat.le_of_ble_eq_true rfl⟩) rfl hl.1 rfl (Nat.le_of_ble_eq_true rfl) dX7_add_23 (fun H locs hP hS => ?_)
        refine lv_if_eq (tgt := 44) hx hb dX7_add_26 (by decide) (fun u12 => ?_) (fun u12 => ?_)
        · have h := ite_t u12 h
          refine lv_iconst (v := 0) hx hb dX7_add_44 (by decide) ?_
          exact b45 _ _ _ M a1 a2 a3 a4 0 hP hS (lv_sub hl [0, 1, 2, 3, 4] rfl) h
        · have h := ite_f u12 h
          refine lv_iload_n hx hb dX7_add_29 rfl (lv_at hl 1 rfl) ?_
          refine lv_iload_n hx hb dX7_add_30 rfl (lv_at hl 3 rfl) ?_
          refine lv_icmp_ne (tgt := 40) hx hb dX7_add_31 (by decide) (fun u13 => ?_) (fun u13 => ?_)
          · have h := ite_f u13 h
            refine lv_iconst (v := 1) hx hb dX7_add_40 (by decide) ?_
            refine lv_goto (tgt := 45) hx hb dX7_add_41 (by decide) ?_
            exact b45 _ _ _ M a1 a2 a3 a4 1 hP hS (lv_sub hl [0, 1, 2, 3, 4] rfl) h
          · have h := ite_t u13 h
            refine lv_iload_n hx hb dX7_add_34 rfl (lv_at hl 2 rfl) ?_
            refine lv_iload hx hb dX7_add_35 (lv_at hl 4 rfl) ?_
            refine lv_icmp_eq (tgt := 44) hx hb dX7_add_37 (by decide) (fun u14 => ?_) (fun u14 => ?_)
            · have h := ite_t u14 h
              refine lv_iconst (v := 0) hx hb dX7_add_44 (by decide) ?_
              exact b45 _ _ _ M a1 a2 a3 a4 0 hP hS (lv_sub hl [0, 1, 2, 3, 4] rfl) h
            · have h := ite_f u14 h
              refine lv_iconst (v := 1) hx hb dX7_add_40 (by decide) ?_
              refine lv_goto (tgt := 45) hx hb dX7_add_41 (by decide) ?_
              exact b45 _ _ _ M a1 a2 a3 a4 1 hP hS (lv_sub hl [0, 1, 2, 3, 4] rfl) h

theorem dX7_isSegment_0 : decode cX7_isSegment 0 = .ok (.iload_n 1, 1) := by decide +kernel
theorem dX7_isSegment_1 : decode cX7_isSegment 1 = .ok (.iconst 0, 1) := by decide +kernel
theorem dX7_isSegment_2 : decode cX7_isSegment 2 = .ok (.aload_n 0, 1) := by decide +kernel
theorem dX7_isSegment_3 : decode cX7_isSegment 3 = .ok (.getfield 104, 3) := by decide +kernel
theorem dX7_isSegment_6 : decode cX7_isSegment 6 = .ok (.iconst 1, 1) := by decide +kernel
theorem dX7_isSegment_7 : decode cX7_isSegment 7 = .ok (.isub, 1) := by decide +kernel
theorem dX7_isSegment_8 : decode cX7_isSegment 8 = .ok (.invokestatic 70, 3) := by decide +kernel
theorem dX7_isSegment_11 : decode cX7_isSegment 11 = .ok (.ireturn, 1) := by decide +kernel
def f_isSegment (F : Nat) (M : MS) (a1 : Int32) : Option Int32 := cal (f_isIn F M a1 0 ((M.1 0) - 1)) fun t2 => okB t2 (some t2)
set_option maxRecDepth 100000 in
set_option maxHeartbeats 4000000 in
theorem c_isSegment (l : Launch) (G : mG) (F : Nat) (M : MS) (a1 : Int32) (r : Int32) (h : f_isSegment F M a1 = some r) : mMI l yX7_isSegment vX7_isSegment ({ frames := 1, cells := 0, slots := 0, locals := 22 }) G [.ref (mO G), .int a1] M M r := by
  refine mBodyI (cc := cX7_isSegment) (maxL := 2) (ret := (some .boolean)) (by decide) rfl rfl ?_
  intro sz p e s m below meth c hC hP
  have hC0 := hC
  obtain ⟨hx, hb, -, hts, -, -, -, -, -, -⟩ := hC0
  have hS : va_S (mA G sz) s.heap s.heap [] := va_S.rf
  have hin : ∀ w ∈ wsX70, w ∈ vX7_isSegment := fun w h => List.mem_cons_of_mem _ (List.mem_append_right _ h)
  have fl_segments := hts _ (List.mem_cons_of_mem _ wm_53)
  refine m_entry (Nat.le_of_ble_eq_true rfl) (fun ls hl => ?_)
  have hl : lv_has ls 2 [(0, .ref (mO G)), (1, .int a1)] := hl
  unfold f_isSegment at h
  refine lv_iload_n hx hb dX7_isSegment_0 rfl (lv_at hl 1 rfl) ?_
  refine lv_iconst (v := 0) hx hb dX7_isSegment_1 (by decide) ?_
  refine lv_aload_n hx hb dX7_isSegment_2 rfl (lv_at hl 0 rfl) ?_
  refine m_get hC hin hP 0 (by decide) fl_segments rfl (v := .int (M.1 0)) rfl dX7_isSegment_3 ?_
  refine lv_iconst (v := 1) hx hb dX7_isSegment_6 (by decide) ?_
  refine lv_isub hx hb dX7_isSegment_7 ?_
  obtain ⟨t2, e1, h⟩ := cal_el h
  refine m_SI (As := [.int a1, .int 0, .int ((M.1 0) - 1)]) (rest := []) hC hP hS (c_isIn l G F M a1 0 ((M.1 0) - 1) t2 e1) (va_cwS 3 hts (gWMS wm_5 wm_6 wm_7 wm_3) rfl rfl rfl (by decide +kernel) ⟨Nat.le_of_ble_eq_true rfl, Nat.le_of_ble_eq_true rfl⟩) rfl hl.1 rfl (Nat.le_of_ble_eq_true rfl) dX7_isSegment_8 (fun H locs hP hS => ?_)
  obtain ⟨z3, h⟩ := okB_el h
  cases h
  exact m_zret hC hP hS z3 rfl dX7_isSegment_11

theorem dX7_remove_0 : decode cX7_remove 0 = .ok (.aload_n 0, 1) := by decide +kernel
theorem dX7_remove_1 : decode cX7_remove 1 = .ok (.aload_n 0, 1) := by decide +kernel
theorem dX7_remove_2 : decode cX7_remove 2 = .ok (.iload_n 1, 1) := by decide +kernel
theorem dX7_remove_3 : decode cX7_remove 3 = .ok (.invokevirtual 120, 3) := by decide +kernel
theorem dX7_remove_6 : decode cX7_remove 6 = .ok (.ifCond .eq 7, 3) := by decide +kernel
theorem dX7_remove_9 : decode cX7_remove 9 = .ok (.iconst 0, 1) := by decide +kernel
theorem dX7_remove_10 : decode cX7_remove 10 = .ok (.goto 4, 3) := by decide +kernel
theorem dX7_remove_13 : decode cX7_remove 13 = .ok (.iconst 1, 1) := by decide +kernel
theorem dX7_remove_14 : decode cX7_remove 14 = .ok (.invokevirtual 107, 3) := by decide +kernel
theorem dX7_remove_17 : decode cX7_remove 17 = .ok (.ifCond .ne 5, 3) := by decide +kernel
theorem dX7_remove_20 : decode cX7_remove 20 = .ok (.iconst 0, 1) := by decide +kernel
theorem dX7_remove_21 : decode cX7_remove 21 = .ok (.ireturn, 1) := by decide +kernel
theorem dX7_remove_22 : decode cX7_remove 22 = .ok (.aload_n 0, 1) := by decide +kernel
theorem dX7_remove_23 : decode cX7_remove 23 = .ok (.dup, 1) := by decide +kernel
theorem dX7_remove_24 : decode cX7_remove 24 = .ok (.getfield 104, 3) := by decide +kernel
theorem dX7_remove_27 : decode cX7_remove 27 = .ok (.iconst 1, 1) := by decide +kernel
theorem dX7_remove_28 : decode cX7_remove 28 = .ok (.isub, 1) := by decide +kernel
theorem dX7_remove_29 : decode cX7_remove 29 = .ok (.putfield 104, 3) := by decide +kernel
theorem dX7_remove_32 : decode cX7_remove 32 = .ok (.iload_n 1, 1) := by decide +kernel
theorem dX7_remove_33 : decode cX7_remove 33 = .ok (.istore_n 2, 1) := by decide +kernel
theorem dX7_remove_34 : decode cX7_remove 34 = .ok (.iload_n 2, 1) := by decide +kernel
theorem dX7_remove_35 : decode cX7_remove 35 = .ok (.aload_n 0, 1) := by decide +kernel
theorem dX7_remove_36 : decode cX7_remove 36 = .ok (.getfield 104, 3) := by decide +kernel
theorem dX7_remove_39 : decode cX7_remove 39 = .ok (.if_icmp .ge 46, 3) := by decide +kernel
theorem dX7_remove_42 : decode cX7_remove 42 = .ok (.aload_n 0, 1) := by decide +kernel
theorem dX7_remove_43 : decode cX7_remove 43 = .ok (.iload_n 2, 1) := by decide +kernel
theorem dX7_remove_44 : decode cX7_remove 44 = .ok (.aload_n 0, 1) := by decide +kernel
theorem dX7_remove_45 : decode cX7_remove 45 = .ok (.getfield 7, 3) := by decide +kernel
theorem dX7_remove_48 : decode cX7_remove 48 = .ok (.iload_n 2, 1) := by decide +kernel
theorem dX7_remove_49 : decode cX7_remove 49 = .ok (.iconst 1, 1) := by decide +kernel
theorem dX7_remove_50 : decode cX7_remove 50 = .ok (.iadd, 1) := by decide +kernel
theorem dX7_remove_51 : decode cX7_remove 51 = .ok (.iaload, 1) := by decide +kernel
theorem dX7_remove_52 : decode cX7_remove 52 = .ok (.aload_n 0, 1) := by decide +kernel
theorem dX7_remove_53 : decode cX7_remove 53 = .ok (.getfield 13, 3) := by decide +kernel
theorem dX7_remove_56 : decode cX7_remove 56 = .ok (.iload_n 2, 1) := by decide +kernel
theorem dX7_remove_57 : decode cX7_remove 57 = .ok (.iconst 1, 1) := by decide +kernel
theorem dX7_remove_58 : decode cX7_remove 58 = .ok (.iadd, 1) := by decide +kernel
theorem dX7_remove_59 : decode cX7_remove 59 = .ok (.iaload, 1) := by decide +kernel
theorem dX7_remove_60 : decode cX7_remove 60 = .ok (.aload_n 0, 1) := by decide +kernel
theorem dX7_remove_61 : decode cX7_remove 61 = .ok (.getfield 16, 3) := by decide +kernel
theorem dX7_remove_64 : decode cX7_remove 64 = .ok (.iload_n 2, 1) := by decide +kernel
theorem dX7_remove_65 : decode cX7_remove 65 = .ok (.iconst 1, 1) := by decide +kernel
theorem dX7_remove_66 : decode cX7_remove 66 = .ok (.iadd, 1) := by decide +kernel
theorem dX7_remove_67 : decode cX7_remove 67 = .ok (.iaload, 1) := by decide +kernel
theorem dX7_remove_68 : decode cX7_remove 68 = .ok (.aload_n 0, 1) := by decide +kernel
theorem dX7_remove_69 : decode cX7_remove 69 = .ok (.getfield 19, 3) := by decide +kernel
theorem dX7_remove_72 : decode cX7_remove 72 = .ok (.iload_n 2, 1) := by decide +kernel
theorem dX7_remove_73 : decode cX7_remove 73 = .ok (.iconst 1, 1) := by decide +kernel
theorem dX7_remove_74 : decode cX7_remove 74 = .ok (.iadd, 1) := by decide +kernel
theorem dX7_remove_75 : decode cX7_remove 75 = .ok (.iaload, 1) := by decide +kernel
theorem dX7_remove_76 : decode cX7_remove 76 = .ok (.invokevirtual 110, 3) := by decide +kernel
theorem dX7_remove_79 : decode cX7_remove 79 = .ok (.iinc 2 1, 3) := by decide +kernel
theorem dX7_remove_82 : decode cX7_remove 82 = .ok (.goto (-48), 3) := by decide +kernel
theorem dX7_remove_85 : decode cX7_remove 85 = .ok (.aload_n 0, 1) := by decide +kernel
theorem dX7_remove_86 : decode cX7_remove 86 = .ok (.invokevirtual 117, 3) := by decide +kernel
theorem dX7_remove_89 : decode cX7_remove 89 = .ok (.aload_n 0, 1) := by decide +kernel
theorem dX7_remove_90 : decode cX7_remove 90 = .ok (.getfield 104, 3) := by decide +kernel
theorem dX7_remove_93 : decode cX7_remove 93 = .ok (.ireturn, 1) := by decide +kernel
def f_remove_L34 (F : Nat) : Nat → MS → Int32 → Option (MS × Int32)
  | 0, _, _ => none
  | n34 + 1, M, x2 => (if (M.1 0) ≤ x2 then cal (f_lays F M) fun M3 => some (M3, M3.1 0) else rdI 13 (M.2.1 1) (x2 + 1) fun t4 => rdI 13 (M.2.1 2) (x2 + 1) fun t7 => rdI 13 (M.2.1 3) (x2 + 1) fun t10 => rdI 13 (M.2.1 4) (x2 + 1) fun t13 => cal (f_puts F M x2 t4 t7 t10 t13) fun M17 => (f_remove_L34 F n34) M17 (x2 + 1))
def f_remove_b14 (F : Nat) (M : MS) (x1 : Int32) (s0 : Int32) : Option (MS × Int32) := caM (f_goes F M s0) fun M2 t3 => (if t3 = 0 then some (M2, 0) else wrF M2 0 ((M2.1 0) - 1) fun M5 => f_remove_L34 F F M5 x1)
def f_remove (F : Nat) (M : MS) (a1 : Int32) : Option (MS × Int32) := cal (f_isSegment F M a1) fun t2 => (if t2 = 0 then f_remove_b14 F M a1 1 else f_remove_b14 F M a1 0)
set_option maxRecDepth 100000 in
set_option maxHeartbeats 4000000 in
theorem c_remove (l : Launch) (G : mG) (F : Nat) (M M2 : MS) (a1 : Int32) (r : Int32) (h : f_remove F M a1 = some (M2, r)) : mMI l yX7_remove vX7_remove ({ frames := 8, cells := 0, slots := 0, locals := 179 }) G [.ref (mO G), .int a1] M M2 r := by
  refine mBodyI (cc := cX7_remove) (maxL := 3) (ret := (some .int)) (by decide) rfl rfl ?_
  intro sz p e s m below meth c hC hP
  have hC0 := hC
  obtain ⟨hx, hb, -, hts, -, -, -, -, -, -⟩ := hC0
  have hS : va_S (mA G sz) s.heap s.heap [] := va_S.rf
  have hin : ∀ w ∈ wsX70, w ∈ vX7_remove := fun w h => List.mem_cons_of_mem _ (List.mem_append_right _ h)
  have fl_segments := hts _ (List.mem_cons_of_mem _ wm_53)
  have fl_x1 := hts _ (List.mem_cons_of_mem _ wm_10)
  have fl_y1 := hts _ (List.mem_cons_of_mem _ wm_13)
  have fl_x2 := hts _ (List.mem_cons_of_mem _ wm_9)
  have fl_y2 := hts _ (List.mem_cons_of_mem _ wm_12)
  have L34 : ∀ (n34 : Nat) (H : Heap) (locs : List Loc) (ls : Array Slot) (M : MS) (x2 : Int32), va_P G.1 vwCl (mW G M) H → va_S (mA G sz) s.heap H locs → lv_has ls 3 [(0, .ref (mO G)), (2, .int x2)] → f_remove_L34 F n34 M x2 = some (M2, r) → W p l e (headSpec vX7_remove ({ frames := 8, cells := 0, slots := 0, locals := 179 })).room s m ([.ref (mO G), .int a1] : List Value).toArray below meth c H locs 0 0 (mQI below G M2 sz ([.ref (mO G), .int a1] : List Value).toArray s r) (F0 m 34 ls []) := by
    intro n34
    induction n34 with
    | zero =>
      intro H locs ls M x2 hP hS hl h
      rw [f_remove_L34] at h; cases h
    | succ n34 ih34 =>
      intro H locs ls M x2 hP hS hl h
      rw [f_remove_L34] at h
      refine lv_iload_n hx hb dX7_remove_34 rfl (lv_at hl 1 rfl) ?_
      refine lv_aload_n hx hb dX7_remove_35 rfl (lv_at hl 0 rfl) ?_
      refine m_get hC hin hP 0 (by decide) fl_segments rfl (v := .int (M.1 0)) rfl dX7_remove_36 ?_
      refine lv_icmp_ge (tgt := 85) hx hb dX7_remove_39 (by decide) (fun u1 => ?_) (fun u1 => ?_)
      · have h := ite_t u1 h
        refine lv_aload_n hx hb dX7_remove_85 rfl (lv_at hl 0 rfl) ?_
        obtain ⟨M3, e2, h⟩ := cal_el h
        refine m_VV (As := []) (rest := []) hC hP hS (c_lays l G F M M3 e2) (cwV 0 hts (gWM wm_161 wm_162 wm_163 wm_7 wm_136) rfl rfl rfl (by decide +kernel) ⟨Nat.le_of_ble_eq_true rfl, Nat.le_of_ble_eq_true rfl⟩) rfl hl.1 rfl (Nat.le_of_ble_eq_true rfl) dX7_remove_86 (fun H locs hP hS => ?_)
        refine lv_aload_n hx hb dX7_remove_89 rfl (lv_at hl 0 rfl) ?_
        refine m_get hC hin hP 0 (by decide) fl_segments rfl (v := .int (M3.1 0)) rfl dX7_remove_90 ?_
        cases h
        exact m_iret hC hP hS rfl dX7_remove_93
      · have h := ite_f u1 h
        refine lv_aload_n hx hb dX7_remove_42 rfl (lv_at hl 0 rfl) ?_
        refine lv_iload_n hx hb dX7_remove_43 rfl (lv_at hl 1 rfl) ?_
        refine lv_aload_n hx hb dX7_remove_44 rfl (lv_at hl 0 rfl) ?_
        refine m_get hC hin hP 1 (by decide) fl_x1 rfl (v := .ref (mAd G 1)) rfl dX7_remove_45 ?_
        refine lv_iload_n hx hb dX7_remove_48 rfl (lv_at hl 1 rfl) ?_
        refine lv_iconst (v := 1) hx hb dX7_remove_49 (by decide) ?_
        refine lv_iadd hx hb dX7_remove_50 ?_
        obtain ⟨z5, t4, e6, h⟩ := rdI_el h
        refine m_ild hC hP 1 (N := 13) rfl z5 e6 dX7_remove_51 ?_
        refine lv_aload_n hx hb dX7_remove_52 rfl (lv_at hl 0 rfl) ?_
        refine m_get hC hin hP 2 (by decide) fl_y1 rfl (v := .ref (mAd G 2)) rfl dX7_remove_53 ?_
        refine lv_iload_n hx hb dX7_remove_56 rfl (lv_at hl 1 rfl) ?_
        refine lv_iconst (v := 1) hx hb dX7_remove_57 (by decide) ?_
        refine lv_iadd hx hb dX7_remove_58 ?_
        obtain ⟨z8, t7, e9, h⟩ := rdI_el h
        refine m_ild hC hP 2 (N := 13) rfl z8 e9 dX7_remove_59 ?_
        refine lv_aload_n hx hb dX7_remove_60 rfl (lv_at hl 0 rfl) ?_
        refine m_get hC hin hP 3 (by decide) fl_x2 rfl (v := .ref (mAd G 3)) rfl dX7_remove_61 ?_
        refine lv_iload_n hx hb dX7_remove_64 rfl (lv_at hl 1 rfl) ?_
        refine lv_iconst (v := 1) hx hb dX7_remove_65 (by decide) ?_
        refine lv_iadd hx hb dX7_remove_66 ?_
        obtain ⟨z11, t10, e12, h⟩ := rdI_el h
        refine m_ild hC hP 3 (N := 13) rfl z11 e12 dX7_remove_67 ?_
        refine lv_aload_n hx hb dX7_remove_68 rfl (lv_at hl 0 rfl) ?_
        refine m_get hC hin hP 4 (by decide) fl_y2 rfl (v := .ref (mAd G 4)) rfl dX7_remove_69 ?_
        refine lv_iload_n hx hb dX7_remove_72 rfl (lv_at hl 1 rfl) ?_
        refine lv_iconst (v := 1) hx hb dX7_remove_73 (by decide) ?_
        refine lv_iadd hx hb dX7_remove_74 ?_
        obtain ⟨z14, t13, e15, h⟩ := rdI_el h
        refine m_ild hC hP 4 (N := 13) rfl z14 e15 dX7_remove_75 ?_
        obtain ⟨M17, e16, h⟩ := cal_el h
        refine m_VV (As := [.int x2, .int t4, .int t7, .int t10, .int t13]) (rest := []) hC hP hS (c_puts l G F M M17 x2 t4 t7 t10 t13 e16) (cwV 5 hts (gWM wm_158 wm_159 wm_160 wm_7 wm_39) rfl rfl rfl (by decide +kernel) ⟨Nat.le_of_ble_eq_true rfl, Nat.le_of_ble_eq_true rfl⟩) rfl hl.1 rfl (Nat.le_of_ble_eq_true rfl) dX7_remove_76 (fun H locs hP hS => ?_)
        refine lv_iinc (v := x2 + 1) (lv' := [(2, .int (x2 + 1)), (0, .ref (mO G))]) hx hb dX7_remove_79 hl (k := 1) rfl rfl (by decide) rfl (fun ls hl => ?_)
        refine lv_goto (tgt := 34) hx hb dX7_remove_82 (by decide) ?_
        exact ih34 _ _ _ M17 (x2 + 1) hP hS (lv_sub hl [1, 0] rfl) h
  have b14 : ∀ (H : Heap) (locs : List Loc) (ls : Array Slot) (M : MS) (x1 : Int32) (s0 : Int32), va_P G.1 vwCl (mW G M) H → va_S (mA G sz) s.heap H locs → lv_has ls 3 [(0, .ref (mO G)), (1, .int x1)] → f_remove_b14 F M x1 s0 = some (M2, r) → W p l e (headSpec vX7_remove ({ frames := 8, cells := 0, slots := 0, locals := 179 })).room s m ([.ref (mO G), .int a1] : List Value).toArray below meth c H locs 0 0 (mQI below G M2 sz ([.ref (mO G), .int a1] : List Value).toArray s r) (F0 m 14 ls [.int s0, .ref (mO G)]) := by
    intro H locs ls M x1 s0 hP hS hl h
    unfold f_remove_b14 at h
    obtain ⟨M2, t3, e1, h⟩ := caM_el h
    refine m_VI (As := [.int s0]) (rest := []) hC hP hS (c_goes l G F M M2 s0 t3 e1) (cwV 1 hts (gWM wm_155 wm_156 wm_157 wm_7 wm_2) rfl rfl rfl (by decide +kernel) ⟨Nat.le_of_ble_eq_true rfl, Nat.le_of_ble_eq_true rfl⟩) rfl hl.1 rfl (Nat.le_of_ble_eq_true rfl) dX7_remove_14 (fun H locs hP hS => ?_)
    refine lv_if_ne (tgt := 22) hx hb dX7_remove_17 (by decide) (fun u4 => ?_) (fun u4 => ?_)
    · have h := ite_f u4 h
      refine lv_aload_n hx hb dX7_remove_22 rfl (lv_at hl 0 rfl) ?_
      refine lv_dup hx hb dX7_remove_23 rfl ?_
      refine m_get hC hin hP 0 (by decide) fl_segments rfl (v := .int (M2.1 0)) rfl dX7_remove_24 ?_
      refine lv_iconst (v := 1) hx hb dX7_remove_27 (by decide) ?_
      refine lv_isub hx hb dX7_remove_28 ?_
      obtain ⟨M5, e6, h⟩ := wrF_el h
      refine m_put hC hin hP hS 0 (by decide) fl_segments rfl rfl (by decide +kernel) (mset_0 G _ _) e6 dX7_remove_29 (fun H locs hP hS => ?_)
      refine lv_iload_n hx hb dX7_remove_32 rfl (lv_at hl 1 rfl) ?_
      refine lv_istore_n (lv' := [(2, .int x1), (0, .ref (mO G)), (1, .int x1)]) hx hb dX7_remove_33 rfl hl (by decide) rfl (fun ls hl => ?_)
      exact L34 F _ _ _ M5 x1 hP hS (lv_sub hl [1, 0] rfl) h
    · have h := ite_t u4 h
      refine lv_iconst (v := 0) hx hb dX7_remove_20 (by decide) ?_
      cases h
      exact m_iret hC hP hS rfl dX7_remove_21
  refine m_entry (Nat.le_of_ble_eq_true rfl) (fun ls hl => ?_)
  have hl : lv_has ls 3 [(0, .ref (mO G)), (1, .int a1)] := hl
  unfold f_remove at h
  refine lv_aload_n hx hb dX7_remove_0 rfl (lv_at hl 0 rfl) ?_
  refine lv_aload_n hx hb dX7_remove_1 rfl (lv_at hl 0 rfl) ?_
  refine lv_iload_n hx hb dX7_remove_2 rfl (lv_at hl 1 rfl) ?_
  obtain ⟨t2, e1, h⟩ := cal_el h
  refine m_VI (As := [.int a1]) (rest := [.ref (mO G)]) hC hP hS (c_isSegment l G F M a1 t2 e1) (cwV 1 hts (gWM wm_166 wm_167 wm_168 wm_7 wm_164) rfl rfl rfl (by decide +kernel) ⟨Nat.le_of_ble_eq_true rfl, Nat.le_of_ble_eq_true rfl⟩) rfl hl.1 rfl (Nat.le_of_ble_eq_true rfl) dX7_remove_3 (fun H locs hP hS => ?_)
  refine lv_if_eq (tgt := 13) hx hb dX7_remove_6 (by decide) (fun u3 => ?_) (fun u3 => ?_)
  · have h := ite_t u3 h
    refine lv_iconst (v := 1) hx hb dX7_remove_13 (by decide) ?_
    exact b14 _ _ _ M a1 1 hP hS (lv_sub hl [0, 1] rfl) h
  · have h := ite_f u3 h
    refine lv_iconst (v := 0) hx hb dX7_remove_9 (by decide) ?_
    refine lv_goto (tgt := 14) hx hb dX7_remove_10 (by decide) ?_
    exact b14 _ _ _ M a1 0 hP hS (lv_sub hl [0, 1] rfl) h

theorem dX7_segments_0 : decode cX7_segments 0 = .ok (.aload_n 0, 1) := by decide +kernel
theorem dX7_segments_1 : decode cX7_segments 1 = .ok (.iconst 0, 1) := by decide +kernel
theorem dX7_segments_2 : decode cX7_segments 2 = .ok (.putfield 67, 3) := by decide +kernel
theorem dX7_segments_5 : decode cX7_segments 5 = .ok (.aload_n 0, 1) := by decide +kernel
theorem dX7_segments_6 : decode cX7_segments 6 = .ok (.getfield 104, 3) := by decide +kernel
theorem dX7_segments_9 : decode cX7_segments 9 = .ok (.ireturn, 1) := by decide +kernel
def f_segments (F : Nat) (M : MS) : Option (MS × Int32) := wrF M 23 0 fun M1 => some (M1, M1.1 0)
set_option maxRecDepth 100000 in
set_option maxHeartbeats 4000000 in
theorem c_segments (l : Launch) (G : mG) (F : Nat) (M M2 : MS) (r : Int32) (h : f_segments F M = some (M2, r)) : mMI l yX7_segments vX7_segments ({ frames := 0, cells := 0, slots := 0, locals := 0 }) G [.ref (mO G)] M M2 r := by
  refine mBodyI (cc := cX7_segments) (maxL := 1) (ret := (some .int)) (by decide) rfl rfl ?_
  intro sz p e s m below meth c hC hP
  have hC0 := hC
  obtain ⟨hx, hb, -, hts, -, -, -, -, -, -⟩ := hC0
  have hS : va_S (mA G sz) s.heap s.heap [] := va_S.rf
  have hin : ∀ w ∈ wsX70, w ∈ vX7_segments := fun w h => List.mem_cons_of_mem _ (List.mem_append_right _ h)
  have fl_thrown := hts _ (List.mem_cons_of_mem _ wm_1)
  have fl_segments := hts _ (List.mem_cons_of_mem _ wm_53)
  refine m_entry (Nat.le_of_ble_eq_true rfl) (fun ls hl => ?_)
  have hl : lv_has ls 1 [(0, .ref (mO G))] := hl
  unfold f_segments at h
  refine lv_aload_n hx hb dX7_segments_0 rfl (lv_at hl 0 rfl) ?_
  refine lv_iconst (v := 0) hx hb dX7_segments_1 (by decide) ?_
  obtain ⟨M1, e2, h⟩ := wrF_el h
  refine m_put hC hin hP hS 23 (by decide) fl_thrown rfl rfl (by decide +kernel) (mset_23 G _ _) e2 dX7_segments_2 (fun H locs hP hS => ?_)
  refine lv_aload_n hx hb dX7_segments_5 rfl (lv_at hl 0 rfl) ?_
  refine m_get hC hin hP 0 (by decide) fl_segments rfl (v := .int (M1.1 0)) rfl dX7_segments_6 ?_
  cases h
  exact m_iret hC hP hS rfl dX7_segments_9

theorem dX7_meet_0 : decode cX7_meet 0 = .ok (.aload_n 0, 1) := by decide +kernel
theorem dX7_meet_1 : decode cX7_meet 1 = .ok (.aload_n 0, 1) := by decide +kernel
theorem dX7_meet_2 : decode cX7_meet 2 = .ok (.iload_n 1, 1) := by decide +kernel
theorem dX7_meet_3 : decode cX7_meet 3 = .ok (.invokevirtual 120, 3) := by decide +kernel
theorem dX7_meet_6 : decode cX7_meet 6 = .ok (.ifCond .eq 15, 3) := by decide +kernel
theorem dX7_meet_9 : decode cX7_meet 9 = .ok (.aload_n 0, 1) := by decide +kernel
theorem dX7_meet_10 : decode cX7_meet 10 = .ok (.iload_n 2, 1) := by decide +kernel
theorem dX7_meet_11 : decode cX7_meet 11 = .ok (.invokevirtual 120, 3) := by decide +kernel
theorem dX7_meet_14 : decode cX7_meet 14 = .ok (.ifCond .eq 7, 3) := by decide +kernel
theorem dX7_meet_17 : decode cX7_meet 17 = .ok (.iconst 0, 1) := by decide +kernel
theorem dX7_meet_18 : decode cX7_meet 18 = .ok (.goto 4, 3) := by decide +kernel
theorem dX7_meet_21 : decode cX7_meet 21 = .ok (.iconst 1, 1) := by decide +kernel
theorem dX7_meet_22 : decode cX7_meet 22 = .ok (.invokevirtual 107, 3) := by decide +kernel
theorem dX7_meet_25 : decode cX7_meet 25 = .ok (.ifCond .eq 21, 3) := by decide +kernel
theorem dX7_meet_28 : decode cX7_meet 28 = .ok (.iload_n 1, 1) := by decide +kernel
theorem dX7_meet_29 : decode cX7_meet 29 = .ok (.iload_n 2, 1) := by decide +kernel
theorem dX7_meet_30 : decode cX7_meet 30 = .ok (.if_icmp .eq 12, 3) := by decide +kernel
theorem dX7_meet_33 : decode cX7_meet 33 = .ok (.aload_n 0, 1) := by decide +kernel
theorem dX7_meet_34 : decode cX7_meet 34 = .ok (.iload_n 1, 1) := by decide +kernel
theorem dX7_meet_35 : decode cX7_meet 35 = .ok (.iload_n 2, 1) := by decide +kernel
theorem dX7_meet_36 : decode cX7_meet 36 = .ok (.invokevirtual 114, 3) := by decide +kernel
theorem dX7_meet_39 : decode cX7_meet 39 = .ok (.ifCond .le 7, 3) := by decide +kernel
theorem dX7_meet_42 : decode cX7_meet 42 = .ok (.iconst 1, 1) := by decide +kernel
theorem dX7_meet_43 : decode cX7_meet 43 = .ok (.goto 4, 3) := by decide +kernel
theorem dX7_meet_46 : decode cX7_meet 46 = .ok (.iconst 0, 1) := by decide +kernel
theorem dX7_meet_47 : decode cX7_meet 47 = .ok (.ireturn, 1) := by decide +kernel
def f_meet_b22 (F : Nat) (M : MS) (x1 : Int32) (x2 : Int32) (s0 : Int32) : Option (MS × Int32) := caM (f_goes F M s0) fun M2 t3 => (if t3 = 0 then okB 0 (some (M2, 0)) else (if x1 = x2 then okB 1 (some (M2, 1)) else cal (f_common F M2 x1 x2) fun t9 => (if t9 ≤ 0 then okB 0 (some (M2, 0)) else okB 1 (some (M2, 1)))))
def f_meet (F : Nat) (M : MS) (a1 : Int32) (a2 : Int32) : Option (MS × Int32) := cal (f_isSegment F M a1) fun t2 => (if t2 = 0 then f_meet_b22 F M a1 a2 1 else cal (f_isSegment F M a2) fun t5 => (if t5 = 0 then f_meet_b22 F M a1 a2 1 else f_meet_b22 F M a1 a2 0))
set_option maxRecDepth 100000 in
set_option maxHeartbeats 4000000 in
theorem c_meet (l : Launch) (G : mG) (F : Nat) (M M2 : MS) (a1 : Int32) (a2 : Int32) (r : Int32) (h : f_meet F M a1 a2 = some (M2, r)) : mMI l yX7_meet vX7_meet ({ frames := 3, cells := 0, slots := 0, locals := 74 }) G [.ref (mO G), .int a1, .int a2] M M2 r := by
  refine mBodyI (cc := cX7_meet) (maxL := 3) (ret := (some .boolean)) (by decide) rfl rfl ?_
  intro sz p e s m below meth c hC hP
  have hC0 := hC
  obtain ⟨hx, hb, -, hts, -, -, -, -, -, -⟩ := hC0
  have hS : va_S (mA G sz) s.heap s.heap [] := va_S.rf
  have b22 : ∀ (H : Heap) (locs : List Loc) (ls : Array Slot) (M : MS) (x1 : Int32) (x2 : Int32) (s0 : Int32), va_P G.1 vwCl (mW G M) H → va_S (mA G sz) s.heap H locs → lv_has ls 3 [(0, .ref (mO G)), (1, .int x1), (2, .int x2)] → f_meet_b22 F M x1 x2 s0 = some (M2, r) → W p l e (headSpec vX7_meet ({ frames := 3, cells := 0, slots := 0, locals := 74 })).room s m ([.ref (mO G), .int a1, .int a2] : List Value).toArray below meth c H locs 0 0 (mQI below G M2 sz ([.ref (mO G), .int a1, .int a2] : List Value).toArray s r) (F0 m 22 ls [.int s0, .ref (mO G)]) := by
    intro H locs ls M x1 x2 s0 hP hS hl h
    unfold f_meet_b22 at h
    obtain ⟨M2, t3, e1, h⟩ := caM_el h
    refine m_VI (As := [.int s0]) (rest := []) hC hP hS (c_goes l G F M M2 s0 t3 e1) (cwV 1 hts (gWM wm_155 wm_156 wm_157 wm_7 wm_2) rfl rfl rfl (by decide +kernel) ⟨Nat.le_of_ble_eq_true rfl, Nat.le_of_ble_eq_true rfl⟩) rfl hl.1 rfl (Nat.le_of_ble_eq_true rfl) dX7_meet_22 (fun H locs hP hS => ?_)
    refine lv_if_eq (tgt := 46) hx hb dX7_meet_25 (by decide) (fun u4 => ?_) (fun u4 => ?_)
    · have h := ite_t u4 h
      refine lv_iconst (v := 0) hx hb dX7_meet_46 (by decide) ?_
      obtain ⟨z5, h⟩ := okB_el h
      cases h
      exact m_zret hC hP hS z5 rfl dX7_meet_47
    · have h := ite_f u4 h
      refine lv_iload_n hx hb dX7_meet_28 rfl (lv_at hl 1 rfl) ?_
      refine lv_iload_n hx hb dX7_meet_29 rfl (lv_at hl 2 rfl) ?_
      refine lv_icmp_eq (tgt := 42) hx hb dX7_meet_30 (by decide) (fun u6 => ?_) (fun u6 => ?_)
      · have h := ite_t u6 h
        refine lv_iconst (v := 1) hx hb dX7_meet_42 (by decide) ?_
        refine lv_goto (tgt := 47) hx hb dX7_meet_43 (by decide) ?_
        obtain ⟨z7, h⟩ := okB_el h
        cases h
        exact m_zret hC hP hS z7 rfl dX7_meet_47
      · have h := ite_f u6 h
        refine lv_aload_n hx hb dX7_meet_33 rfl (lv_at hl 0 rfl) ?_
        refine lv_iload_n hx hb dX7_meet_34 rfl (lv_at hl 1 rfl) ?_
        refine lv_iload_n hx hb dX7_meet_35 rfl (lv_at hl 2 rfl) ?_
        obtain ⟨t9, e8, h⟩ := cal_el h
        refine m_VI (As := [.int x1, .int x2]) (rest := []) hC hP hS (c_common l G F M2 x1 x2 t9 e8) (cwV 2 hts (gWM wm_57 wm_58 wm_59 wm_7 wm_27) rfl rfl rfl (by decide +kernel) ⟨Nat.le_of_ble_eq_true rfl, Nat.le_of_ble_eq_true rfl⟩) rfl hl.1 rfl (Nat.le_of_ble_eq_true rfl) dX7_meet_36 (fun H locs hP hS => ?_)
        refine lv_if_le (tgt := 46) hx hb dX7_meet_39 (by decide) (fun u10 => ?_) (fun u10 => ?_)
        · have h := ite_t u10 h
          refine lv_iconst (v := 0) hx hb dX7_meet_46 (by decide) ?_
          obtain ⟨z11, h⟩ := okB_el h
          cases h
          exact m_zret hC hP hS z11 rfl dX7_meet_47
        · have h := ite_f u10 h
          refine lv_iconst (v := 1) hx hb dX7_meet_42 (by decide) ?_
          refine lv_goto (tgt := 47) hx hb dX7_meet_43 (by decide) ?_
          obtain ⟨z12, h⟩ := okB_el h
          cases h
          exact m_zret hC hP hS z12 rfl dX7_meet_47
  refine m_entry (Nat.le_of_ble_eq_true rfl) (fun ls hl => ?_)
  have hl : lv_has ls 3 [(0, .ref (mO G)), (1, .int a1), (2, .int a2)] := hl
  unfold f_meet at h
  refine lv_aload_n hx hb dX7_meet_0 rfl (lv_at hl 0 rfl) ?_
  refine lv_aload_n hx hb dX7_meet_1 rfl (lv_at hl 0 rfl) ?_
  refine lv_iload_n hx hb dX7_meet_2 rfl (lv_at hl 1 rfl) ?_
  obtain ⟨t2, e1, h⟩ := cal_el h
  refine m_VI (As := [.int a1]) (rest := [.ref (mO G)]) hC hP hS (c_isSegment l G F M a1 t2 e1) (cwV 1 hts (gWM wm_166 wm_167 wm_168 wm_7 wm_164) rfl rfl rfl (by decide +kernel) ⟨Nat.le_of_ble_eq_true rfl, Nat.le_of_ble_eq_true rfl⟩) rfl hl.1 rfl (Nat.le_of_ble_eq_true rfl) dX7_meet_3 (fun H locs hP hS => ?_)
  refine lv_if_eq (tgt := 21) hx hb dX7_meet_6 (by decide) (fun u3 => ?_) (fun u3 => ?_)
  · have h := ite_t u3 h
    refine lv_iconst (v := 1) hx hb dX7_meet_21 (by decide) ?_
    exact b22 _ _ _ M a1 a2 1 hP hS (lv_sub hl [0, 1, 2] rfl) h
  · have h := ite_f u3 h
    refine lv_aload_n hx hb dX7_meet_9 rfl (lv_at hl 0 rfl) ?_
    refine lv_iload_n hx hb dX7_meet_10 rfl (lv_at hl 2 rfl) ?_
    obtain ⟨t5, e4, h⟩ := cal_el h
    refine m_VI (As := [.int a2]) (rest := [.ref (mO G)]) hC hP hS (c_isSegment l G F M a2 t5 e4) (cwV 1 hts (gWM wm_166 wm_167 wm_168 wm_7 wm_164) rfl rfl rfl (by decide +kernel) ⟨Nat.le_of_ble_eq_true rfl, Nat.le_of_ble_eq_true rfl⟩) rfl hl.1 rfl (Nat.le_of_ble_eq_true rfl) dX7_meet_11 (fun H locs hP hS => ?_)
    refine lv_if_eq (tgt := 21) hx hb dX7_meet_14 (by decide) (fun u6 => ?_) (fun u6 => ?_)
    · have h := ite_t u6 h
      refine lv_iconst (v := 1) hx hb dX7_meet_21 (by decide) ?_
      exact b22 _ _ _ M a1 a2 1 hP hS (lv_sub hl [0, 1, 2] rfl) h
    · have h := ite_f u6 h
      refine lv_iconst (v := 0) hx hb dX7_meet_17 (by decide) ?_
      refine lv_goto (tgt := 22) hx hb dX7_meet_18 (by decide) ?_
      exact b22 _ _ _ M a1 a2 0 hP hS (lv_sub hl [0, 1, 2] rfl) h

theorem dX7_vertices_0 : decode cX7_vertices 0 = .ok (.aload_n 0, 1) := by decide +kernel
theorem dX7_vertices_1 : decode cX7_vertices 1 = .ok (.iconst 0, 1) := by decide +kernel
theorem dX7_vertices_2 : decode cX7_vertices 2 = .ok (.putfield 67, 3) := by decide +kernel
theorem dX7_vertices_5 : decode cX7_vertices 5 = .ok (.aload_n 0, 1) := by decide +kernel
theorem dX7_vertices_6 : decode cX7_vertices 6 = .ok (.getfield 123, 3) := by decide +kernel
theorem dX7_vertices_9 : decode cX7_vertices 9 = .ok (.ireturn, 1) := by decide +kernel
def f_vertices (F : Nat) (M : MS) : Option (MS × Int32) := wrF M 23 0 fun M1 => some (M1, M1.1 5)
set_option maxRecDepth 100000 in
set_option maxHeartbeats 4000000 in
theorem c_vertices (l : Launch) (G : mG) (F : Nat) (M M2 : MS) (r : Int32) (h : f_vertices F M = some (M2, r)) : mMI l yX7_vertices vX7_vertices ({ frames := 0, cells := 0, slots := 0, locals := 0 }) G [.ref (mO G)] M M2 r := by
  refine mBodyI (cc := cX7_vertices) (maxL := 1) (ret := (some .int)) (by decide) rfl rfl ?_
  intro sz p e s m below meth c hC hP
  have hC0 := hC
  obtain ⟨hx, hb, -, hts, -, -, -, -, -, -⟩ := hC0
  have hS : va_S (mA G sz) s.heap s.heap [] := va_S.rf
  have hin : ∀ w ∈ wsX70, w ∈ vX7_vertices := fun w h => List.mem_cons_of_mem _ (List.mem_append_right _ h)
  have fl_thrown := hts _ (List.mem_cons_of_mem _ wm_1)
  have fl_vertices := hts _ (List.mem_cons_of_mem _ wm_43)
  refine m_entry (Nat.le_of_ble_eq_true rfl) (fun ls hl => ?_)
  have hl : lv_has ls 1 [(0, .ref (mO G))] := hl
  unfold f_vertices at h
  refine lv_aload_n hx hb dX7_vertices_0 rfl (lv_at hl 0 rfl) ?_
  refine lv_iconst (v := 0) hx hb dX7_vertices_1 (by decide) ?_
  obtain ⟨M1, e2, h⟩ := wrF_el h
  refine m_put hC hin hP hS 23 (by decide) fl_thrown rfl rfl (by decide +kernel) (mset_23 G _ _) e2 dX7_vertices_2 (fun H locs hP hS => ?_)
  refine lv_aload_n hx hb dX7_vertices_5 rfl (lv_at hl 0 rfl) ?_
  refine m_get hC hin hP 5 (by decide) fl_vertices rfl (v := .int (M1.1 5)) rfl dX7_vertices_6 ?_
  cases h
  exact m_iret hC hP hS rfl dX7_vertices_9

theorem dX7_edges_0 : decode cX7_edges 0 = .ok (.aload_n 0, 1) := by decide +kernel
theorem dX7_edges_1 : decode cX7_edges 1 = .ok (.iconst 0, 1) := by decide +kernel
theorem dX7_edges_2 : decode cX7_edges 2 = .ok (.putfield 67, 3) := by decide +kernel
theorem dX7_edges_5 : decode cX7_edges 5 = .ok (.aload_n 0, 1) := by decide +kernel
theorem dX7_edges_6 : decode cX7_edges 6 = .ok (.getfield 138, 3) := by decide +kernel
theorem dX7_edges_9 : decode cX7_edges 9 = .ok (.ireturn, 1) := by decide +kernel
def f_edges (F : Nat) (M : MS) : Option (MS × Int32) := wrF M 23 0 fun M1 => some (M1, M1.1 11)
set_option maxRecDepth 100000 in
set_option maxHeartbeats 4000000 in
theorem c_edges (l : Launch) (G : mG) (F : Nat) (M M2 : MS) (r : Int32) (h : f_edges F M = some (M2, r)) : mMI l yX7_edges vX7_edges ({ frames := 0, cells := 0, slots := 0, locals := 0 }) G [.ref (mO G)] M M2 r := by
  refine mBodyI (cc := cX7_edges) (maxL := 1) (ret := (some .int)) (by decide) rfl rfl ?_
  intro sz p e s m below meth c hC hP
  have hC0 := hC
  obtain ⟨hx, hb, -, hts, -, -, -, -, -, -⟩ := hC0
  have hS : va_S (mA G sz) s.heap s.heap [] := va_S.rf
  have hin : ∀ w ∈ wsX70, w ∈ vX7_edges := fun w h => List.mem_cons_of_mem _ (List.mem_append_right _ h)
  have fl_thrown := hts _ (List.mem_cons_of_mem _ wm_1)
  have fl_edges := hts _ (List.mem_cons_of_mem _ wm_62)
  refine m_entry (Nat.le_of_ble_eq_true rfl) (fun ls hl => ?_)
  have hl : lv_has ls 1 [(0, .ref (mO G))] := hl
  unfold f_edges at h
  refine lv_aload_n hx hb dX7_edges_0 rfl (lv_at hl 0 rfl) ?_
  refine lv_iconst (v := 0) hx hb dX7_edges_1 (by decide) ?_
  obtain ⟨M1, e2, h⟩ := wrF_el h
  refine m_put hC hin hP hS 23 (by decide) fl_thrown rfl rfl (by decide +kernel) (mset_23 G _ _) e2 dX7_edges_2 (fun H locs hP hS => ?_)
  refine lv_aload_n hx hb dX7_edges_5 rfl (lv_at hl 0 rfl) ?_
  refine m_get hC hin hP 11 (by decide) fl_edges rfl (v := .int (M1.1 11)) rfl dX7_edges_6 ?_
  cases h
  exact m_iret hC hP hS rfl dX7_edges_9

theorem dX7_faces_0 : decode cX7_faces 0 = .ok (.aload_n 0, 1) := by decide +kernel
theorem dX7_faces_1 : decode cX7_faces 1 = .ok (.iconst 0, 1) := by decide +kernel
theorem dX7_faces_2 : decode cX7_faces 2 = .ok (.putfield 67, 3) := by decide +kernel
theorem dX7_faces_5 : decode cX7_faces 5 = .ok (.aload_n 0, 1) := by decide +kernel
theorem dX7_faces_6 : decode cX7_faces 6 = .ok (.getfield 63, 3) := by decide +kernel
theorem dX7_faces_9 : decode cX7_faces 9 = .ok (.ireturn, 1) := by decide +kernel
def f_faces (F : Nat) (M : MS) : Option (MS × Int32) := wrF M 23 0 fun M1 => some (M1, M1.1 21)
set_option maxRecDepth 100000 in
set_option maxHeartbeats 4000000 in
theorem c_faces (l : Launch) (G : mG) (F : Nat) (M M2 : MS) (r : Int32) (h : f_faces F M = some (M2, r)) : mMI l yX7_faces vX7_faces ({ frames := 0, cells := 0, slots := 0, locals := 0 }) G [.ref (mO G)] M M2 r := by
  refine mBodyI (cc := cX7_faces) (maxL := 1) (ret := (some .int)) (by decide) rfl rfl ?_
  intro sz p e s m below meth c hC hP
  have hC0 := hC
  obtain ⟨hx, hb, -, hts, -, -, -, -, -, -⟩ := hC0
  have hS : va_S (mA G sz) s.heap s.heap [] := va_S.rf
  have hin : ∀ w ∈ wsX70, w ∈ vX7_faces := fun w h => List.mem_cons_of_mem _ (List.mem_append_right _ h)
  have fl_thrown := hts _ (List.mem_cons_of_mem _ wm_1)
  have fl_faces := hts _ (List.mem_cons_of_mem _ wm_126)
  refine m_entry (Nat.le_of_ble_eq_true rfl) (fun ls hl => ?_)
  have hl : lv_has ls 1 [(0, .ref (mO G))] := hl
  unfold f_faces at h
  refine lv_aload_n hx hb dX7_faces_0 rfl (lv_at hl 0 rfl) ?_
  refine lv_iconst (v := 0) hx hb dX7_faces_1 (by decide) ?_
  obtain ⟨M1, e2, h⟩ := wrF_el h
  refine m_put hC hin hP hS 23 (by decide) fl_thrown rfl rfl (by decide +kernel) (mset_23 G _ _) e2 dX7_faces_2 (fun H locs hP hS => ?_)
  refine lv_aload_n hx hb dX7_faces_5 rfl (lv_at hl 0 rfl) ?_
  refine m_get hC hin hP 21 (by decide) fl_faces rfl (v := .int (M1.1 21)) rfl dX7_faces_6 ?_
  cases h
  exact m_iret hC hP hS rfl dX7_faces_9

theorem dX7_components_0 : decode cX7_components 0 = .ok (.aload_n 0, 1) := by decide +kernel
theorem dX7_components_1 : decode cX7_components 1 = .ok (.iconst 0, 1) := by decide +kernel
theorem dX7_components_2 : decode cX7_components 2 = .ok (.putfield 67, 3) := by decide +kernel
theorem dX7_components_5 : decode cX7_components 5 = .ok (.aload_n 0, 1) := by decide +kernel
theorem dX7_components_6 : decode cX7_components 6 = .ok (.getfield 144, 3) := by decide +kernel
theorem dX7_components_9 : decode cX7_components 9 = .ok (.ireturn, 1) := by decide +kernel
def f_components (F : Nat) (M : MS) : Option (MS × Int32) := wrF M 23 0 fun M1 => some (M1, M1.1 22)
set_option maxRecDepth 100000 in
set_option maxHeartbeats 4000000 in
theorem c_components (l : Launch) (G : mG) (F : Nat) (M M2 : MS) (r : Int32) (h : f_components F M = some (M2, r)) : mMI l yX7_components vX7_components ({ frames := 0, cells := 0, slots := 0, locals := 0 }) G [.ref (mO G)] M M2 r := by
  refine mBodyI (cc := cX7_components) (maxL := 1) (ret := (some .int)) (by decide) rfl rfl ?_
  intro sz p e s m below meth c hC hP
  have hC0 := hC
  obtain ⟨hx, hb, -, hts, -, -, -, -, -, -⟩ := hC0
  have hS : va_S (mA G sz) s.heap s.heap [] := va_S.rf
  have hin : ∀ w ∈ wsX70, w ∈ vX7_components := fun w h => List.mem_cons_of_mem _ (List.mem_append_right _ h)
  have fl_thrown := hts _ (List.mem_cons_of_mem _ wm_1)
  have fl_components := hts _ (List.mem_cons_of_mem _ wm_71)
  refine m_entry (Nat.le_of_ble_eq_true rfl) (fun ls hl => ?_)
  have hl : lv_has ls 1 [(0, .ref (mO G))] := hl
  unfold f_components at h
  refine lv_aload_n hx hb dX7_components_0 rfl (lv_at hl 0 rfl) ?_
  refine lv_iconst (v := 0) hx hb dX7_components_1 (by decide) ?_
  obtain ⟨M1, e2, h⟩ := wrF_el h
  refine m_put hC hin hP hS 23 (by decide) fl_thrown rfl rfl (by decide +kernel) (mset_23 G _ _) e2 dX7_components_2 (fun H locs hP hS => ?_)
  refine lv_aload_n hx hb dX7_components_5 rfl (lv_at hl 0 rfl) ?_
  refine m_get hC hin hP 22 (by decide) fl_components rfl (v := .int (M1.1 22)) rfl dX7_components_6 ?_
  cases h
  exact m_iret hC hP hS rfl dX7_components_9

theorem dX7_asksVertex_0 : decode cX7_asksVertex 0 = .ok (.aload_n 0, 1) := by decide +kernel
theorem dX7_asksVertex_1 : decode cX7_asksVertex 1 = .ok (.iload_n 1, 1) := by decide +kernel
theorem dX7_asksVertex_2 : decode cX7_asksVertex 2 = .ok (.iconst 0, 1) := by decide +kernel
theorem dX7_asksVertex_3 : decode cX7_asksVertex 3 = .ok (.aload_n 0, 1) := by decide +kernel
theorem dX7_asksVertex_4 : decode cX7_asksVertex 4 = .ok (.getfield 123, 3) := by decide +kernel
theorem dX7_asksVertex_7 : decode cX7_asksVertex 7 = .ok (.iconst 1, 1) := by decide +kernel
theorem dX7_asksVertex_8 : decode cX7_asksVertex 8 = .ok (.isub, 1) := by decide +kernel
theorem dX7_asksVertex_9 : decode cX7_asksVertex 9 = .ok (.invokestatic 70, 3) := by decide +kernel
theorem dX7_asksVertex_12 : decode cX7_asksVertex 12 = .ok (.ifCond .eq 7, 3) := by decide +kernel
theorem dX7_asksVertex_15 : decode cX7_asksVertex 15 = .ok (.iconst 0, 1) := by decide +kernel
theorem dX7_asksVertex_16 : decode cX7_asksVertex 16 = .ok (.goto 4, 3) := by decide +kernel
theorem dX7_asksVertex_19 : decode cX7_asksVertex 19 = .ok (.iconst 1, 1) := by decide +kernel
theorem dX7_asksVertex_20 : decode cX7_asksVertex 20 = .ok (.invokevirtual 107, 3) := by decide +kernel
theorem dX7_asksVertex_23 : decode cX7_asksVertex 23 = .ok (.ireturn, 1) := by decide +kernel
def f_asksVertex_b20 (F : Nat) (M : MS) (s0 : Int32) : Option (MS × Int32) := caM (f_goes F M s0) fun M2 t3 => okB t3 (some (M2, t3))
def f_asksVertex (F : Nat) (M : MS) (a1 : Int32) : Option (MS × Int32) := cal (f_isIn F M a1 0 ((M.1 5) - 1)) fun t2 => (if t2 = 0 then f_asksVertex_b20 F M 1 else f_asksVertex_b20 F M 0)
set_option maxRecDepth 100000 in
set_option maxHeartbeats 4000000 in
theorem c_asksVertex (l : Launch) (G : mG) (F : Nat) (M M2 : MS) (a1 : Int32) (r : Int32) (h : f_asksVertex F M a1 = some (M2, r)) : mMI l yX7_asksVertex vX7_asksVertex ({ frames := 1, cells := 0, slots := 0, locals := 22 }) G [.ref (mO G), .int a1] M M2 r := by
  refine mBodyI (cc := cX7_asksVertex) (maxL := 2) (ret := (some .boolean)) (by decide) rfl rfl ?_
  intro sz p e s m below meth c hC hP
  have hC0 := hC
  obtain ⟨hx, hb, -, hts, -, -, -, -, -, -⟩ := hC0
  have hS : va_S (mA G sz) s.heap s.heap [] := va_S.rf
  have hin : ∀ w ∈ wsX70, w ∈ vX7_asksVertex := fun w h => List.mem_cons_of_mem _ (List.mem_append_right _ h)
  have fl_vertices := hts _ (List.mem_cons_of_mem _ wm_43)
  have b20 : ∀ (H : Heap) (locs : List Loc) (ls : Array Slot) (M : MS) (s0 : Int32), va_P G.1 vwCl (mW G M) H → va_S (mA G sz) s.heap H locs → lv_has ls 2 [(0, .ref (mO G))] → f_asksVertex_b20 F M s0 = some (M2, r) → W p l e (headSpec vX7_asksVertex ({ frames := 1, cells := 0, slots := 0, locals := 22 })).room s m ([.ref (mO G), .int a1] : List Value).toArray below meth c H locs 0 0 (mQI below G M2 sz ([.ref (mO G), .int a1] : List Value).toArray s r) (F0 m 20 ls [.int s0, .ref (mO G)]) := by
    intro H locs ls M s0 hP hS hl h
    unfold f_asksVertex_b20 at h
    obtain ⟨M2, t3, e1, h⟩ := caM_el h
    refine m_VI (As := [.int s0]) (rest := []) hC hP hS (c_goes l G F M M2 s0 t3 e1) (cwV 1 hts (gWM wm_155 wm_156 wm_157 wm_7 wm_2) rfl rfl rfl (by decide +kernel) ⟨Nat.le_of_ble_eq_true rfl, Nat.le_of_ble_eq_true rfl⟩) rfl hl.1 rfl (Nat.le_of_ble_eq_true rfl) dX7_asksVertex_20 (fun H locs hP hS => ?_)
    obtain ⟨z4, h⟩ := okB_el h
    cases h
    exact m_zret hC hP hS z4 rfl dX7_asksVertex_23
  refine m_entry (Nat.le_of_ble_eq_true rfl) (fun ls hl => ?_)
  have hl : lv_has ls 2 [(0, .ref (mO G)), (1, .int a1)] := hl
  unfold f_asksVertex at h
  refine lv_aload_n hx hb dX7_asksVertex_0 rfl (lv_at hl 0 rfl) ?_
  refine lv_iload_n hx hb dX7_asksVertex_1 rfl (lv_at hl 1 rfl) ?_
  refine lv_iconst (v := 0) hx hb dX7_asksVertex_2 (by decide) ?_
  refine lv_aload_n hx hb dX7_asksVertex_3 rfl (lv_at hl 0 rfl) ?_
  refine m_get hC hin hP 5 (by decide) fl_vertices rfl (v := .int (M.1 5)) rfl dX7_asksVertex_4 ?_
  refine lv_iconst (v := 1) hx hb dX7_asksVertex_7 (by decide) ?_
  refine lv_isub hx hb dX7_asksVertex_8 ?_
  obtain ⟨t2, e1, h⟩ := cal_el h
  refine m_SI (As := [.int a1, .int 0, .int ((M.1 5) - 1)]) (rest := [.ref (mO G)]) hC hP hS (c_isIn l G F M a1 0 ((M.1 5) - 1) t2 e1) (va_cwS 3 hts (gWMS wm_5 wm_6 wm_7 wm_3) rfl rfl rfl (by decide +kernel) ⟨Nat.le_of_ble_eq_true rfl, Nat.le_of_ble_eq_true rfl⟩) rfl hl.1 rfl (Nat.le_of_ble_eq_true rfl) dX7_asksVertex_9 (fun H locs hP hS => ?_)
  refine lv_if_eq (tgt := 19) hx hb dX7_asksVertex_12 (by decide) (fun u3 => ?_) (fun u3 => ?_)
  · have h := ite_t u3 h
    refine lv_iconst (v := 1) hx hb dX7_asksVertex_19 (by decide) ?_
    exact b20 _ _ _ M 1 hP hS (lv_sub hl [0] rfl) h
  · have h := ite_f u3 h
    refine lv_iconst (v := 0) hx hb dX7_asksVertex_15 (by decide) ?_
    refine lv_goto (tgt := 20) hx hb dX7_asksVertex_16 (by decide) ?_
    exact b20 _ _ _ M 0 hP hS (lv_sub hl [0] rfl) h

theorem dX7_xNumerator_0 : decode cX7_xNumerator 0 = .ok (.aload_n 0, 1) := by decide +kernel
theorem dX7_xNumerator_1 : decode cX7_xNumerator 1 = .ok (.iload_n 1, 1) := by decide +kernel
theorem dX7_xNumerator_2 : decode cX7_xNumerator 2 = .ok (.invokevirtual 212, 3) := by decide +kernel
theorem dX7_xNumerator_5 : decode cX7_xNumerator 5 = .ok (.ifCond .eq 13, 3) := by decide +kernel
theorem dX7_xNumerator_8 : decode cX7_xNumerator 8 = .ok (.aload_n 0, 1) := by decide +kernel
theorem dX7_xNumerator_9 : decode cX7_xNumerator 9 = .ok (.getfield 22, 3) := by decide +kernel
theorem dX7_xNumerator_12 : decode cX7_xNumerator 12 = .ok (.iload_n 1, 1) := by decide +kernel
theorem dX7_xNumerator_13 : decode cX7_xNumerator 13 = .ok (.laload, 1) := by decide +kernel
theorem dX7_xNumerator_14 : decode cX7_xNumerator 14 = .ok (.l2i, 1) := by decide +kernel
theorem dX7_xNumerator_15 : decode cX7_xNumerator 15 = .ok (.goto 4, 3) := by decide +kernel
theorem dX7_xNumerator_18 : decode cX7_xNumerator 18 = .ok (.iconst 0, 1) := by decide +kernel
theorem dX7_xNumerator_19 : decode cX7_xNumerator 19 = .ok (.ireturn, 1) := by decide +kernel
def f_xNumerator (F : Nat) (M : MS) (a1 : Int32) : Option (MS × Int32) := caM (f_asksVertex F M a1) fun M2 t3 => (if t3 = 0 then some (M2, 0) else rdL 100 (M2.2.2 6) a1 fun t5 => some (M2, t5.toInt32))
set_option maxRecDepth 100000 in
set_option maxHeartbeats 4000000 in
theorem c_xNumerator (l : Launch) (G : mG) (F : Nat) (M M2 : MS) (a1 : Int32) (r : Int32) (h : f_xNumerator F M a1 = some (M2, r)) : mMI l yX7_xNumerator vX7_xNumerator ({ frames := 2, cells := 0, slots := 0, locals := 43 }) G [.ref (mO G), .int a1] M M2 r := by
  refine mBodyI (cc := cX7_xNumerator) (maxL := 2) (ret := (some .int)) (by decide) rfl rfl ?_
  intro sz p e s m below meth c hC hP
  have hC0 := hC
  obtain ⟨hx, hb, -, hts, -, -, -, -, -, -⟩ := hC0
  have hS : va_S (mA G sz) s.heap s.heap [] := va_S.rf
  have hin : ∀ w ∈ wsX70, w ∈ vX7_xNumerator := fun w h => List.mem_cons_of_mem _ (List.mem_append_right _ h)
  have fl_xn := hts _ (List.mem_cons_of_mem _ wm_44)
  refine m_entry (Nat.le_of_ble_eq_true rfl) (fun ls hl => ?_)
  have hl : lv_has ls 2 [(0, .ref (mO G)), (1, .int a1)] := hl
  unfold f_xNumerator at h
  refine lv_aload_n hx hb dX7_xNumerator_0 rfl (lv_at hl 0 rfl) ?_
  refine lv_iload_n hx hb dX7_xNumerator_1 rfl (lv_at hl 1 rfl) ?_
  obtain ⟨M2, t3, e1, h⟩ := caM_el h
  refine m_VI (As := [.int a1]) (rest := []) hC hP hS (c_asksVertex l G F M M2 a1 t3 e1) (cwV 1 hts (gWM wm_177 wm_178 wm_179 wm_7 wm_175) rfl rfl rfl (by decide +kernel) ⟨Nat.le_of_ble_eq_true rfl, Nat.le_of_ble_eq_true rfl⟩) rfl hl.1 rfl (Nat.le_of_ble_eq_true rfl) dX7_xNumerator_2 (fun H locs hP hS => ?_)
  refine lv_if_eq (tgt := 18) hx hb dX7_xNumerator_5 (by decide) (fun u4 => ?_) (fun u4 => ?_)
  · have h := ite_t u4 h
    refine lv_iconst (v := 0) hx hb dX7_xNumerator_18 (by decide) ?_
    cases h
    exact m_iret hC hP hS rfl dX7_xNumerator_19
  · have h := ite_f u4 h
    refine lv_aload_n hx hb dX7_xNumerator_8 rfl (lv_at hl 0 rfl) ?_
    refine m_get hC hin hP 6 (by decide) fl_xn rfl (v := .ref (mAd G 6)) rfl dX7_xNumerator_9 ?_
    refine lv_iload_n hx hb dX7_xNumerator_12 rfl (lv_at hl 1 rfl) ?_
    obtain ⟨z6, t5, e7, h⟩ := rdL_el h
    refine m_lld hC hP 5 (N := 100) rfl z6 e7 dX7_xNumerator_13 ?_
    refine lv_l2i (v := t5.toInt32) hx hb dX7_xNumerator_14 rfl ?_
    refine lv_goto (tgt := 19) hx hb dX7_xNumerator_15 (by decide) ?_
    cases h
    exact m_iret hC hP hS rfl dX7_xNumerator_19

theorem dX7_xDenominator_0 : decode cX7_xDenominator 0 = .ok (.aload_n 0, 1) := by decide +kernel
theorem dX7_xDenominator_1 : decode cX7_xDenominator 1 = .ok (.iload_n 1, 1) := by decide +kernel
theorem dX7_xDenominator_2 : decode cX7_xDenominator 2 = .ok (.invokevirtual 212, 3) := by decide +kernel
theorem dX7_xDenominator_5 : decode cX7_xDenominator 5 = .ok (.ifCond .eq 13, 3) := by decide +kernel
theorem dX7_xDenominator_8 : decode cX7_xDenominator 8 = .ok (.aload_n 0, 1) := by decide +kernel
theorem dX7_xDenominator_9 : decode cX7_xDenominator 9 = .ok (.getfield 26, 3) := by decide +kernel
theorem dX7_xDenominator_12 : decode cX7_xDenominator 12 = .ok (.iload_n 1, 1) := by decide +kernel
theorem dX7_xDenominator_13 : decode cX7_xDenominator 13 = .ok (.laload, 1) := by decide +kernel
theorem dX7_xDenominator_14 : decode cX7_xDenominator 14 = .ok (.l2i, 1) := by decide +kernel
theorem dX7_xDenominator_15 : decode cX7_xDenominator 15 = .ok (.goto 4, 3) := by decide +kernel
theorem dX7_xDenominator_18 : decode cX7_xDenominator 18 = .ok (.iconst 0, 1) := by decide +kernel
theorem dX7_xDenominator_19 : decode cX7_xDenominator 19 = .ok (.ireturn, 1) := by decide +kernel
def f_xDenominator (F : Nat) (M : MS) (a1 : Int32) : Option (MS × Int32) := caM (f_asksVertex F M a1) fun M2 t3 => (if t3 = 0 then some (M2, 0) else rdL 100 (M2.2.2 7) a1 fun t5 => some (M2, t5.toInt32))
set_option maxRecDepth 100000 in
set_option maxHeartbeats 4000000 in
theorem c_xDenominator (l : Launch) (G : mG) (F : Nat) (M M2 : MS) (a1 : Int32) (r : Int32) (h : f_xDenominator F M a1 = some (M2, r)) : mMI l yX7_xDenominator vX7_xDenominator ({ frames := 2, cells := 0, slots := 0, locals := 43 }) G [.ref (mO G), .int a1] M M2 r := by
  refine mBodyI (cc := cX7_xDenominator) (maxL := 2) (ret := (some .int)) (by decide) rfl rfl ?_
  intro sz p e s m below meth c hC hP
  have hC0 := hC
  obtain ⟨hx, hb, -, hts, -, -, -, -, -, -⟩ := hC0
  have hS : va_S (mA G sz) s.heap s.heap [] := va_S.rf
  have hin : ∀ w ∈ wsX70, w ∈ vX7_xDenominator := fun w h => List.mem_cons_of_mem _ (List.mem_append_right _ h)
  have fl_xd := hts _ (List.mem_cons_of_mem _ wm_45)
  refine m_entry (Nat.le_of_ble_eq_true rfl) (fun ls hl => ?_)
  have hl : lv_has ls 2 [(0, .ref (mO G)), (1, .int a1)] := hl
  unfold f_xDenominator at h
  refine lv_aload_n hx hb dX7_xDenominator_0 rfl (lv_at hl 0 rfl) ?_
  refine lv_iload_n hx hb dX7_xDenominator_1 rfl (lv_at hl 1 rfl) ?_
  obtain ⟨M2, t3, e1, h⟩ := caM_el h
  refine m_VI (As := [.int a1]) (rest := []) hC hP hS (c_asksVertex l G F M M2 a1 t3 e1) (cwV 1 hts (gWM wm_177 wm_178 wm_179 wm_7 wm_175) rfl rfl rfl (by decide +kernel) ⟨Nat.le_of_ble_eq_true rfl, Nat.le_of_ble_eq_true rfl⟩) rfl hl.1 rfl (Nat.le_of_ble_eq_true rfl) dX7_xDenominator_2 (fun H locs hP hS => ?_)
  refine lv_if_eq (tgt := 18) hx hb dX7_xDenominator_5 (by decide) (fun u4 => ?_) (fun u4 => ?_)
  · have h := ite_t u4 h
    refine lv_iconst (v := 0) hx hb dX7_xDenominator_18 (by decide) ?_
    cases h
    exact m_iret hC hP hS rfl dX7_xDenominator_19
  · have h := ite_f u4 h
    refine lv_aload_n hx hb dX7_xDenominator_8 rfl (lv_at hl 0 rfl) ?_
    refine m_get hC hin hP 7 (by decide) fl_xd rfl (v := .ref (mAd G 7)) rfl dX7_xDenominator_9 ?_
    refine lv_iload_n hx hb dX7_xDenominator_12 rfl (lv_at hl 1 rfl) ?_
    obtain ⟨z6, t5, e7, h⟩ := rdL_el h
    refine m_lld hC hP 6 (N := 100) rfl z6 e7 dX7_xDenominator_13 ?_
    refine lv_l2i (v := t5.toInt32) hx hb dX7_xDenominator_14 rfl ?_
    refine lv_goto (tgt := 19) hx hb dX7_xDenominator_15 (by decide) ?_
    cases h
    exact m_iret hC hP hS rfl dX7_xDenominator_19

theorem dX7_yNumerator_0 : decode cX7_yNumerator 0 = .ok (.aload_n 0, 1) := by decide +kernel
theorem dX7_yNumerator_1 : decode cX7_yNumerator 1 = .ok (.iload_n 1, 1) := by decide +kernel
theorem dX7_yNumerator_2 : decode cX7_yNumerator 2 = .ok (.invokevirtual 212, 3) := by decide +kernel
theorem dX7_yNumerator_5 : decode cX7_yNumerator 5 = .ok (.ifCond .eq 13, 3) := by decide +kernel
theorem dX7_yNumerator_8 : decode cX7_yNumerator 8 = .ok (.aload_n 0, 1) := by decide +kernel
theorem dX7_yNumerator_9 : decode cX7_yNumerator 9 = .ok (.getfield 29, 3) := by decide +kernel
theorem dX7_yNumerator_12 : decode cX7_yNumerator 12 = .ok (.iload_n 1, 1) := by decide +kernel
theorem dX7_yNumerator_13 : decode cX7_yNumerator 13 = .ok (.laload, 1) := by decide +kernel
theorem dX7_yNumerator_14 : decode cX7_yNumerator 14 = .ok (.l2i, 1) := by decide +kernel
theorem dX7_yNumerator_15 : decode cX7_yNumerator 15 = .ok (.goto 4, 3) := by decide +kernel
theorem dX7_yNumerator_18 : decode cX7_yNumerator 18 = .ok (.iconst 0, 1) := by decide +kernel
theorem dX7_yNumerator_19 : decode cX7_yNumerator 19 = .ok (.ireturn, 1) := by decide +kernel
def f_yNumerator (F : Nat) (M : MS) (a1 : Int32) : Option (MS × Int32) := caM (f_asksVertex F M a1) fun M2 t3 => (if t3 = 0 then some (M2, 0) else rdL 100 (M2.2.2 8) a1 fun t5 => some (M2, t5.toInt32))
set_option maxRecDepth 100000 in
set_option maxHeartbeats 4000000 in
theorem c_yNumerator (l : Launch) (G : mG) (F : Nat) (M M2 : MS) (a1 : Int32) (r : Int32) (h : f_yNumerator F M a1 = some (M2, r)) : mMI l yX7_yNumerator vX7_yNumerator ({ frames := 2, cells := 0, slots := 0, locals := 43 }) G [.ref (mO G), .int a1] M M2 r := by
  refine mBodyI (cc := cX7_yNumerator) (maxL := 2) (ret := (some .int)) (by decide) rfl rfl ?_
  intro sz p e s m below meth c hC hP
  have hC0 := hC
  obtain ⟨hx, hb, -, hts, -, -, -, -, -, -⟩ := hC0
  have hS : va_S (mA G sz) s.heap s.heap [] := va_S.rf
  have hin : ∀ w ∈ wsX70, w ∈ vX7_yNumerator := fun w h => List.mem_cons_of_mem _ (List.mem_append_right _ h)
  have fl_yn := hts _ (List.mem_cons_of_mem _ wm_46)
  refine m_entry (Nat.le_of_ble_eq_true rfl) (fun ls hl => ?_)
  have hl : lv_has ls 2 [(0, .ref (mO G)), (1, .int a1)] := hl
  unfold f_yNumerator at h
  refine lv_aload_n hx hb dX7_yNumerator_0 rfl (lv_at hl 0 rfl) ?_
  refine lv_iload_n hx hb dX7_yNumerator_1 rfl (lv_at hl 1 rfl) ?_
  obtain ⟨M2, t3, e1, h⟩ := caM_el h
  refine m_VI (As := [.int a1]) (rest := []) hC hP hS (c_asksVertex l G F M M2 a1 t3 e1) (cwV 1 hts (gWM wm_177 wm_178 wm_179 wm_7 wm_175) rfl rfl rfl (by decide +kernel) ⟨Nat.le_of_ble_eq_true rfl, Nat.le_of_ble_eq_true rfl⟩) rfl hl.1 rfl (Nat.le_of_ble_eq_true rfl) dX7_yNumerator_2 (fun H locs hP hS => ?_)
  refine lv_if_eq (tgt := 18) hx hb dX7_yNumerator_5 (by decide) (fun u4 => ?_) (fun u4 => ?_)
  · have h := ite_t u4 h
    refine lv_iconst (v := 0) hx hb dX7_yNumerator_18 (by decide) ?_
    cases h
    exact m_iret hC hP hS rfl dX7_yNumerator_19
  · have h := ite_f u4 h
    refine lv_aload_n hx hb dX7_yNumerator_8 rfl (lv_at hl 0 rfl) ?_
    refine m_get hC hin hP 8 (by decide) fl_yn rfl (v := .ref (mAd G 8)) rfl dX7_yNumerator_9 ?_
    refine lv_iload_n hx hb dX7_yNumerator_12 rfl (lv_at hl 1 rfl) ?_
    obtain ⟨z6, t5, e7, h⟩ := rdL_el h
    refine m_lld hC hP 7 (N := 100) rfl z6 e7 dX7_yNumerator_13 ?_
    refine lv_l2i (v := t5.toInt32) hx hb dX7_yNumerator_14 rfl ?_
    refine lv_goto (tgt := 19) hx hb dX7_yNumerator_15 (by decide) ?_
    cases h
    exact m_iret hC hP hS rfl dX7_yNumerator_19

theorem dX7_yDenominator_0 : decode cX7_yDenominator 0 = .ok (.aload_n 0, 1) := by decide +kernel
theorem dX7_yDenominator_1 : decode cX7_yDenominator 1 = .ok (.iload_n 1, 1) := by decide +kernel
theorem dX7_yDenominator_2 : decode cX7_yDenominator 2 = .ok (.invokevirtual 212, 3) := by decide +kernel
theorem dX7_yDenominator_5 : decode cX7_yDenominator 5 = .ok (.ifCond .eq 13, 3) := by decide +kernel
theorem dX7_yDenominator_8 : decode cX7_yDenominator 8 = .ok (.aload_n 0, 1) := by decide +kernel
theorem dX7_yDenominator_9 : decode cX7_yDenominator 9 = .ok (.getfield 32, 3) := by decide +kernel
theorem dX7_yDenominator_12 : decode cX7_yDenominator 12 = .ok (.iload_n 1, 1) := by decide +kernel
theorem dX7_yDenominator_13 : decode cX7_yDenominator 13 = .ok (.laload, 1) := by decide +kernel
theorem dX7_yDenominator_14 : decode cX7_yDenominator 14 = .ok (.l2i, 1) := by decide +kernel
theorem dX7_yDenominator_15 : decode cX7_yDenominator 15 = .ok (.goto 4, 3) := by decide +kernel
theorem dX7_yDenominator_18 : decode cX7_yDenominator 18 = .ok (.iconst 0, 1) := by decide +kernel
theorem dX7_yDenominator_19 : decode cX7_yDenominator 19 = .ok (.ireturn, 1) := by decide +kernel
def f_yDenominator (F : Nat) (M : MS) (a1 : Int32) : Option (MS × Int32) := caM (f_asksVertex F M a1) fun M2 t3 => (if t3 = 0 then some (M2, 0) else rdL 100 (M2.2.2 9) a1 fun t5 => some (M2, t5.toInt32))
set_option maxRecDepth 100000 in
set_option maxHeartbeats 4000000 in
theorem c_yDenominator (l : Launch) (G : mG) (F : Nat) (M M2 : MS) (a1 : Int32) (r : Int32) (h : f_yDenominator F M a1 = some (M2, r)) : mMI l yX7_yDenominator vX7_yDenominator ({ frames := 2, cells := 0, slots := 0, locals := 43 }) G [.ref (mO G), .int a1] M M2 r := by
  refine mBodyI (cc := cX7_yDenominator) (maxL := 2) (ret := (some .int)) (by decide) rfl rfl ?_
  intro sz p e s m below meth c hC hP
  have hC0 := hC
  obtain ⟨hx, hb, -, hts, -, -, -, -, -, -⟩ := hC0
  have hS : va_S (mA G sz) s.heap s.heap [] := va_S.rf
  have hin : ∀ w ∈ wsX70, w ∈ vX7_yDenominator := fun w h => List.mem_cons_of_mem _ (List.mem_append_right _ h)
  have fl_yd := hts _ (List.mem_cons_of_mem _ wm_47)
  refine m_entry (Nat.le_of_ble_eq_true rfl) (fun ls hl => ?_)
  have hl : lv_has ls 2 [(0, .ref (mO G)), (1, .int a1)] := hl
  unfold f_yDenominator at h
  refine lv_aload_n hx hb dX7_yDenominator_0 rfl (lv_at hl 0 rfl) ?_
  refine lv_iload_n hx hb dX7_yDenominator_1 rfl (lv_at hl 1 rfl) ?_
  obtain ⟨M2, t3, e1, h⟩ := caM_el h
  refine m_VI (As := [.int a1]) (rest := []) hC hP hS (c_asksVertex l G F M M2 a1 t3 e1) (cwV 1 hts (gWM wm_177 wm_178 wm_179 wm_7 wm_175) rfl rfl rfl (by decide +kernel) ⟨Nat.le_of_ble_eq_true rfl, Nat.le_of_ble_eq_true rfl⟩) rfl hl.1 rfl (Nat.le_of_ble_eq_true rfl) dX7_yDenominator_2 (fun H locs hP hS => ?_)
  refine lv_if_eq (tgt := 18) hx hb dX7_yDenominator_5 (by decide) (fun u4 => ?_) (fun u4 => ?_)
  · have h := ite_t u4 h
    refine lv_iconst (v := 0) hx hb dX7_yDenominator_18 (by decide) ?_
    cases h
    exact m_iret hC hP hS rfl dX7_yDenominator_19
  · have h := ite_f u4 h
    refine lv_aload_n hx hb dX7_yDenominator_8 rfl (lv_at hl 0 rfl) ?_
    refine m_get hC hin hP 9 (by decide) fl_yd rfl (v := .ref (mAd G 9)) rfl dX7_yDenominator_9 ?_
    refine lv_iload_n hx hb dX7_yDenominator_12 rfl (lv_at hl 1 rfl) ?_
    obtain ⟨z6, t5, e7, h⟩ := rdL_el h
    refine m_lld hC hP 8 (N := 100) rfl z6 e7 dX7_yDenominator_13 ?_
    refine lv_l2i (v := t5.toInt32) hx hb dX7_yDenominator_14 rfl ?_
    refine lv_goto (tgt := 19) hx hb dX7_yDenominator_15 (by decide) ?_
    cases h
    exact m_iret hC hP hS rfl dX7_yDenominator_19

theorem dX7_degree_0 : decode cX7_degree 0 = .ok (.iconst 0, 1) := by decide +kernel
theorem dX7_degree_1 : decode cX7_degree 1 = .ok (.istore_n 2, 1) := by decide +kernel
theorem dX7_degree_2 : decode cX7_degree 2 = .ok (.aload_n 0, 1) := by decide +kernel
theorem dX7_degree_3 : decode cX7_degree 3 = .ok (.iload_n 1, 1) := by decide +kernel
theorem dX7_degree_4 : decode cX7_degree 4 = .ok (.invokevirtual 212, 3) := by decide +kernel
theorem dX7_degree_7 : decode cX7_degree 7 = .ok (.istore_n 3, 1) := by decide +kernel
theorem dX7_degree_8 : decode cX7_degree 8 = .ok (.iconst 0, 1) := by decide +kernel
theorem dX7_degree_9 : decode cX7_degree 9 = .ok (.istore 4, 2) := by decide +kernel
theorem dX7_degree_11 : decode cX7_degree 11 = .ok (.iload 4, 2) := by decide +kernel
theorem dX7_degree_13 : decode cX7_degree 13 = .ok (.aload_n 0, 1) := by decide +kernel
theorem dX7_degree_14 : decode cX7_degree 14 = .ok (.getfield 138, 3) := by decide +kernel
theorem dX7_degree_17 : decode cX7_degree 17 = .ok (.if_icmp .ge 43, 3) := by decide +kernel
theorem dX7_degree_20 : decode cX7_degree 20 = .ok (.iload_n 3, 1) := by decide +kernel
theorem dX7_degree_21 : decode cX7_degree 21 = .ok (.ifCond .eq 39, 3) := by decide +kernel
theorem dX7_degree_24 : decode cX7_degree 24 = .ok (.iload_n 2, 1) := by decide +kernel
theorem dX7_degree_25 : decode cX7_degree 25 = .ok (.aload_n 0, 1) := by decide +kernel
theorem dX7_degree_26 : decode cX7_degree 26 = .ok (.getfield 41, 3) := by decide +kernel
theorem dX7_degree_29 : decode cX7_degree 29 = .ok (.iload 4, 2) := by decide +kernel
theorem dX7_degree_31 : decode cX7_degree 31 = .ok (.iaload, 1) := by decide +kernel
theorem dX7_degree_32 : decode cX7_degree 32 = .ok (.iload_n 1, 1) := by decide +kernel
theorem dX7_degree_33 : decode cX7_degree 33 = .ok (.if_icmp .eq 14, 3) := by decide +kernel
theorem dX7_degree_36 : decode cX7_degree 36 = .ok (.aload_n 0, 1) := by decide +kernel
theorem dX7_degree_37 : decode cX7_degree 37 = .ok (.getfield 44, 3) := by decide +kernel
theorem dX7_degree_40 : decode cX7_degree 40 = .ok (.iload 4, 2) := by decide +kernel
theorem dX7_degree_42 : decode cX7_degree 42 = .ok (.iaload, 1) := by decide +kernel
theorem dX7_degree_43 : decode cX7_degree 43 = .ok (.iload_n 1, 1) := by decide +kernel
theorem dX7_degree_44 : decode cX7_degree 44 = .ok (.if_icmp .ne 7, 3) := by decide +kernel
theorem dX7_degree_47 : decode cX7_degree 47 = .ok (.iconst 1, 1) := by decide +kernel
theorem dX7_degree_48 : decode cX7_degree 48 = .ok (.goto 4, 3) := by decide +kernel
theorem dX7_degree_51 : decode cX7_degree 51 = .ok (.iconst 0, 1) := by decide +kernel
theorem dX7_degree_52 : decode cX7_degree 52 = .ok (.iadd, 1) := by decide +kernel
theorem dX7_degree_53 : decode cX7_degree 53 = .ok (.istore_n 2, 1) := by decide +kernel
theorem dX7_degree_54 : decode cX7_degree 54 = .ok (.iinc 4 1, 3) := by decide +kernel
theorem dX7_degree_57 : decode cX7_degree 57 = .ok (.goto (-46), 3) := by decide +kernel
theorem dX7_degree_60 : decode cX7_degree 60 = .ok (.iload_n 2, 1) := by decide +kernel
theorem dX7_degree_61 : decode cX7_degree 61 = .ok (.ireturn, 1) := by decide +kernel
def f_degree_b52 (F : Nat) (k11 : MS → Int32 → Int32 → Int32 → Int32 → Option (MS × Int32)) (M : MS) (x1 : Int32) (x3 : Int32) (x4 : Int32) (s0 : Int32) (s1 : Int32) : Option (MS × Int32) := k11 M x1 (s1 + s0) x3 (x4 + 1)
def f_degree_L11 (F : Nat) : Nat → MS → Int32 → Int32 → Int32 → Int32 → Option (MS × Int32)
  | 0, _, _, _, _, _ => none
  | n11 + 1, M, x1, x2, x3, x4 => (if (M.1 11) ≤ x4 then some (M, x2) else (if x3 = 0 then some (M, x2) else rdI 160 (M.2.1 13) x4 fun t3 => (if t3 = x1 then f_degree_b52 F ((f_degree_L11 F n11)) M x1 x3 x4 1 x2 else rdI 160 (M.2.1 14) x4 fun t7 => (if t7 = x1 then f_degree_b52 F ((f_degree_L11 F n11)) M x1 x3 x4 1 x2 else f_degree_b52 F ((f_degree_L11 F n11)) M x1 x3 x4 0 x2))))
def f_degree (F : Nat) (M : MS) (a1 : Int32) : Option (MS × Int32) := caM (f_asksVertex F M a1) fun M2 t3 => f_degree_L11 F F M2 a1 0 t3 0
set_option maxRecDepth 100000 in
set_option maxHeartbeats 4000000 in
theorem c_degree (l : Launch) (G : mG) (F : Nat) (M M2 : MS) (a1 : Int32) (r : Int32) (h : f_degree F M a1 = some (M2, r)) : mMI l yX7_degree vX7_degree ({ frames := 2, cells := 0, slots := 0, locals := 43 }) G [.ref (mO G), .int a1] M M2 r := by
  refine mBodyI (cc := cX7_degree) (maxL := 5) (ret := (some .int)) (by decide) rfl rfl ?_
  intro sz p e s m below meth c hC hP
  have hC0 := hC
  obtain ⟨hx, hb, -, hts, -, -, -, -, -, -⟩ := hC0
  have hS : va_S (mA G sz) s.heap s.heap [] := va_S.rf
  have hin : ∀ w ∈ wsX70, w ∈ vX7_degree := fun w h => List.mem_cons_of_mem _ (List.mem_append_right _ h)
  have fl_edges := hts _ (List.mem_cons_of_mem _ wm_62)
  have fl_froms := hts _ (List.mem_cons_of_mem _ wm_64)
  have fl_tos := hts _ (List.mem_cons_of_mem _ wm_65)
  have L11 : ∀ (n11 : Nat) (H : Heap) (locs : List Loc) (ls : Array Slot) (M : MS) (x1 : Int32) (x2 : Int32) (x3 : Int32) (x4 : Int32), va_P G.1 vwCl (mW G M) H → va_S (mA G sz) s.heap H locs → lv_has ls 5 [(0, .ref (mO G)), (1, .int x1), (2, .int x2), (3, .int x3), (4, .int x4)] → f_degree_L11 F n11 M x1 x2 x3 x4 = some (M2, r) → W p l e (headSpec vX7_degree ({ frames := 2, cells := 0, slots := 0, locals := 43 })).room s m ([.ref (mO G), .int a1] : List Value).toArray below meth c H locs 0 0 (mQI below G M2 sz ([.ref (mO G), .int a1] : List Value).toArray s r) (F0 m 11 ls []) := by
    intro n11
    induction n11 with
    | zero =>
      intro H locs ls M x1 x2 x3 x4 hP hS hl h
      rw [f_degree_L11] at h; cases h
    | succ n11 ih11 =>
      have b52 : ∀ (H : Heap) (locs : List Loc) (ls : Array Slot) (M : MS) (x1 : Int32) (x3 : Int32) (x4 : Int32) (s0 : Int32) (s1 : Int32), va_P G.1 vwCl (mW G M) H → va_S (mA G sz) s.heap H locs → lv_has ls 5 [(0, .ref (mO G)), (1, .int x1), (3, .int x3), (4, .int x4)] → f_degree_b52 F ((f_degree_L11 F n11)) M x1 x3 x4 s0 s1 = some (M2, r) → W p l e (headSpec vX7_degree ({ frames := 2, cells := 0, slots := 0, locals := 43 })).room s m ([.ref (mO G), .int a1] : List Value).toArray below meth c H locs 0 0 (mQI below G M2 sz ([.ref (mO G), .int a1] : List Value).toArray s r) (F0 m 52 ls [.int s0, .int s1]) := by
        intro H locs ls M x1 x3 x4 s0 s1 hP hS hl h
        unfold f_degree_b52 at h
        refine lv_iadd hx hb dX7_degree_52 ?_
        refine lv_istore_n (lv' := [(2, .int (s1 + s0)), (0, .ref (mO G)), (1, .int x1), (3, .int x3), (4, .int x4)]) hx hb dX7_degree_53 rfl hl (by decide) rfl (fun ls hl => ?_)
        refine lv_iinc (v := x4 + 1) (lv' := [(4, .int (x4 + 1)), (2, .int (s1 + s0)), (0, .ref (mO G)), (1, .int x1), (3, .int x3)]) hx hb dX7_degree_54 hl (k := 4) rfl rfl (by decide) rfl (fun ls hl => ?_)
        refine lv_goto (tgt := 11) hx hb dX7_degree_57 (by decide) ?_
        exact ih11 _ _ _ M x1 (s1 + s0) x3 (x4 + 1) hP hS (lv_sub hl [2, 3, 1, 4, 0] rfl) h
      intro H locs ls M x1 x2 x3 x4 hP hS hl h
      rw [f_degree_L11] at h
      refine lv_iload hx hb dX7_degree_11 (lv_at hl 4 rfl) ?_
      refine lv_aload_n hx hb dX7_degree_13 rfl (lv_at hl 0 rfl) ?_
      refine m_get hC hin hP 11 (by decide) fl_edges rfl (v := .int (M.1 11)) rfl dX7_degree_14 ?_
      refine lv_icmp_ge (tgt := 60) hx hb dX7_degree_17 (by decide) (fun u1 => ?_) (fun u1 => ?_)
      · have h := ite_t u1 h
        refine lv_iload_n hx hb dX7_degree_60 rfl (lv_at hl 2 rfl) ?_
        cases h
        exact m_iret hC hP hS rfl dX7_degree_61
      · have h := ite_f u1 h
        refine lv_iload_n hx hb dX7_degree_20 rfl (lv_at hl 3 rfl) ?_
        refine lv_if_eq (tgt := 60) hx hb dX7_degree_21 (by decide) (fun u2 => ?_) (fun u2 => ?_)
        · have h := ite_t u2 h
          refine lv_iload_n hx hb dX7_degree_60 rfl (lv_at hl 2 rfl) ?_
          cases h
          exact m_iret hC hP hS rfl dX7_degree_61
        · have h := ite_f u2 h
          refine lv_iload_n hx hb dX7_degree_24 rfl (lv_at hl 2 rfl) ?_
          refine lv_aload_n hx hb dX7_degree_25 rfl (lv_at hl 0 rfl) ?_
          refine m_get hC hin hP 13 (by decide) fl_froms rfl (v := .ref (mAd G 13)) rfl dX7_degree_26 ?_
          refine lv_iload hx hb dX7_degree_29 (lv_at hl 4 rfl) ?_
          obtain ⟨z4, t3, e5, h⟩ := rdI_el h
          refine m_ild hC hP 11 (N := 160) rfl z4 e5 dX7_degree_31 ?_
          refine lv_iload_n hx hb dX7_degree_32 rfl (lv_at hl 1 rfl) ?_
          refine lv_icmp_eq (tgt := 47) hx hb dX7_degree_33 (by decide) (fun u6 => ?_) (fun u6 => ?_)
          · have h := ite_t u6 h
            refine lv_iconst (v := 1) hx hb dX7_degree_47 (by decide) ?_
            refine lv_goto (tgt := 52) hx hb dX7_degree_48 (by decide) ?_
            exact b52 _ _ _ M x1 x3 x4 1 x2 hP hS (lv_sub hl [0, 1, 3, 4] rfl) h
          · have h := ite_f u6 h
            refine lv_aload_n hx hb dX7_degree_36 rfl (lv_at hl 0 rfl) ?_
            refine m_get hC hin hP 14 (by decide) fl_tos rfl (v := .ref (mAd G 14)) rfl dX7_degree_37 ?_
            refine lv_iload hx hb dX7_degree_40 (lv_at hl 4 rfl) ?_
            obtain ⟨z8, t7, e9, h⟩ := rdI_el h
            refine m_ild hC hP 12 (N := 160) rfl z8 e9 dX7_degree_42 ?_
            refine lv_iload_n hx hb dX7_degree_43 rfl (lv_at hl 1 rfl) ?_
            refine lv_icmp_ne (tgt := 51) hx hb dX7_degree_44 (by decide) (fun u10 => ?_) (fun u10 => ?_)
            · have h := ite_f u10 h
              refine lv_iconst (v := 0) hx hb dX7_degree_51 (by decide) ?_
              exact b52 _ _ _ M x1 x3 x4 0 x2 hP hS (lv_sub hl [0, 1, 3, 4] rfl) h
            · have h := ite_t u10 h
              refine lv_iconst (v := 1) hx hb dX7_degree_47 (by decide) ?_
              refine lv_goto (tgt := 52) hx hb dX7_degree_48 (by decide) ?_
              exact b52 _ _ _ M x1 x3 x4 1 x2 hP hS (lv_sub hl [0, 1, 3, 4] rfl) h
  refine m_entry (Nat.le_of_ble_eq_true rfl) (fun ls hl => ?_)
  have hl : lv_has ls 5 [(0, .ref (mO G)), (1, .int a1)] := hl
  unfold f_degree at h
  refine lv_iconst (v := 0) hx hb dX7_degree_0 (by decide) ?_
  refine lv_istore_n (lv' := [(2, .int 0), (0, .ref (mO G)), (1, .int a1)]) hx hb dX7_degree_1 rfl hl (by decide) rfl (fun ls hl => ?_)
  refine lv_aload_n hx hb dX7_degree_2 rfl (lv_at hl 1 rfl) ?_
  refine lv_iload_n hx hb dX7_degree_3 rfl (lv_at hl 2 rfl) ?_
  obtain ⟨M2, t3, e1, h⟩ := caM_el h
  refine m_VI (As := [.int a1]) (rest := []) hC hP hS (c_asksVertex l G F M M2 a1 t3 e1) (cwV 1 hts (gWM wm_177 wm_178 wm_179 wm_7 wm_175) rfl rfl rfl (by decide +kernel) ⟨Nat.le_of_ble_eq_true rfl, Nat.le_of_ble_eq_true rfl⟩) rfl hl.1 rfl (Nat.le_of_ble_eq_true rfl) dX7_degree_4 (fun H locs hP hS => ?_)
  refine lv_istore_n (lv' := [(3, .int t3), (2, .int 0), (0, .ref (mO G)), (1, .int a1)]) hx hb dX7_degree_7 rfl hl (by decide) rfl (fun ls hl => ?_)
  refine lv_iconst (v := 0) hx hb dX7_degree_8 (by decide) ?_
  refine lv_istore (lv' := [(4, .int 0), (3, .int t3), (2, .int 0), (0, .ref (mO G)), (1, .int a1)]) hx hb dX7_degree_9 hl (by decide) rfl (fun ls hl => ?_)
  exact L11 F _ _ _ M2 a1 0 t3 0 hP hS (lv_sub hl [3, 4, 2, 1, 0] rfl) h

theorem dX7_asksEdge_0 : decode cX7_asksEdge 0 = .ok (.aload_n 0, 1) := by decide +kernel
theorem dX7_asksEdge_1 : decode cX7_asksEdge 1 = .ok (.iload_n 1, 1) := by decide +kernel
theorem dX7_asksEdge_2 : decode cX7_asksEdge 2 = .ok (.iconst 0, 1) := by decide +kernel
theorem dX7_asksEdge_3 : decode cX7_asksEdge 3 = .ok (.aload_n 0, 1) := by decide +kernel
theorem dX7_asksEdge_4 : decode cX7_asksEdge 4 = .ok (.getfield 138, 3) := by decide +kernel
theorem dX7_asksEdge_7 : decode cX7_asksEdge 7 = .ok (.iconst 1, 1) := by decide +kernel
theorem dX7_asksEdge_8 : decode cX7_asksEdge 8 = .ok (.isub, 1) := by decide +kernel
theorem dX7_asksEdge_9 : decode cX7_asksEdge 9 = .ok (.invokestatic 70, 3) := by decide +kernel
theorem dX7_asksEdge_12 : decode cX7_asksEdge 12 = .ok (.ifCond .eq 7, 3) := by decide +kernel
theorem dX7_asksEdge_15 : decode cX7_asksEdge 15 = .ok (.iconst 0, 1) := by decide +kernel
theorem dX7_asksEdge_16 : decode cX7_asksEdge 16 = .ok (.goto 4, 3) := by decide +kernel
theorem dX7_asksEdge_19 : decode cX7_asksEdge 19 = .ok (.iconst 1, 1) := by decide +kernel
theorem dX7_asksEdge_20 : decode cX7_asksEdge 20 = .ok (.invokevirtual 107, 3) := by decide +kernel
theorem dX7_asksEdge_23 : decode cX7_asksEdge 23 = .ok (.ireturn, 1) := by decide +kernel
def f_asksEdge_b20 (F : Nat) (M : MS) (s0 : Int32) : Option (MS × Int32) := caM (f_goes F M s0) fun M2 t3 => okB t3 (some (M2, t3))
def f_asksEdge (F : Nat) (M : MS) (a1 : Int32) : Option (MS × Int32) := cal (f_isIn F M a1 0 ((M.1 11) - 1)) fun t2 => (if t2 = 0 then f_asksEdge_b20 F M 1 else f_asksEdge_b20 F M 0)
set_option maxRecDepth 100000 in
set_option maxHeartbeats 4000000 in
theorem c_asksEdge (l : Launch) (G : mG) (F : Nat) (M M2 : MS) (a1 : Int32) (r : Int32) (h : f_asksEdge F M a1 = some (M2, r)) : mMI l yX7_asksEdge vX7_asksEdge ({ frames := 1, cells := 0, slots := 0, locals := 22 }) G [.ref (mO G), .int a1] M M2 r := by
  refine mBodyI (cc := cX7_asksEdge) (maxL := 2) (ret := (some .boolean)) (by decide) rfl rfl ?_
  intro sz p e s m below meth c hC hP
  have hC0 := hC
  obtain ⟨hx, hb, -, hts, -, -, -, -, -, -⟩ := hC0
  have hS : va_S (mA G sz) s.heap s.heap [] := va_S.rf
  have hin : ∀ w ∈ wsX70, w ∈ vX7_asksEdge := fun w h => List.mem_cons_of_mem _ (List.mem_append_right _ h)
  have fl_edges := hts _ (List.mem_cons_of_mem _ wm_62)
  have b20 : ∀ (H : Heap) (locs : List Loc) (ls : Array Slot) (M : MS) (s0 : Int32), va_P G.1 vwCl (mW G M) H → va_S (mA G sz) s.heap H locs → lv_has ls 2 [(0, .ref (mO G))] → f_asksEdge_b20 F M s0 = some (M2, r) → W p l e (headSpec vX7_asksEdge ({ frames := 1, cells := 0, slots := 0, locals := 22 })).room s m ([.ref (mO G), .int a1] : List Value).toArray below meth c H locs 0 0 (mQI below G M2 sz ([.ref (mO G), .int a1] : List Value).toArray s r) (F0 m 20 ls [.int s0, .ref (mO G)]) := by
    intro H locs ls M s0 hP hS hl h
    unfold f_asksEdge_b20 at h
    obtain ⟨M2, t3, e1, h⟩ := caM_el h
    refine m_VI (As := [.int s0]) (rest := []) hC hP hS (c_goes l G F M M2 s0 t3 e1) (cwV 1 hts (gWM wm_155 wm_156 wm_157 wm_7 wm_2) rfl rfl rfl (by decide +kernel) ⟨Nat.le_of_ble_eq_true rfl, Nat.le_of_ble_eq_true rfl⟩) rfl hl.1 rfl (Nat.le_of_ble_eq_true rfl) dX7_asksEdge_20 (fun H locs hP hS => ?_)
    obtain ⟨z4, h⟩ := okB_el h
    cases h
    exact m_zret hC hP hS z4 rfl dX7_asksEdge_23
  refine m_entry (Nat.le_of_ble_eq_true rfl) (fun ls hl => ?_)
  have hl : lv_has ls 2 [(0, .ref (mO G)), (1, .int a1)] := hl
  unfold f_asksEdge at h
  refine lv_aload_n hx hb dX7_asksEdge_0 rfl (lv_at hl 0 rfl) ?_
  refine lv_iload_n hx hb dX7_asksEdge_1 rfl (lv_at hl 1 rfl) ?_
  refine lv_iconst (v := 0) hx hb dX7_asksEdge_2 (by decide) ?_
  refine lv_aload_n hx hb dX7_asksEdge_3 rfl (lv_at hl 0 rfl) ?_
  refine m_get hC hin hP 11 (by decide) fl_edges rfl (v := .int (M.1 11)) rfl dX7_asksEdge_4 ?_
  refine lv_iconst (v := 1) hx hb dX7_asksEdge_7 (by decide) ?_
  refine lv_isub hx hb dX7_asksEdge_8 ?_
  obtain ⟨t2, e1, h⟩ := cal_el h
  refine m_SI (As := [.int a1, .int 0, .int ((M.1 11) - 1)]) (rest := [.ref (mO G)]) hC hP hS (c_isIn l G F M a1 0 ((M.1 11) - 1) t2 e1) (va_cwS 3 hts (gWMS wm_5 wm_6 wm_7 wm_3) rfl rfl rfl (by decide +kernel) ⟨Nat.le_of_ble_eq_true rfl, Nat.le_of_ble_eq_true rfl⟩) rfl hl.1 rfl (Nat.le_of_ble_eq_true rfl) dX7_asksEdge_9 (fun H locs hP hS => ?_)
  refine lv_if_eq (tgt := 19) hx hb dX7_asksEdge_12 (by decide) (fun u3 => ?_) (fun u3 => ?_)
  · have h := ite_t u3 h
    refine lv_iconst (v := 1) hx hb dX7_asksEdge_19 (by decide) ?_
    exact b20 _ _ _ M 1 hP hS (lv_sub hl [0] rfl) h
  · have h := ite_f u3 h
    refine lv_iconst (v := 0) hx hb dX7_asksEdge_15 (by decide) ?_
    refine lv_goto (tgt := 20) hx hb dX7_asksEdge_16 (by decide) ?_
    exact b20 _ _ _ M 0 hP hS (lv_sub hl [0] rfl) h

theorem dX7_segmentOf_0 : decode cX7_segmentOf 0 = .ok (.aload_n 0, 1) := by decide +kernel
theorem dX7_segmentOf_1 : decode cX7_segmentOf 1 = .ok (.iload_n 1, 1) := by decide +kernel
theorem dX7_segmentOf_2 : decode cX7_segmentOf 2 = .ok (.invokevirtual 215, 3) := by decide +kernel
theorem dX7_segmentOf_5 : decode cX7_segmentOf 5 = .ok (.ifCond .eq 12, 3) := by decide +kernel
theorem dX7_segmentOf_8 : decode cX7_segmentOf 8 = .ok (.aload_n 0, 1) := by decide +kernel
theorem dX7_segmentOf_9 : decode cX7_segmentOf 9 = .ok (.getfield 38, 3) := by decide +kernel
theorem dX7_segmentOf_12 : decode cX7_segmentOf 12 = .ok (.iload_n 1, 1) := by decide +kernel
theorem dX7_segmentOf_13 : decode cX7_segmentOf 13 = .ok (.iaload, 1) := by decide +kernel
theorem dX7_segmentOf_14 : decode cX7_segmentOf 14 = .ok (.goto 4, 3) := by decide +kernel
theorem dX7_segmentOf_17 : decode cX7_segmentOf 17 = .ok (.iconst 0, 1) := by decide +kernel
theorem dX7_segmentOf_18 : decode cX7_segmentOf 18 = .ok (.ireturn, 1) := by decide +kernel
def f_segmentOf (F : Nat) (M : MS) (a1 : Int32) : Option (MS × Int32) := caM (f_asksEdge F M a1) fun M2 t3 => (if t3 = 0 then some (M2, 0) else rdI 160 (M2.2.1 12) a1 fun t5 => some (M2, t5))
set_option maxRecDepth 100000 in
set_option maxHeartbeats 4000000 in
theorem c_segmentOf (l : Launch) (G : mG) (F : Nat) (M M2 : MS) (a1 : Int32) (r : Int32) (h : f_segmentOf F M a1 = some (M2, r)) : mMI l yX7_segmentOf vX7_segmentOf ({ frames := 2, cells := 0, slots := 0, locals := 43 }) G [.ref (mO G), .int a1] M M2 r := by
  refine mBodyI (cc := cX7_segmentOf) (maxL := 2) (ret := (some .int)) (by decide) rfl rfl ?_
  intro sz p e s m below meth c hC hP
  have hC0 := hC
  obtain ⟨hx, hb, -, hts, -, -, -, -, -, -⟩ := hC0
  have hS : va_S (mA G sz) s.heap s.heap [] := va_S.rf
  have hin : ∀ w ∈ wsX70, w ∈ vX7_segmentOf := fun w h => List.mem_cons_of_mem _ (List.mem_append_right _ h)
  have fl_ofs := hts _ (List.mem_cons_of_mem _ wm_63)
  refine m_entry (Nat.le_of_ble_eq_true rfl) (fun ls hl => ?_)
  have hl : lv_has ls 2 [(0, .ref (mO G)), (1, .int a1)] := hl
  unfold f_segmentOf at h
  refine lv_aload_n hx hb dX7_segmentOf_0 rfl (lv_at hl 0 rfl) ?_
  refine lv_iload_n hx hb dX7_segmentOf_1 rfl (lv_at hl 1 rfl) ?_
  obtain ⟨M2, t3, e1, h⟩ := caM_el h
  refine m_VI (As := [.int a1]) (rest := []) hC hP hS (c_asksEdge l G F M M2 a1 t3 e1) (cwV 1 hts (gWM wm_186 wm_187 wm_188 wm_7 wm_184) rfl rfl rfl (by decide +kernel) ⟨Nat.le_of_ble_eq_true rfl, Nat.le_of_ble_eq_true rfl⟩) rfl hl.1 rfl (Nat.le_of_ble_eq_true rfl) dX7_segmentOf_2 (fun H locs hP hS => ?_)
  refine lv_if_eq (tgt := 17) hx hb dX7_segmentOf_5 (by decide) (fun u4 => ?_) (fun u4 => ?_)
  · have h := ite_t u4 h
    refine lv_iconst (v := 0) hx hb dX7_segmentOf_17 (by decide) ?_
    cases h
    exact m_iret hC hP hS rfl dX7_segmentOf_18
  · have h := ite_f u4 h
    refine lv_aload_n hx hb dX7_segmentOf_8 rfl (lv_at hl 0 rfl) ?_
    refine m_get hC hin hP 12 (by decide) fl_ofs rfl (v := .ref (mAd G 12)) rfl dX7_segmentOf_9 ?_
    refine lv_iload_n hx hb dX7_segmentOf_12 rfl (lv_at hl 1 rfl) ?_
    obtain ⟨z6, t5, e7, h⟩ := rdI_el h
    refine m_ild hC hP 10 (N := 160) rfl z6 e7 dX7_segmentOf_13 ?_
    refine lv_goto (tgt := 18) hx hb dX7_segmentOf_14 (by decide) ?_
    cases h
    exact m_iret hC hP hS rfl dX7_segmentOf_18

theorem dX7_from_0 : decode cX7_from 0 = .ok (.aload_n 0, 1) := by decide +kernel
theorem dX7_from_1 : decode cX7_from 1 = .ok (.iload_n 1, 1) := by decide +kernel
theorem dX7_from_2 : decode cX7_from 2 = .ok (.invokevirtual 215, 3) := by decide +kernel
theorem dX7_from_5 : decode cX7_from 5 = .ok (.ifCond .eq 12, 3) := by decide +kernel
theorem dX7_from_8 : decode cX7_from 8 = .ok (.aload_n 0, 1) := by decide +kernel
theorem dX7_from_9 : decode cX7_from 9 = .ok (.getfield 41, 3) := by decide +kernel
theorem dX7_from_12 : decode cX7_from 12 = .ok (.iload_n 1, 1) := by decide +kernel
theorem dX7_from_13 : decode cX7_from 13 = .ok (.iaload, 1) := by decide +kernel
theorem dX7_from_14 : decode cX7_from 14 = .ok (.goto 4, 3) := by decide +kernel
theorem dX7_from_17 : decode cX7_from 17 = .ok (.iconst 0, 1) := by decide +kernel
theorem dX7_from_18 : decode cX7_from 18 = .ok (.ireturn, 1) := by decide +kernel
def f_from (F : Nat) (M : MS) (a1 : Int32) : Option (MS × Int32) := caM (f_asksEdge F M a1) fun M2 t3 => (if t3 = 0 then some (M2, 0) else rdI 160 (M2.2.1 13) a1 fun t5 => some (M2, t5))
set_option maxRecDepth 100000 in
set_option maxHeartbeats 4000000 in
theorem c_from (l : Launch) (G : mG) (F : Nat) (M M2 : MS) (a1 : Int32) (r : Int32) (h : f_from F M a1 = some (M2, r)) : mMI l yX7_from vX7_from ({ frames := 2, cells := 0, slots := 0, locals := 43 }) G [.ref (mO G), .int a1] M M2 r := by
  refine mBodyI (cc := cX7_from) (maxL := 2) (ret := (some .int)) (by decide) rfl rfl ?_
  intro sz p e s m below meth c hC hP
  have hC0 := hC
  obtain ⟨hx, hb, -, hts, -, -, -, -, -, -⟩ := hC0
  have hS : va_S (mA G sz) s.heap s.heap [] := va_S.rf
  have hin : ∀ w ∈ wsX70, w ∈ vX7_from := fun w h => List.mem_cons_of_mem _ (List.mem_append_right _ h)
  have fl_froms := hts _ (List.mem_cons_of_mem _ wm_64)
  refine m_entry (Nat.le_of_ble_eq_true rfl) (fun ls hl => ?_)
  have hl : lv_has ls 2 [(0, .ref (mO G)), (1, .int a1)] := hl
  unfold f_from at h
  refine lv_aload_n hx hb dX7_from_0 rfl (lv_at hl 0 rfl) ?_
  refine lv_iload_n hx hb dX7_from_1 rfl (lv_at hl 1 rfl) ?_
  obtain ⟨M2, t3, e1, h⟩ := caM_el h
  refine m_VI (As := [.int a1]) (rest := []) hC hP hS (c_asksEdge l G F M M2 a1 t3 e1) (cwV 1 hts (gWM wm_186 wm_187 wm_188 wm_7 wm_184) rfl rfl rfl (by decide +kernel) ⟨Nat.le_of_ble_eq_true rfl, Nat.le_of_ble_eq_true rfl⟩) rfl hl.1 rfl (Nat.le_of_ble_eq_true rfl) dX7_from_2 (fun H locs hP hS => ?_)
  refine lv_if_eq (tgt := 17) hx hb dX7_from_5 (by decide) (fun u4 => ?_) (fun u4 => ?_)
  · have h := ite_t u4 h
    refine lv_iconst (v := 0) hx hb dX7_from_17 (by decide) ?_
    cases h
    exact m_iret hC hP hS rfl dX7_from_18
  · have h := ite_f u4 h
    refine lv_aload_n hx hb dX7_from_8 rfl (lv_at hl 0 rfl) ?_
    refine m_get hC hin hP 13 (by decide) fl_froms rfl (v := .ref (mAd G 13)) rfl dX7_from_9 ?_
    refine lv_iload_n hx hb dX7_from_12 rfl (lv_at hl 1 rfl) ?_
    obtain ⟨z6, t5, e7, h⟩ := rdI_el h
    refine m_ild hC hP 11 (N := 160) rfl z6 e7 dX7_from_13 ?_
    refine lv_goto (tgt := 18) hx hb dX7_from_14 (by decide) ?_
    cases h
    exact m_iret hC hP hS rfl dX7_from_18

theorem dX7_to_0 : decode cX7_to 0 = .ok (.aload_n 0, 1) := by decide +kernel
theorem dX7_to_1 : decode cX7_to 1 = .ok (.iload_n 1, 1) := by decide +kernel
theorem dX7_to_2 : decode cX7_to 2 = .ok (.invokevirtual 215, 3) := by decide +kernel
theorem dX7_to_5 : decode cX7_to 5 = .ok (.ifCond .eq 12, 3) := by decide +kernel
theorem dX7_to_8 : decode cX7_to 8 = .ok (.aload_n 0, 1) := by decide +kernel
theorem dX7_to_9 : decode cX7_to 9 = .ok (.getfield 44, 3) := by decide +kernel
theorem dX7_to_12 : decode cX7_to 12 = .ok (.iload_n 1, 1) := by decide +kernel
theorem dX7_to_13 : decode cX7_to 13 = .ok (.iaload, 1) := by decide +kernel
theorem dX7_to_14 : decode cX7_to 14 = .ok (.goto 4, 3) := by decide +kernel
theorem dX7_to_17 : decode cX7_to 17 = .ok (.iconst 0, 1) := by decide +kernel
theorem dX7_to_18 : decode cX7_to 18 = .ok (.ireturn, 1) := by decide +kernel
def f_to (F : Nat) (M : MS) (a1 : Int32) : Option (MS × Int32) := caM (f_asksEdge F M a1) fun M2 t3 => (if t3 = 0 then some (M2, 0) else rdI 160 (M2.2.1 14) a1 fun t5 => some (M2, t5))
set_option maxRecDepth 100000 in
set_option maxHeartbeats 4000000 in
theorem c_to (l : Launch) (G : mG) (F : Nat) (M M2 : MS) (a1 : Int32) (r : Int32) (h : f_to F M a1 = some (M2, r)) : mMI l yX7_to vX7_to ({ frames := 2, cells := 0, slots := 0, locals := 43 }) G [.ref (mO G), .int a1] M M2 r := by
  refine mBodyI (cc := cX7_to) (maxL := 2) (ret := (some .int)) (by decide) rfl rfl ?_
  intro sz p e s m below meth c hC hP
  have hC0 := hC
  obtain ⟨hx, hb, -, hts, -, -, -, -, -, -⟩ := hC0
  have hS : va_S (mA G sz) s.heap s.heap [] := va_S.rf
  have hin : ∀ w ∈ wsX70, w ∈ vX7_to := fun w h => List.mem_cons_of_mem _ (List.mem_append_right _ h)
  have fl_tos := hts _ (List.mem_cons_of_mem _ wm_65)
  refine m_entry (Nat.le_of_ble_eq_true rfl) (fun ls hl => ?_)
  have hl : lv_has ls 2 [(0, .ref (mO G)), (1, .int a1)] := hl
  unfold f_to at h
  refine lv_aload_n hx hb dX7_to_0 rfl (lv_at hl 0 rfl) ?_
  refine lv_iload_n hx hb dX7_to_1 rfl (lv_at hl 1 rfl) ?_
  obtain ⟨M2, t3, e1, h⟩ := caM_el h
  refine m_VI (As := [.int a1]) (rest := []) hC hP hS (c_asksEdge l G F M M2 a1 t3 e1) (cwV 1 hts (gWM wm_186 wm_187 wm_188 wm_7 wm_184) rfl rfl rfl (by decide +kernel) ⟨Nat.le_of_ble_eq_true rfl, Nat.le_of_ble_eq_true rfl⟩) rfl hl.1 rfl (Nat.le_of_ble_eq_true rfl) dX7_to_2 (fun H locs hP hS => ?_)
  refine lv_if_eq (tgt := 17) hx hb dX7_to_5 (by decide) (fun u4 => ?_) (fun u4 => ?_)
  · have h := ite_t u4 h
    refine lv_iconst (v := 0) hx hb dX7_to_17 (by decide) ?_
    cases h
    exact m_iret hC hP hS rfl dX7_to_18
  · have h := ite_f u4 h
    refine lv_aload_n hx hb dX7_to_8 rfl (lv_at hl 0 rfl) ?_
    refine m_get hC hin hP 14 (by decide) fl_tos rfl (v := .ref (mAd G 14)) rfl dX7_to_9 ?_
    refine lv_iload_n hx hb dX7_to_12 rfl (lv_at hl 1 rfl) ?_
    obtain ⟨z6, t5, e7, h⟩ := rdI_el h
    refine m_ild hC hP 12 (N := 160) rfl z6 e7 dX7_to_13 ?_
    refine lv_goto (tgt := 18) hx hb dX7_to_14 (by decide) ?_
    cases h
    exact m_iret hC hP hS rfl dX7_to_18

theorem dX7_leftOf_0 : decode cX7_leftOf 0 = .ok (.aload_n 0, 1) := by decide +kernel
theorem dX7_leftOf_1 : decode cX7_leftOf 1 = .ok (.iload_n 1, 1) := by decide +kernel
theorem dX7_leftOf_2 : decode cX7_leftOf 2 = .ok (.invokevirtual 215, 3) := by decide +kernel
theorem dX7_leftOf_5 : decode cX7_leftOf 5 = .ok (.ifCond .eq 19, 3) := by decide +kernel
theorem dX7_leftOf_8 : decode cX7_leftOf 8 = .ok (.aload_n 0, 1) := by decide +kernel
theorem dX7_leftOf_9 : decode cX7_leftOf 9 = .ok (.getfield 60, 3) := by decide +kernel
theorem dX7_leftOf_12 : decode cX7_leftOf 12 = .ok (.aload_n 0, 1) := by decide +kernel
theorem dX7_leftOf_13 : decode cX7_leftOf 13 = .ok (.getfield 47, 3) := by decide +kernel
theorem dX7_leftOf_16 : decode cX7_leftOf 16 = .ok (.iconst 2, 1) := by decide +kernel
theorem dX7_leftOf_17 : decode cX7_leftOf 17 = .ok (.iload_n 1, 1) := by decide +kernel
theorem dX7_leftOf_18 : decode cX7_leftOf 18 = .ok (.imul, 1) := by decide +kernel
theorem dX7_leftOf_19 : decode cX7_leftOf 19 = .ok (.iaload, 1) := by decide +kernel
theorem dX7_leftOf_20 : decode cX7_leftOf 20 = .ok (.iaload, 1) := by decide +kernel
theorem dX7_leftOf_21 : decode cX7_leftOf 21 = .ok (.goto 4, 3) := by decide +kernel
theorem dX7_leftOf_24 : decode cX7_leftOf 24 = .ok (.iconst 0, 1) := by decide +kernel
theorem dX7_leftOf_25 : decode cX7_leftOf 25 = .ok (.ireturn, 1) := by decide +kernel
def f_leftOf (F : Nat) (M : MS) (a1 : Int32) : Option (MS × Int32) := caM (f_asksEdge F M a1) fun M2 t3 => (if t3 = 0 then some (M2, 0) else rdI 320 (M2.2.1 15) (2 * a1) fun t5 => rdI 320 (M2.2.1 20) t5 fun t8 => some (M2, t8))
set_option maxRecDepth 100000 in
set_option maxHeartbeats 4000000 in
theorem c_leftOf (l : Launch) (G : mG) (F : Nat) (M M2 : MS) (a1 : Int32) (r : Int32) (h : f_leftOf F M a1 = some (M2, r)) : mMI l yX7_leftOf vX7_leftOf ({ frames := 2, cells := 0, slots := 0, locals := 43 }) G [.ref (mO G), .int a1] M M2 r := by
  refine mBodyI (cc := cX7_leftOf) (maxL := 2) (ret := (some .int)) (by decide) rfl rfl ?_
  intro sz p e s m below meth c hC hP
  have hC0 := hC
  obtain ⟨hx, hb, -, hts, -, -, -, -, -, -⟩ := hC0
  have hS : va_S (mA G sz) s.heap s.heap [] := va_S.rf
  have hin : ∀ w ∈ wsX70, w ∈ vX7_leftOf := fun w h => List.mem_cons_of_mem _ (List.mem_append_right _ h)
  have fl_faceOf := hts _ (List.mem_cons_of_mem _ wm_114)
  have fl_rounds := hts _ (List.mem_cons_of_mem _ wm_97)
  refine m_entry (Nat.le_of_ble_eq_true rfl) (fun ls hl => ?_)
  have hl : lv_has ls 2 [(0, .ref (mO G)), (1, .int a1)] := hl
  unfold f_leftOf at h
  refine lv_aload_n hx hb dX7_leftOf_0 rfl (lv_at hl 0 rfl) ?_
  refine lv_iload_n hx hb dX7_leftOf_1 rfl (lv_at hl 1 rfl) ?_
  obtain ⟨M2, t3, e1, h⟩ := caM_el h
  refine m_VI (As := [.int a1]) (rest := []) hC hP hS (c_asksEdge l G F M M2 a1 t3 e1) (cwV 1 hts (gWM wm_186 wm_187 wm_188 wm_7 wm_184) rfl rfl rfl (by decide +kernel) ⟨Nat.le_of_ble_eq_true rfl, Nat.le_of_ble_eq_true rfl⟩) rfl hl.1 rfl (Nat.le_of_ble_eq_true rfl) dX7_leftOf_2 (fun H locs hP hS => ?_)
  refine lv_if_eq (tgt := 24) hx hb dX7_leftOf_5 (by decide) (fun u4 => ?_) (fun u4 => ?_)
  · have h := ite_t u4 h
    refine lv_iconst (v := 0) hx hb dX7_leftOf_24 (by decide) ?_
    cases h
    exact m_iret hC hP hS rfl dX7_leftOf_25
  · have h := ite_f u4 h
    refine lv_aload_n hx hb dX7_leftOf_8 rfl (lv_at hl 0 rfl) ?_
    refine m_get hC hin hP 20 (by decide) fl_faceOf rfl (v := .ref (mAd G 20)) rfl dX7_leftOf_9 ?_
    refine lv_aload_n hx hb dX7_leftOf_12 rfl (lv_at hl 0 rfl) ?_
    refine m_get hC hin hP 15 (by decide) fl_rounds rfl (v := .ref (mAd G 15)) rfl dX7_leftOf_13 ?_
    refine lv_iconst (v := 2) hx hb dX7_leftOf_16 (by decide) ?_
    refine lv_iload_n hx hb dX7_leftOf_17 rfl (lv_at hl 1 rfl) ?_
    refine lv_imul hx hb dX7_leftOf_18 ?_
    obtain ⟨z6, t5, e7, h⟩ := rdI_el h
    refine m_ild hC hP 13 (N := 320) rfl z6 e7 dX7_leftOf_19 ?_
    obtain ⟨z9, t8, e10, h⟩ := rdI_el h
    refine m_ild hC hP 17 (N := 320) rfl z9 e10 dX7_leftOf_20 ?_
    refine lv_goto (tgt := 25) hx hb dX7_leftOf_21 (by decide) ?_
    cases h
    exact m_iret hC hP hS rfl dX7_leftOf_25

theorem dX7_rightOf_0 : decode cX7_rightOf 0 = .ok (.aload_n 0, 1) := by decide +kernel
theorem dX7_rightOf_1 : decode cX7_rightOf 1 = .ok (.iload_n 1, 1) := by decide +kernel
theorem dX7_rightOf_2 : decode cX7_rightOf 2 = .ok (.invokevirtual 215, 3) := by decide +kernel
theorem dX7_rightOf_5 : decode cX7_rightOf 5 = .ok (.ifCond .eq 21, 3) := by decide +kernel
theorem dX7_rightOf_8 : decode cX7_rightOf 8 = .ok (.aload_n 0, 1) := by decide +kernel
theorem dX7_rightOf_9 : decode cX7_rightOf 9 = .ok (.getfield 60, 3) := by decide +kernel
theorem dX7_rightOf_12 : decode cX7_rightOf 12 = .ok (.aload_n 0, 1) := by decide +kernel
theorem dX7_rightOf_13 : decode cX7_rightOf 13 = .ok (.getfield 47, 3) := by decide +kernel
theorem dX7_rightOf_16 : decode cX7_rightOf 16 = .ok (.iconst 2, 1) := by decide +kernel
theorem dX7_rightOf_17 : decode cX7_rightOf 17 = .ok (.iload_n 1, 1) := by decide +kernel
theorem dX7_rightOf_18 : decode cX7_rightOf 18 = .ok (.imul, 1) := by decide +kernel
theorem dX7_rightOf_19 : decode cX7_rightOf 19 = .ok (.iconst 1, 1) := by decide +kernel
theorem dX7_rightOf_20 : decode cX7_rightOf 20 = .ok (.iadd, 1) := by decide +kernel
theorem dX7_rightOf_21 : decode cX7_rightOf 21 = .ok (.iaload, 1) := by decide +kernel
theorem dX7_rightOf_22 : decode cX7_rightOf 22 = .ok (.iaload, 1) := by decide +kernel
theorem dX7_rightOf_23 : decode cX7_rightOf 23 = .ok (.goto 4, 3) := by decide +kernel
theorem dX7_rightOf_26 : decode cX7_rightOf 26 = .ok (.iconst 0, 1) := by decide +kernel
theorem dX7_rightOf_27 : decode cX7_rightOf 27 = .ok (.ireturn, 1) := by decide +kernel
def f_rightOf (F : Nat) (M : MS) (a1 : Int32) : Option (MS × Int32) := caM (f_asksEdge F M a1) fun M2 t3 => (if t3 = 0 then some (M2, 0) else rdI 320 (M2.2.1 15) ((2 * a1) + 1) fun t5 => rdI 320 (M2.2.1 20) t5 fun t8 => some (M2, t8))
set_option maxRecDepth 100000 in
set_option maxHeartbeats 4000000 in
theorem c_rightOf (l : Launch) (G : mG) (F : Nat) (M M2 : MS) (a1 : Int32) (r : Int32) (h : f_rightOf F M a1 = some (M2, r)) : mMI l yX7_rightOf vX7_rightOf ({ frames := 2, cells := 0, slots := 0, locals := 43 }) G [.ref (mO G), .int a1] M M2 r := by
  refine mBodyI (cc := cX7_rightOf) (maxL := 2) (ret := (some .int)) (by decide) rfl rfl ?_
  intro sz p e s m below meth c hC hP
  have hC0 := hC
  obtain ⟨hx, hb, -, hts, -, -, -, -, -, -⟩ := hC0
  have hS : va_S (mA G sz) s.heap s.heap [] := va_S.rf
  have hin : ∀ w ∈ wsX70, w ∈ vX7_rightOf := fun w h => List.mem_cons_of_mem _ (List.mem_append_right _ h)
  have fl_faceOf := hts _ (List.mem_cons_of_mem _ wm_114)
  have fl_rounds := hts _ (List.mem_cons_of_mem _ wm_97)
  refine m_entry (Nat.le_of_ble_eq_true rfl) (fun ls hl => ?_)
  have hl : lv_has ls 2 [(0, .ref (mO G)), (1, .int a1)] := hl
  unfold f_rightOf at h
  refine lv_aload_n hx hb dX7_rightOf_0 rfl (lv_at hl 0 rfl) ?_
  refine lv_iload_n hx hb dX7_rightOf_1 rfl (lv_at hl 1 rfl) ?_
  obtain ⟨M2, t3, e1, h⟩ := caM_el h
  refine m_VI (As := [.int a1]) (rest := []) hC hP hS (c_asksEdge l G F M M2 a1 t3 e1) (cwV 1 hts (gWM wm_186 wm_187 wm_188 wm_7 wm_184) rfl rfl rfl (by decide +kernel) ⟨Nat.le_of_ble_eq_true rfl, Nat.le_of_ble_eq_true rfl⟩) rfl hl.1 rfl (Nat.le_of_ble_eq_true rfl) dX7_rightOf_2 (fun H locs hP hS => ?_)
  refine lv_if_eq (tgt := 26) hx hb dX7_rightOf_5 (by decide) (fun u4 => ?_) (fun u4 => ?_)
  · have h := ite_t u4 h
    refine lv_iconst (v := 0) hx hb dX7_rightOf_26 (by decide) ?_
    cases h
    exact m_iret hC hP hS rfl dX7_rightOf_27
  · have h := ite_f u4 h
    refine lv_aload_n hx hb dX7_rightOf_8 rfl (lv_at hl 0 rfl) ?_
    refine m_get hC hin hP 20 (by decide) fl_faceOf rfl (v := .ref (mAd G 20)) rfl dX7_rightOf_9 ?_
    refine lv_aload_n hx hb dX7_rightOf_12 rfl (lv_at hl 0 rfl) ?_
    refine m_get hC hin hP 15 (by decide) fl_rounds rfl (v := .ref (mAd G 15)) rfl dX7_rightOf_13 ?_
    refine lv_iconst (v := 2) hx hb dX7_rightOf_16 (by decide) ?_
    refine lv_iload_n hx hb dX7_rightOf_17 rfl (lv_at hl 1 rfl) ?_
    refine lv_imul hx hb dX7_rightOf_18 ?_
    refine lv_iconst (v := 1) hx hb dX7_rightOf_19 (by decide) ?_
    refine lv_iadd hx hb dX7_rightOf_20 ?_
    obtain ⟨z6, t5, e7, h⟩ := rdI_el h
    refine m_ild hC hP 13 (N := 320) rfl z6 e7 dX7_rightOf_21 ?_
    obtain ⟨z9, t8, e10, h⟩ := rdI_el h
    refine m_ild hC hP 17 (N := 320) rfl z9 e10 dX7_rightOf_22 ?_
    refine lv_goto (tgt := 27) hx hb dX7_rightOf_23 (by decide) ?_
    cases h
    exact m_iret hC hP hS rfl dX7_rightOf_27

theorem dX7_asksFace_0 : decode cX7_asksFace 0 = .ok (.aload_n 0, 1) := by decide +kernel
theorem dX7_asksFace_1 : decode cX7_asksFace 1 = .ok (.iload_n 1, 1) := by decide +kernel
theorem dX7_asksFace_2 : decode cX7_asksFace 2 = .ok (.iconst 0, 1) := by decide +kernel
theorem dX7_asksFace_3 : decode cX7_asksFace 3 = .ok (.aload_n 0, 1) := by decide +kernel
theorem dX7_asksFace_4 : decode cX7_asksFace 4 = .ok (.getfield 63, 3) := by decide +kernel
theorem dX7_asksFace_7 : decode cX7_asksFace 7 = .ok (.iconst 1, 1) := by decide +kernel
theorem dX7_asksFace_8 : decode cX7_asksFace 8 = .ok (.isub, 1) := by decide +kernel
theorem dX7_asksFace_9 : decode cX7_asksFace 9 = .ok (.invokestatic 70, 3) := by decide +kernel
theorem dX7_asksFace_12 : decode cX7_asksFace 12 = .ok (.ifCond .eq 7, 3) := by decide +kernel
theorem dX7_asksFace_15 : decode cX7_asksFace 15 = .ok (.iconst 0, 1) := by decide +kernel
theorem dX7_asksFace_16 : decode cX7_asksFace 16 = .ok (.goto 4, 3) := by decide +kernel
theorem dX7_asksFace_19 : decode cX7_asksFace 19 = .ok (.iconst 1, 1) := by decide +kernel
theorem dX7_asksFace_20 : decode cX7_asksFace 20 = .ok (.invokevirtual 107, 3) := by decide +kernel
theorem dX7_asksFace_23 : decode cX7_asksFace 23 = .ok (.ireturn, 1) := by decide +kernel
def f_asksFace_b20 (F : Nat) (M : MS) (s0 : Int32) : Option (MS × Int32) := caM (f_goes F M s0) fun M2 t3 => okB t3 (some (M2, t3))
def f_asksFace (F : Nat) (M : MS) (a1 : Int32) : Option (MS × Int32) := cal (f_isIn F M a1 0 ((M.1 21) - 1)) fun t2 => (if t2 = 0 then f_asksFace_b20 F M 1 else f_asksFace_b20 F M 0)
set_option maxRecDepth 100000 in
set_option maxHeartbeats 4000000 in
theorem c_asksFace (l : Launch) (G : mG) (F : Nat) (M M2 : MS) (a1 : Int32) (r : Int32) (h : f_asksFace F M a1 = some (M2, r)) : mMI l yX7_asksFace vX7_asksFace ({ frames := 1, cells := 0, slots := 0, locals := 22 }) G [.ref (mO G), .int a1] M M2 r := by
  refine mBodyI (cc := cX7_asksFace) (maxL := 2) (ret := (some .boolean)) (by decide) rfl rfl ?_
  intro sz p e s m below meth c hC hP
  have hC0 := hC
  obtain ⟨hx, hb, -, hts, -, -, -, -, -, -⟩ := hC0
  have hS : va_S (mA G sz) s.heap s.heap [] := va_S.rf
  have hin : ∀ w ∈ wsX70, w ∈ vX7_asksFace := fun w h => List.mem_cons_of_mem _ (List.mem_append_right _ h)
  have fl_faces := hts _ (List.mem_cons_of_mem _ wm_126)
  have b20 : ∀ (H : Heap) (locs : List Loc) (ls : Array Slot) (M : MS) (s0 : Int32), va_P G.1 vwCl (mW G M) H → va_S (mA G sz) s.heap H locs → lv_has ls 2 [(0, .ref (mO G))] → f_asksFace_b20 F M s0 = some (M2, r) → W p l e (headSpec vX7_asksFace ({ frames := 1, cells := 0, slots := 0, locals := 22 })).room s m ([.ref (mO G), .int a1] : List Value).toArray below meth c H locs 0 0 (mQI below G M2 sz ([.ref (mO G), .int a1] : List Value).toArray s r) (F0 m 20 ls [.int s0, .ref (mO G)]) := by
    intro H locs ls M s0 hP hS hl h
    unfold f_asksFace_b20 at h
    obtain ⟨M2, t3, e1, h⟩ := caM_el h
    refine m_VI (As := [.int s0]) (rest := []) hC hP hS (c_goes l G F M M2 s0 t3 e1) (cwV 1 hts (gWM wm_155 wm_156 wm_157 wm_7 wm_2) rfl rfl rfl (by decide +kernel) ⟨Nat.le_of_ble_eq_true rfl, Nat.le_of_ble_eq_true rfl⟩) rfl hl.1 rfl (Nat.le_of_ble_eq_true rfl) dX7_asksFace_20 (fun H locs hP hS => ?_)
    obtain ⟨z4, h⟩ := okB_el h
    cases h
    exact m_zret hC hP hS z4 rfl dX7_asksFace_23
  refine m_entry (Nat.le_of_ble_eq_true rfl) (fun ls hl => ?_)
  have hl : lv_has ls 2 [(0, .ref (mO G)), (1, .int a1)] := hl
  unfold f_asksFace at h
  refine lv_aload_n hx hb dX7_asksFace_0 rfl (lv_at hl 0 rfl) ?_
  refine lv_iload_n hx hb dX7_asksFace_1 rfl (lv_at hl 1 rfl) ?_
  refine lv_iconst (v := 0) hx hb dX7_asksFace_2 (by decide) ?_
  refine lv_aload_n hx hb dX7_asksFace_3 rfl (lv_at hl 0 rfl) ?_
  refine m_get hC hin hP 21 (by decide) fl_faces rfl (v := .int (M.1 21)) rfl dX7_asksFace_4 ?_
  refine lv_iconst (v := 1) hx hb dX7_asksFace_7 (by decide) ?_
  refine lv_isub hx hb dX7_asksFace_8 ?_
  obtain ⟨t2, e1, h⟩ := cal_el h
  refine m_SI (As := [.int a1, .int 0, .int ((M.1 21) - 1)]) (rest := [.ref (mO G)]) hC hP hS (c_isIn l G F M a1 0 ((M.1 21) - 1) t2 e1) (va_cwS 3 hts (gWMS wm_5 wm_6 wm_7 wm_3) rfl rfl rfl (by decide +kernel) ⟨Nat.le_of_ble_eq_true rfl, Nat.le_of_ble_eq_true rfl⟩) rfl hl.1 rfl (Nat.le_of_ble_eq_true rfl) dX7_asksFace_9 (fun H locs hP hS => ?_)
  refine lv_if_eq (tgt := 19) hx hb dX7_asksFace_12 (by decide) (fun u3 => ?_) (fun u3 => ?_)
  · have h := ite_t u3 h
    refine lv_iconst (v := 1) hx hb dX7_asksFace_19 (by decide) ?_
    exact b20 _ _ _ M 1 hP hS (lv_sub hl [0] rfl) h
  · have h := ite_f u3 h
    refine lv_iconst (v := 0) hx hb dX7_asksFace_15 (by decide) ?_
    refine lv_goto (tgt := 20) hx hb dX7_asksFace_16 (by decide) ?_
    exact b20 _ _ _ M 0 hP hS (lv_sub hl [0] rfl) h

theorem dX7_sides_0 : decode cX7_sides 0 = .ok (.iconst 0, 1) := by decide +kernel
theorem dX7_sides_1 : decode cX7_sides 1 = .ok (.istore_n 2, 1) := by decide +kernel
theorem dX7_sides_2 : decode cX7_sides 2 = .ok (.aload_n 0, 1) := by decide +kernel
theorem dX7_sides_3 : decode cX7_sides 3 = .ok (.iload_n 1, 1) := by decide +kernel
theorem dX7_sides_4 : decode cX7_sides 4 = .ok (.invokevirtual 218, 3) := by decide +kernel
theorem dX7_sides_7 : decode cX7_sides 7 = .ok (.istore_n 3, 1) := by decide +kernel
theorem dX7_sides_8 : decode cX7_sides 8 = .ok (.iconst 0, 1) := by decide +kernel
theorem dX7_sides_9 : decode cX7_sides 9 = .ok (.istore 4, 2) := by decide +kernel
theorem dX7_sides_11 : decode cX7_sides 11 = .ok (.iload 4, 2) := by decide +kernel
theorem dX7_sides_13 : decode cX7_sides 13 = .ok (.iconst 2, 1) := by decide +kernel
theorem dX7_sides_14 : decode cX7_sides 14 = .ok (.aload_n 0, 1) := by decide +kernel
theorem dX7_sides_15 : decode cX7_sides 15 = .ok (.getfield 138, 3) := by decide +kernel
theorem dX7_sides_18 : decode cX7_sides 18 = .ok (.imul, 1) := by decide +kernel
theorem dX7_sides_19 : decode cX7_sides 19 = .ok (.if_icmp .ge 37, 3) := by decide +kernel
theorem dX7_sides_22 : decode cX7_sides 22 = .ok (.iload_n 3, 1) := by decide +kernel
theorem dX7_sides_23 : decode cX7_sides 23 = .ok (.ifCond .eq 33, 3) := by decide +kernel
theorem dX7_sides_26 : decode cX7_sides 26 = .ok (.iload_n 2, 1) := by decide +kernel
theorem dX7_sides_27 : decode cX7_sides 27 = .ok (.aload_n 0, 1) := by decide +kernel
theorem dX7_sides_28 : decode cX7_sides 28 = .ok (.getfield 60, 3) := by decide +kernel
theorem dX7_sides_31 : decode cX7_sides 31 = .ok (.aload_n 0, 1) := by decide +kernel
theorem dX7_sides_32 : decode cX7_sides 32 = .ok (.getfield 47, 3) := by decide +kernel
theorem dX7_sides_35 : decode cX7_sides 35 = .ok (.iload 4, 2) := by decide +kernel
theorem dX7_sides_37 : decode cX7_sides 37 = .ok (.iaload, 1) := by decide +kernel
theorem dX7_sides_38 : decode cX7_sides 38 = .ok (.iaload, 1) := by decide +kernel
theorem dX7_sides_39 : decode cX7_sides 39 = .ok (.iload_n 1, 1) := by decide +kernel
theorem dX7_sides_40 : decode cX7_sides 40 = .ok (.if_icmp .ne 7, 3) := by decide +kernel
theorem dX7_sides_43 : decode cX7_sides 43 = .ok (.iconst 1, 1) := by decide +kernel
theorem dX7_sides_44 : decode cX7_sides 44 = .ok (.goto 4, 3) := by decide +kernel
theorem dX7_sides_47 : decode cX7_sides 47 = .ok (.iconst 0, 1) := by decide +kernel
theorem dX7_sides_48 : decode cX7_sides 48 = .ok (.iadd, 1) := by decide +kernel
theorem dX7_sides_49 : decode cX7_sides 49 = .ok (.istore_n 2, 1) := by decide +kernel
theorem dX7_sides_50 : decode cX7_sides 50 = .ok (.iinc 4 1, 3) := by decide +kernel
theorem dX7_sides_53 : decode cX7_sides 53 = .ok (.goto (-42), 3) := by decide +kernel
theorem dX7_sides_56 : decode cX7_sides 56 = .ok (.iload_n 2, 1) := by decide +kernel
theorem dX7_sides_57 : decode cX7_sides 57 = .ok (.ireturn, 1) := by decide +kernel
def f_sides_b48 (F : Nat) (k11 : MS → Int32 → Int32 → Int32 → Int32 → Option (MS × Int32)) (M : MS) (x1 : Int32) (x3 : Int32) (x4 : Int32) (s0 : Int32) (s1 : Int32) : Option (MS × Int32) := k11 M x1 (s1 + s0) x3 (x4 + 1)
def f_sides_L11 (F : Nat) : Nat → MS → Int32 → Int32 → Int32 → Int32 → Option (MS × Int32)
  | 0, _, _, _, _, _ => none
  | n11 + 1, M, x1, x2, x3, x4 => (if (2 * (M.1 11)) ≤ x4 then some (M, x2) else (if x3 = 0 then some (M, x2) else rdI 320 (M.2.1 15) x4 fun t3 => rdI 320 (M.2.1 20) t3 fun t6 => (if t6 = x1 then f_sides_b48 F ((f_sides_L11 F n11)) M x1 x3 x4 1 x2 else f_sides_b48 F ((f_sides_L11 F n11)) M x1 x3 x4 0 x2)))
def f_sides (F : Nat) (M : MS) (a1 : Int32) : Option (MS × Int32) := caM (f_asksFace F M a1) fun M2 t3 => f_sides_L11 F F M2 a1 0 t3 0
set_option maxRecDepth 100000 in
set_option maxHeartbeats 4000000 in
theorem c_sides (l : Launch) (G : mG) (F : Nat) (M M2 : MS) (a1 : Int32) (r : Int32) (h : f_sides F M a1 = some (M2, r)) : mMI l yX7_sides vX7_sides ({ frames := 2, cells := 0, slots := 0, locals := 43 }) G [.ref (mO G), .int a1] M M2 r := by
  refine mBodyI (cc := cX7_sides) (maxL := 5) (ret := (some .int)) (by decide) rfl rfl ?_
  intro sz p e s m below meth c hC hP
  have hC0 := hC
  obtain ⟨hx, hb, -, hts, -, -, -, -, -, -⟩ := hC0
  have hS : va_S (mA G sz) s.heap s.heap [] := va_S.rf
  have hin : ∀ w ∈ wsX70, w ∈ vX7_sides := fun w h => List.mem_cons_of_mem _ (List.mem_append_right _ h)
  have fl_edges := hts _ (List.mem_cons_of_mem _ wm_62)
  have fl_faceOf := hts _ (List.mem_cons_of_mem _ wm_114)
  have fl_rounds := hts _ (List.mem_cons_of_mem _ wm_97)
  have L11 : ∀ (n11 : Nat) (H : Heap) (locs : List Loc) (ls : Array Slot) (M : MS) (x1 : Int32) (x2 : Int32) (x3 : Int32) (x4 : Int32), va_P G.1 vwCl (mW G M) H → va_S (mA G sz) s.heap H locs → lv_has ls 5 [(0, .ref (mO G)), (1, .int x1), (2, .int x2), (3, .int x3), (4, .int x4)] → f_sides_L11 F n11 M x1 x2 x3 x4 = some (M2, r) → W p l e (headSpec vX7_sides ({ frames := 2, cells := 0, slots := 0, locals := 43 })).room s m ([.ref (mO G), .int a1] : List Value).toArray below meth c H locs 0 0 (mQI below G M2 sz ([.ref (mO G), .int a1] : List Value).toArray s r) (F0 m 11 ls []) := by
    intro n11
    induction n11 with
    | zero =>
      intro H locs ls M x1 x2 x3 x4 hP hS hl h
      rw [f_sides_L11] at h; cases h
    | succ n11 ih11 =>
      have b48 : ∀ (H : Heap) (locs : List Loc) (ls : Array Slot) (M : MS) (x1 : Int32) (x3 : Int32) (x4 : Int32) (s0 : Int32) (s1 : Int32), va_P G.1 vwCl (mW G M) H → va_S (mA G sz) s.heap H locs → lv_has ls 5 [(0, .ref (mO G)), (1, .int x1), (3, .int x3), (4, .int x4)] → f_sides_b48 F ((f_sides_L11 F n11)) M x1 x3 x4 s0 s1 = some (M2, r) → W p l e (headSpec vX7_sides ({ frames := 2, cells := 0, slots := 0, locals := 43 })).room s m ([.ref (mO G), .int a1] : List Value).toArray below meth c H locs 0 0 (mQI below G M2 sz ([.ref (mO G), .int a1] : List Value).toArray s r) (F0 m 48 ls [.int s0, .int s1]) := by
        intro H locs ls M x1 x3 x4 s0 s1 hP hS hl h
        unfold f_sides_b48 at h
        refine lv_iadd hx hb dX7_sides_48 ?_
        refine lv_istore_n (lv' := [(2, .int (s1 + s0)), (0, .ref (mO G)), (1, .int x1), (3, .int x3), (4, .int x4)]) hx hb dX7_sides_49 rfl hl (by decide) rfl (fun ls hl => ?_)
        refine lv_iinc (v := x4 + 1) (lv' := [(4, .int (x4 + 1)), (2, .int (s1 + s0)), (0, .ref (mO G)), (1, .int x1), (3, .int x3)]) hx hb dX7_sides_50 hl (k := 4) rfl rfl (by decide) rfl (fun ls hl => ?_)
        refine lv_goto (tgt := 11) hx hb dX7_sides_53 (by decide) ?_
        exact ih11 _ _ _ M x1 (s1 + s0) x3 (x4 + 1) hP hS (lv_sub hl [2, 3, 1, 4, 0] rfl) h
      intro H locs ls M x1 x2 x3 x4 hP hS hl h
      rw [f_sides_L11] at h
      refine lv_iload hx hb dX7_sides_11 (lv_at hl 4 rfl) ?_
      refine lv_iconst (v := 2) hx hb dX7_sides_13 (by decide) ?_
      refine lv_aload_n hx hb dX7_sides_14 rfl (lv_at hl 0 rfl) ?_
      refine m_get hC hin hP 11 (by decide) fl_edges rfl (v := .int (M.1 11)) rfl dX7_sides_15 ?_
      refine lv_imul hx hb dX7_sides_18 ?_
      refine lv_icmp_ge (tgt := 56) hx hb dX7_sides_19 (by decide) (fun u1 => ?_) (fun u1 => ?_)
      · have h := ite_t u1 h
        refine lv_iload_n hx hb dX7_sides_56 rfl (lv_at hl 2 rfl) ?_
        cases h
        exact m_iret hC hP hS rfl dX7_sides_57
      · have h := ite_f u1 h
        refine lv_iload_n hx hb dX7_sides_22 rfl (lv_at hl 3 rfl) ?_
        refine lv_if_eq (tgt := 56) hx hb dX7_sides_23 (by decide) (fun u2 => ?_) (fun u2 => ?_)
        · have h := ite_t u2 h
          refine lv_iload_n hx hb dX7_sides_56 rfl (lv_at hl 2 rfl) ?_
          cases h
          exact m_iret hC hP hS rfl dX7_sides_57
        · have h := ite_f u2 h
          refine lv_iload_n hx hb dX7_sides_26 rfl (lv_at hl 2 rfl) ?_
          refine lv_aload_n hx hb dX7_sides_27 rfl (lv_at hl 0 rfl) ?_
          refine m_get hC hin hP 20 (by decide) fl_faceOf rfl (v := .ref (mAd G 20)) rfl dX7_sides_28 ?_
          refine lv_aload_n hx hb dX7_sides_31 rfl (lv_at hl 0 rfl) ?_
          refine m_get hC hin hP 15 (by decide) fl_rounds rfl (v := .ref (mAd G 15)) rfl dX7_sides_32 ?_
          refine lv_iload hx hb dX7_sides_35 (lv_at hl 4 rfl) ?_
          obtain ⟨z4, t3, e5, h⟩ := rdI_el h
          refine m_ild hC hP 13 (N := 320) rfl z4 e5 dX7_sides_37 ?_
          obtain ⟨z7, t6, e8, h⟩ := rdI_el h
          refine m_ild hC hP 17 (N := 320) rfl z7 e8 dX7_sides_38 ?_
          refine lv_iload_n hx hb dX7_sides_39 rfl (lv_at hl 1 rfl) ?_
          refine lv_icmp_ne (tgt := 47) hx hb dX7_sides_40 (by decide) (fun u9 => ?_) (fun u9 => ?_)
          · have h := ite_f u9 h
            refine lv_iconst (v := 0) hx hb dX7_sides_47 (by decide) ?_
            exact b48 _ _ _ M x1 x3 x4 0 x2 hP hS (lv_sub hl [0, 1, 3, 4] rfl) h
          · have h := ite_t u9 h
            refine lv_iconst (v := 1) hx hb dX7_sides_43 (by decide) ?_
            refine lv_goto (tgt := 48) hx hb dX7_sides_44 (by decide) ?_
            exact b48 _ _ _ M x1 x3 x4 1 x2 hP hS (lv_sub hl [0, 1, 3, 4] rfl) h
  refine m_entry (Nat.le_of_ble_eq_true rfl) (fun ls hl => ?_)
  have hl : lv_has ls 5 [(0, .ref (mO G)), (1, .int a1)] := hl
  unfold f_sides at h
  refine lv_iconst (v := 0) hx hb dX7_sides_0 (by decide) ?_
  refine lv_istore_n (lv' := [(2, .int 0), (0, .ref (mO G)), (1, .int a1)]) hx hb dX7_sides_1 rfl hl (by decide) rfl (fun ls hl => ?_)
  refine lv_aload_n hx hb dX7_sides_2 rfl (lv_at hl 1 rfl) ?_
  refine lv_iload_n hx hb dX7_sides_3 rfl (lv_at hl 2 rfl) ?_
  obtain ⟨M2, t3, e1, h⟩ := caM_el h
  refine m_VI (As := [.int a1]) (rest := []) hC hP hS (c_asksFace l G F M M2 a1 t3 e1) (cwV 1 hts (gWM wm_195 wm_196 wm_197 wm_7 wm_193) rfl rfl rfl (by decide +kernel) ⟨Nat.le_of_ble_eq_true rfl, Nat.le_of_ble_eq_true rfl⟩) rfl hl.1 rfl (Nat.le_of_ble_eq_true rfl) dX7_sides_4 (fun H locs hP hS => ?_)
  refine lv_istore_n (lv' := [(3, .int t3), (2, .int 0), (0, .ref (mO G)), (1, .int a1)]) hx hb dX7_sides_7 rfl hl (by decide) rfl (fun ls hl => ?_)
  refine lv_iconst (v := 0) hx hb dX7_sides_8 (by decide) ?_
  refine lv_istore (lv' := [(4, .int 0), (3, .int t3), (2, .int 0), (0, .ref (mO G)), (1, .int a1)]) hx hb dX7_sides_9 hl (by decide) rfl (fun ls hl => ?_)
  exact L11 F _ _ _ M2 a1 0 t3 0 hP hS (lv_sub hl [3, 4, 2, 1, 0] rfl) h

theorem dX7_firstVertex_0 : decode cX7_firstVertex 0 = .ok (.iconst (-1), 1) := by decide +kernel
theorem dX7_firstVertex_1 : decode cX7_firstVertex 1 = .ok (.istore_n 2, 1) := by decide +kernel
theorem dX7_firstVertex_2 : decode cX7_firstVertex 2 = .ok (.aload_n 0, 1) := by decide +kernel
theorem dX7_firstVertex_3 : decode cX7_firstVertex 3 = .ok (.iload_n 1, 1) := by decide +kernel
theorem dX7_firstVertex_4 : decode cX7_firstVertex 4 = .ok (.invokevirtual 218, 3) := by decide +kernel
theorem dX7_firstVertex_7 : decode cX7_firstVertex 7 = .ok (.istore_n 3, 1) := by decide +kernel
theorem dX7_firstVertex_8 : decode cX7_firstVertex 8 = .ok (.iconst 0, 1) := by decide +kernel
theorem dX7_firstVertex_9 : decode cX7_firstVertex 9 = .ok (.istore 4, 2) := by decide +kernel
theorem dX7_firstVertex_11 : decode cX7_firstVertex 11 = .ok (.iload 4, 2) := by decide +kernel
theorem dX7_firstVertex_13 : decode cX7_firstVertex 13 = .ok (.aload_n 0, 1) := by decide +kernel
theorem dX7_firstVertex_14 : decode cX7_firstVertex 14 = .ok (.getfield 162, 3) := by decide +kernel
theorem dX7_firstVertex_17 : decode cX7_firstVertex 17 = .ok (.if_icmp .ge 46, 3) := by decide +kernel
theorem dX7_firstVertex_20 : decode cX7_firstVertex 20 = .ok (.iload_n 3, 1) := by decide +kernel
theorem dX7_firstVertex_21 : decode cX7_firstVertex 21 = .ok (.ifCond .eq 42, 3) := by decide +kernel
theorem dX7_firstVertex_24 : decode cX7_firstVertex 24 = .ok (.aload_n 0, 1) := by decide +kernel
theorem dX7_firstVertex_25 : decode cX7_firstVertex 25 = .ok (.getfield 56, 3) := by decide +kernel
theorem dX7_firstVertex_28 : decode cX7_firstVertex 28 = .ok (.iload 4, 2) := by decide +kernel
theorem dX7_firstVertex_30 : decode cX7_firstVertex 30 = .ok (.baload, 1) := by decide +kernel
theorem dX7_firstVertex_31 : decode cX7_firstVertex 31 = .ok (.ifCond .ne 24, 3) := by decide +kernel
theorem dX7_firstVertex_34 : decode cX7_firstVertex 34 = .ok (.aload_n 0, 1) := by decide +kernel
theorem dX7_firstVertex_35 : decode cX7_firstVertex 35 = .ok (.getfield 60, 3) := by decide +kernel
theorem dX7_firstVertex_38 : decode cX7_firstVertex 38 = .ok (.iload 4, 2) := by decide +kernel
theorem dX7_firstVertex_40 : decode cX7_firstVertex 40 = .ok (.iaload, 1) := by decide +kernel
theorem dX7_firstVertex_41 : decode cX7_firstVertex 41 = .ok (.iload_n 1, 1) := by decide +kernel
theorem dX7_firstVertex_42 : decode cX7_firstVertex 42 = .ok (.if_icmp .ne 13, 3) := by decide +kernel
theorem dX7_firstVertex_45 : decode cX7_firstVertex 45 = .ok (.aload_n 0, 1) := by decide +kernel
theorem dX7_firstVertex_46 : decode cX7_firstVertex 46 = .ok (.getfield 50, 3) := by decide +kernel
theorem dX7_firstVertex_49 : decode cX7_firstVertex 49 = .ok (.iload 4, 2) := by decide +kernel
theorem dX7_firstVertex_51 : decode cX7_firstVertex 51 = .ok (.iaload, 1) := by decide +kernel
theorem dX7_firstVertex_52 : decode cX7_firstVertex 52 = .ok (.goto 4, 3) := by decide +kernel
theorem dX7_firstVertex_55 : decode cX7_firstVertex 55 = .ok (.iload_n 2, 1) := by decide +kernel
theorem dX7_firstVertex_56 : decode cX7_firstVertex 56 = .ok (.istore_n 2, 1) := by decide +kernel
theorem dX7_firstVertex_57 : decode cX7_firstVertex 57 = .ok (.iinc 4 1, 3) := by decide +kernel
theorem dX7_firstVertex_60 : decode cX7_firstVertex 60 = .ok (.goto (-49), 3) := by decide +kernel
theorem dX7_firstVertex_63 : decode cX7_firstVertex 63 = .ok (.iload_n 3, 1) := by decide +kernel
theorem dX7_firstVertex_64 : decode cX7_firstVertex 64 = .ok (.ifCond .eq 7, 3) := by decide +kernel
theorem dX7_firstVertex_67 : decode cX7_firstVertex 67 = .ok (.iload_n 2, 1) := by decide +kernel
theorem dX7_firstVertex_68 : decode cX7_firstVertex 68 = .ok (.goto 4, 3) := by decide +kernel
theorem dX7_firstVertex_71 : decode cX7_firstVertex 71 = .ok (.iconst 0, 1) := by decide +kernel
theorem dX7_firstVertex_72 : decode cX7_firstVertex 72 = .ok (.ireturn, 1) := by decide +kernel
def f_firstVertex_b63 (F : Nat) (M : MS) (x2 : Int32) (x3 : Int32) : Option (MS × Int32) := (if x3 = 0 then some (M, 0) else some (M, x2))
def f_firstVertex_b56 (F : Nat) (k11 : MS → Int32 → Int32 → Int32 → Int32 → Option (MS × Int32)) (M : MS) (x1 : Int32) (x3 : Int32) (x4 : Int32) (s0 : Int32) : Option (MS × Int32) := k11 M x1 s0 x3 (x4 + 1)
def f_firstVertex_L11 (F : Nat) : Nat → MS → Int32 → Int32 → Int32 → Int32 → Option (MS × Int32)
  | 0, _, _, _, _, _ => none
  | n11 + 1, M, x1, x2, x3, x4 => (if (M.1 16) ≤ x4 then f_firstVertex_b63 F M x2 x3 else (if x3 = 0 then f_firstVertex_b63 F M x2 x3 else rdI 320 (M.2.1 19) x4 fun t3 => (if t3 = 0 then rdI 320 (M.2.1 20) x4 fun t7 => (if t7 = x1 then rdI 320 (M.2.1 17) x4 fun t11 => f_firstVertex_b56 F ((f_firstVertex_L11 F n11)) M x1 x3 x4 t11 else f_firstVertex_b56 F ((f_firstVertex_L11 F n11)) M x1 x3 x4 x2) else f_firstVertex_b56 F ((f_firstVertex_L11 F n11)) M x1 x3 x4 x2)))
def f_firstVertex (F : Nat) (M : MS) (a1 : Int32) : Option (MS × Int32) := caM (f_asksFace F M a1) fun M2 t3 => f_firstVertex_L11 F F M2 a1 ((-1)) t3 0
set_option maxRecDepth 100000 in
set_option maxHeartbeats 4000000 in
theorem c_firstVertex (l : Launch) (G : mG) (F : Nat) (M M2 : MS) (a1 : Int32) (r : Int32) (h : f_firstVertex F M a1 = some (M2, r)) : mMI l yX7_firstVertex vX7_firstVertex ({ frames := 2, cells := 0, slots := 0, locals := 43 }) G [.ref (mO G), .int a1] M M2 r := by
  refine mBodyI (cc := cX7_firstVertex) (maxL := 5) (ret := (some .int)) (by decide) rfl rfl ?_
  intro sz p e s m below meth c hC hP
  have hC0 := hC
  obtain ⟨hx, hb, -, hts, -, -, -, -, -, -⟩ := hC0
  have hS : va_S (mA G sz) s.heap s.heap [] := va_S.rf
  have hin : ∀ w ∈ wsX70, w ∈ vX7_firstVertex := fun w h => List.mem_cons_of_mem _ (List.mem_append_right _ h)
  have fl_many := hts _ (List.mem_cons_of_mem _ wm_94)
  have fl_isAround := hts _ (List.mem_cons_of_mem _ wm_96)
  have fl_faceOf := hts _ (List.mem_cons_of_mem _ wm_114)
  have fl_lowests := hts _ (List.mem_cons_of_mem _ wm_93)
  have b63 : ∀ (H : Heap) (locs : List Loc) (ls : Array Slot) (M : MS) (x2 : Int32) (x3 : Int32), va_P G.1 vwCl (mW G M) H → va_S (mA G sz) s.heap H locs → lv_has ls 5 [(0, .ref (mO G)), (2, .int x2), (3, .int x3)] → f_firstVertex_b63 F M x2 x3 = some (M2, r) → W p l e (headSpec vX7_firstVertex ({ frames := 2, cells := 0, slots := 0, locals := 43 })).room s m ([.ref (mO G), .int a1] : List Value).toArray below meth c H locs 0 0 (mQI below G M2 sz ([.ref (mO G), .int a1] : List Value).toArray s r) (F0 m 63 ls []) := by
    intro H locs ls M x2 x3 hP hS hl h
    unfold f_firstVertex_b63 at h
    refine lv_iload_n hx hb dX7_firstVertex_63 rfl (lv_at hl 2 rfl) ?_
    refine lv_if_eq (tgt := 71) hx hb dX7_firstVertex_64 (by decide) (fun u1 => ?_) (fun u1 => ?_)
    · have h := ite_t u1 h
      refine lv_iconst (v := 0) hx hb dX7_firstVertex_71 (by decide) ?_
      cases h
      exact m_iret hC hP hS rfl dX7_firstVertex_72
    · have h := ite_f u1 h
      refine lv_iload_n hx hb dX7_firstVertex_67 rfl (lv_at hl 1 rfl) ?_
      refine lv_goto (tgt := 72) hx hb dX7_firstVertex_68 (by decide) ?_
      cases h
      exact m_iret hC hP hS rfl dX7_firstVertex_72
  have L11 : ∀ (n11 : Nat) (H : Heap) (locs : List Loc) (ls : Array Slot) (M : MS) (x1 : Int32) (x2 : Int32) (x3 : Int32) (x4 : Int32), va_P G.1 vwCl (mW G M) H → va_S (mA G sz) s.heap H locs → lv_has ls 5 [(0, .ref (mO G)), (1, .int x1), (2, .int x2), (3, .int x3), (4, .int x4)] → f_firstVertex_L11 F n11 M x1 x2 x3 x4 = some (M2, r) → W p l e (headSpec vX7_firstVertex ({ frames := 2, cells := 0, slots := 0, locals := 43 })).room s m ([.ref (mO G), .int a1] : List Value).toArray below meth c H locs 0 0 (mQI below G M2 sz ([.ref (mO G), .int a1] : List Value).toArray s r) (F0 m 11 ls []) := by
    intro n11
    induction n11 with
    | zero =>
      intro H locs ls M x1 x2 x3 x4 hP hS hl h
      rw [f_firstVertex_L11] at h; cases h
    | succ n11 ih11 =>
      have b56 : ∀ (H : Heap) (locs : List Loc) (ls : Array Slot) (M : MS) (x1 : Int32) (x3 : Int32) (x4 : Int32) (s0 : Int32), va_P G.1 vwCl (mW G M) H → va_S (mA G sz) s.heap H locs → lv_has ls 5 [(0, .ref (mO G)), (1, .int x1), (3, .int x3), (4, .int x4)] → f_firstVertex_b56 F ((f_firstVertex_L11 F n11)) M x1 x3 x4 s0 = some (M2, r) → W p l e (headSpec vX7_firstVertex ({ frames := 2, cells := 0, slots := 0, locals := 43 })).room s m ([.ref (mO G), .int a1] : List Value).toArray below meth c H locs 0 0 (mQI below G M2 sz ([.ref (mO G), .int a1] : List Value).toArray s r) (F0 m 56 ls [.int s0]) := by
        intro H locs ls M x1 x3 x4 s0 hP hS hl h
        unfold f_firstVertex_b56 at h
        refine lv_istore_n (lv' := [(2, .int s0), (0, .ref (mO G)), (1, .int x1), (3, .int x3), (4, .int x4)]) hx hb dX7_firstVertex_56 rfl hl (by decide) rfl (fun ls hl => ?_)
        refine lv_iinc (v := x4 + 1) (lv' := [(4, .int (x4 + 1)), (2, .int s0), (0, .ref (mO G)), (1, .int x1), (3, .int x3)]) hx hb dX7_firstVertex_57 hl (k := 4) rfl rfl (by decide) rfl (fun ls hl => ?_)
        refine lv_goto (tgt := 11) hx hb dX7_firstVertex_60 (by decide) ?_
        exact ih11 _ _ _ M x1 s0 x3 (x4 + 1) hP hS (lv_sub hl [2, 3, 1, 4, 0] rfl) h
      intro H locs ls M x1 x2 x3 x4 hP hS hl h
      rw [f_firstVertex_L11] at h
      refine lv_iload hx hb dX7_firstVertex_11 (lv_at hl 4 rfl) ?_
      refine lv_aload_n hx hb dX7_firstVertex_13 rfl (lv_at hl 0 rfl) ?_
      refine m_get hC hin hP 16 (by decide) fl_many rfl (v := .int (M.1 16)) rfl dX7_firstVertex_14 ?_
      refine lv_icmp_ge (tgt := 63) hx hb dX7_firstVertex_17 (by decide) (fun u1 => ?_) (fun u1 => ?_)
      · have h := ite_t u1 h
        exact b63 _ _ _ M x2 x3 hP hS (lv_sub hl [0, 2, 3] rfl) h
      · have h := ite_f u1 h
        refine lv_iload_n hx hb dX7_firstVertex_20 rfl (lv_at hl 3 rfl) ?_
        refine lv_if_eq (tgt := 63) hx hb dX7_firstVertex_21 (by decide) (fun u2 => ?_) (fun u2 => ?_)
        · have h := ite_t u2 h
          exact b63 _ _ _ M x2 x3 hP hS (lv_sub hl [0, 2, 3] rfl) h
        · have h := ite_f u2 h
          refine lv_aload_n hx hb dX7_firstVertex_24 rfl (lv_at hl 0 rfl) ?_
          refine m_get hC hin hP 19 (by decide) fl_isAround rfl (v := .ref (mAd G 19)) rfl dX7_firstVertex_25 ?_
          refine lv_iload hx hb dX7_firstVertex_28 (lv_at hl 4 rfl) ?_
          obtain ⟨z4, t3, e5, h⟩ := rdI_el h
          refine m_zld hC hP 16 (N := 320) rfl z4 e5 dX7_firstVertex_30 ?_
          refine lv_if_ne (tgt := 55) hx hb dX7_firstVertex_31 (by decide) (fun u6 => ?_) (fun u6 => ?_)
          · have h := ite_f u6 h
            refine lv_iload_n hx hb dX7_firstVertex_55 rfl (lv_at hl 2 rfl) ?_
            exact b56 _ _ _ M x1 x3 x4 x2 hP hS (lv_sub hl [0, 1, 3, 4] rfl) h
          · have h := ite_t u6 h
            refine lv_aload_n hx hb dX7_firstVertex_34 rfl (lv_at hl 0 rfl) ?_
            refine m_get hC hin hP 20 (by decide) fl_faceOf rfl (v := .ref (mAd G 20)) rfl dX7_firstVertex_35 ?_
            refine lv_iload hx hb dX7_firstVertex_38 (lv_at hl 4 rfl) ?_
            obtain ⟨z8, t7, e9, h⟩ := rdI_el h
            refine m_ild hC hP 17 (N := 320) rfl z8 e9 dX7_firstVertex_40 ?_
            refine lv_iload_n hx hb dX7_firstVertex_41 rfl (lv_at hl 1 rfl) ?_
            refine lv_icmp_ne (tgt := 55) hx hb dX7_firstVertex_42 (by decide) (fun u10 => ?_) (fun u10 => ?_)
            · have h := ite_f u10 h
              refine lv_iload_n hx hb dX7_firstVertex_55 rfl (lv_at hl 2 rfl) ?_
              exact b56 _ _ _ M x1 x3 x4 x2 hP hS (lv_sub hl [0, 1, 3, 4] rfl) h
            · have h := ite_t u10 h
              refine lv_aload_n hx hb dX7_firstVertex_45 rfl (lv_at hl 0 rfl) ?_
              refine m_get hC hin hP 17 (by decide) fl_lowests rfl (v := .ref (mAd G 17)) rfl dX7_firstVertex_46 ?_
              refine lv_iload hx hb dX7_firstVertex_49 (lv_at hl 4 rfl) ?_
              obtain ⟨z12, t11, e13, h⟩ := rdI_el h
              refine m_ild hC hP 14 (N := 320) rfl z12 e13 dX7_firstVertex_51 ?_
              refine lv_goto (tgt := 56) hx hb dX7_firstVertex_52 (by decide) ?_
              exact b56 _ _ _ M x1 x3 x4 t11 hP hS (lv_sub hl [0, 1, 3, 4] rfl) h
  refine m_entry (Nat.le_of_ble_eq_true rfl) (fun ls hl => ?_)
  have hl : lv_has ls 5 [(0, .ref (mO G)), (1, .int a1)] := hl
  unfold f_firstVertex at h
  refine lv_iconst (v := (-1)) hx hb dX7_firstVertex_0 (by decide) ?_
  refine lv_istore_n (lv' := [(2, .int ((-1))), (0, .ref (mO G)), (1, .int a1)]) hx hb dX7_firstVertex_1 rfl hl (by decide) rfl (fun ls hl => ?_)
  refine lv_aload_n hx hb dX7_firstVertex_2 rfl (lv_at hl 1 rfl) ?_
  refine lv_iload_n hx hb dX7_firstVertex_3 rfl (lv_at hl 2 rfl) ?_
  obtain ⟨M2, t3, e1, h⟩ := caM_el h
  refine m_VI (As := [.int a1]) (rest := []) hC hP hS (c_asksFace l G F M M2 a1 t3 e1) (cwV 1 hts (gWM wm_195 wm_196 wm_197 wm_7 wm_193) rfl rfl rfl (by decide +kernel) ⟨Nat.le_of_ble_eq_true rfl, Nat.le_of_ble_eq_true rfl⟩) rfl hl.1 rfl (Nat.le_of_ble_eq_true rfl) dX7_firstVertex_4 (fun H locs hP hS => ?_)
  refine lv_istore_n (lv' := [(3, .int t3), (2, .int ((-1))), (0, .ref (mO G)), (1, .int a1)]) hx hb dX7_firstVertex_7 rfl hl (by decide) rfl (fun ls hl => ?_)
  refine lv_iconst (v := 0) hx hb dX7_firstVertex_8 (by decide) ?_
  refine lv_istore (lv' := [(4, .int 0), (3, .int t3), (2, .int ((-1))), (0, .ref (mO G)), (1, .int a1)]) hx hb dX7_firstVertex_9 hl (by decide) rfl (fun ls hl => ?_)
  exact L11 F _ _ _ M2 a1 ((-1)) t3 0 hP hS (lv_sub hl [3, 4, 2, 1, 0] rfl) h

theorem dX7_faceAt_0 : decode cX7_faceAt 0 = .ok (.aload_n 0, 1) := by decide +kernel
theorem dX7_faceAt_1 : decode cX7_faceAt 1 = .ok (.iload_n 1, 1) := by decide +kernel
theorem dX7_faceAt_2 : decode cX7_faceAt 2 = .ok (.invokestatic 100, 3) := by decide +kernel
theorem dX7_faceAt_5 : decode cX7_faceAt 5 = .ok (.ifCond .eq 14, 3) := by decide +kernel
theorem dX7_faceAt_8 : decode cX7_faceAt 8 = .ok (.iload_n 2, 1) := by decide +kernel
theorem dX7_faceAt_9 : decode cX7_faceAt 9 = .ok (.invokestatic 100, 3) := by decide +kernel
theorem dX7_faceAt_12 : decode cX7_faceAt 12 = .ok (.ifCond .eq 7, 3) := by decide +kernel
theorem dX7_faceAt_15 : decode cX7_faceAt 15 = .ok (.iconst 0, 1) := by decide +kernel
theorem dX7_faceAt_16 : decode cX7_faceAt 16 = .ok (.goto 4, 3) := by decide +kernel
theorem dX7_faceAt_19 : decode cX7_faceAt 19 = .ok (.iconst 1, 1) := by decide +kernel
theorem dX7_faceAt_20 : decode cX7_faceAt 20 = .ok (.invokevirtual 107, 3) := by decide +kernel
theorem dX7_faceAt_23 : decode cX7_faceAt 23 = .ok (.ifCond .ne 5, 3) := by decide +kernel
theorem dX7_faceAt_26 : decode cX7_faceAt 26 = .ok (.iconst 0, 1) := by decide +kernel
theorem dX7_faceAt_27 : decode cX7_faceAt 27 = .ok (.ireturn, 1) := by decide +kernel
theorem dX7_faceAt_28 : decode cX7_faceAt 28 = .ok (.iconst 0, 1) := by decide +kernel
theorem dX7_faceAt_29 : decode cX7_faceAt 29 = .ok (.istore_n 3, 1) := by decide +kernel
theorem dX7_faceAt_30 : decode cX7_faceAt 30 = .ok (.iconst 0, 1) := by decide +kernel
theorem dX7_faceAt_31 : decode cX7_faceAt 31 = .ok (.istore 4, 2) := by decide +kernel
theorem dX7_faceAt_33 : decode cX7_faceAt 33 = .ok (.iload 4, 2) := by decide +kernel
theorem dX7_faceAt_35 : decode cX7_faceAt 35 = .ok (.aload_n 0, 1) := by decide +kernel
theorem dX7_faceAt_36 : decode cX7_faceAt 36 = .ok (.getfield 104, 3) := by decide +kernel
theorem dX7_faceAt_39 : decode cX7_faceAt 39 = .ok (.if_icmp .ge 127, 3) := by decide +kernel
theorem dX7_faceAt_42 : decode cX7_faceAt 42 = .ok (.aload_n 0, 1) := by decide +kernel
theorem dX7_faceAt_43 : decode cX7_faceAt 43 = .ok (.iload 4, 2) := by decide +kernel
theorem dX7_faceAt_45 : decode cX7_faceAt 45 = .ok (.invokevirtual 74, 3) := by decide +kernel
theorem dX7_faceAt_48 : decode cX7_faceAt 48 = .ok (.iload_n 2, 1) := by decide +kernel
theorem dX7_faceAt_49 : decode cX7_faceAt 49 = .ok (.aload_n 0, 1) := by decide +kernel
theorem dX7_faceAt_50 : decode cX7_faceAt 50 = .ok (.getfield 13, 3) := by decide +kernel
theorem dX7_faceAt_53 : decode cX7_faceAt 53 = .ok (.iload 4, 2) := by decide +kernel
theorem dX7_faceAt_55 : decode cX7_faceAt 55 = .ok (.iaload, 1) := by decide +kernel
theorem dX7_faceAt_56 : decode cX7_faceAt 56 = .ok (.isub, 1) := by decide +kernel
theorem dX7_faceAt_57 : decode cX7_faceAt 57 = .ok (.imul, 1) := by decide +kernel
theorem dX7_faceAt_58 : decode cX7_faceAt 58 = .ok (.aload_n 0, 1) := by decide +kernel
theorem dX7_faceAt_59 : decode cX7_faceAt 59 = .ok (.iload 4, 2) := by decide +kernel
theorem dX7_faceAt_61 : decode cX7_faceAt 61 = .ok (.invokevirtual 78, 3) := by decide +kernel
theorem dX7_faceAt_64 : decode cX7_faceAt 64 = .ok (.iload_n 1, 1) := by decide +kernel
theorem dX7_faceAt_65 : decode cX7_faceAt 65 = .ok (.aload_n 0, 1) := by decide +kernel
theorem dX7_faceAt_66 : decode cX7_faceAt 66 = .ok (.getfield 7, 3) := by decide +kernel
theorem dX7_faceAt_69 : decode cX7_faceAt 69 = .ok (.iload 4, 2) := by decide +kernel
theorem dX7_faceAt_71 : decode cX7_faceAt 71 = .ok (.iaload, 1) := by decide +kernel
theorem dX7_faceAt_72 : decode cX7_faceAt 72 = .ok (.isub, 1) := by decide +kernel
theorem dX7_faceAt_73 : decode cX7_faceAt 73 = .ok (.imul, 1) := by decide +kernel
theorem dX7_faceAt_74 : decode cX7_faceAt 74 = .ok (.isub, 1) := by decide +kernel
theorem dX7_faceAt_75 : decode cX7_faceAt 75 = .ok (.istore 5, 2) := by decide +kernel
theorem dX7_faceAt_77 : decode cX7_faceAt 77 = .ok (.iload_n 1, 1) := by decide +kernel
theorem dX7_faceAt_78 : decode cX7_faceAt 78 = .ok (.iload_n 2, 1) := by decide +kernel
theorem dX7_faceAt_79 : decode cX7_faceAt 79 = .ok (.aload_n 0, 1) := by decide +kernel
theorem dX7_faceAt_80 : decode cX7_faceAt 80 = .ok (.getfield 7, 3) := by decide +kernel
theorem dX7_faceAt_83 : decode cX7_faceAt 83 = .ok (.iload 4, 2) := by decide +kernel
theorem dX7_faceAt_85 : decode cX7_faceAt 85 = .ok (.iaload, 1) := by decide +kernel
theorem dX7_faceAt_86 : decode cX7_faceAt 86 = .ok (.aload_n 0, 1) := by decide +kernel
theorem dX7_faceAt_87 : decode cX7_faceAt 87 = .ok (.getfield 13, 3) := by decide +kernel
theorem dX7_faceAt_90 : decode cX7_faceAt 90 = .ok (.iload 4, 2) := by decide +kernel
theorem dX7_faceAt_92 : decode cX7_faceAt 92 = .ok (.iaload, 1) := by decide +kernel
theorem dX7_faceAt_93 : decode cX7_faceAt 93 = .ok (.invokestatic 81, 3) := by decide +kernel
theorem dX7_faceAt_96 : decode cX7_faceAt 96 = .ok (.ifCond .ne 7, 3) := by decide +kernel
theorem dX7_faceAt_99 : decode cX7_faceAt 99 = .ok (.iconst 1, 1) := by decide +kernel
theorem dX7_faceAt_100 : decode cX7_faceAt 100 = .ok (.goto 4, 3) := by decide +kernel
theorem dX7_faceAt_103 : decode cX7_faceAt 103 = .ok (.iconst 0, 1) := by decide +kernel
theorem dX7_faceAt_104 : decode cX7_faceAt 104 = .ok (.istore 6, 2) := by decide +kernel
theorem dX7_faceAt_106 : decode cX7_faceAt 106 = .ok (.aload_n 0, 1) := by decide +kernel
theorem dX7_faceAt_107 : decode cX7_faceAt 107 = .ok (.getfield 16, 3) := by decide +kernel
theorem dX7_faceAt_110 : decode cX7_faceAt 110 = .ok (.iload 4, 2) := by decide +kernel
theorem dX7_faceAt_112 : decode cX7_faceAt 112 = .ok (.iaload, 1) := by decide +kernel
theorem dX7_faceAt_113 : decode cX7_faceAt 113 = .ok (.aload_n 0, 1) := by decide +kernel
theorem dX7_faceAt_114 : decode cX7_faceAt 114 = .ok (.getfield 19, 3) := by decide +kernel
theorem dX7_faceAt_117 : decode cX7_faceAt 117 = .ok (.iload 4, 2) := by decide +kernel
theorem dX7_faceAt_119 : decode cX7_faceAt 119 = .ok (.iaload, 1) := by decide +kernel
theorem dX7_faceAt_120 : decode cX7_faceAt 120 = .ok (.iload_n 1, 1) := by decide +kernel
theorem dX7_faceAt_121 : decode cX7_faceAt 121 = .ok (.iload_n 2, 1) := by decide +kernel
theorem dX7_faceAt_122 : decode cX7_faceAt 122 = .ok (.invokestatic 81, 3) := by decide +kernel
theorem dX7_faceAt_125 : decode cX7_faceAt 125 = .ok (.ifCond .ne 7, 3) := by decide +kernel
theorem dX7_faceAt_128 : decode cX7_faceAt 128 = .ok (.iconst 1, 1) := by decide +kernel
theorem dX7_faceAt_129 : decode cX7_faceAt 129 = .ok (.goto 4, 3) := by decide +kernel
theorem dX7_faceAt_132 : decode cX7_faceAt 132 = .ok (.iconst 0, 1) := by decide +kernel
theorem dX7_faceAt_133 : decode cX7_faceAt 133 = .ok (.istore 7, 2) := by decide +kernel
theorem dX7_faceAt_135 : decode cX7_faceAt 135 = .ok (.iload_n 3, 1) := by decide +kernel
theorem dX7_faceAt_136 : decode cX7_faceAt 136 = .ok (.ifCond .ne 18, 3) := by decide +kernel
theorem dX7_faceAt_139 : decode cX7_faceAt 139 = .ok (.iload 5, 2) := by decide +kernel
theorem dX7_faceAt_141 : decode cX7_faceAt 141 = .ok (.ifCond .ne 17, 3) := by decide +kernel
theorem dX7_faceAt_144 : decode cX7_faceAt 144 = .ok (.iload 6, 2) := by decide +kernel
theorem dX7_faceAt_146 : decode cX7_faceAt 146 = .ok (.ifCond .eq 12, 3) := by decide +kernel
theorem dX7_faceAt_149 : decode cX7_faceAt 149 = .ok (.iload 7, 2) := by decide +kernel
theorem dX7_faceAt_151 : decode cX7_faceAt 151 = .ok (.ifCond .eq 7, 3) := by decide +kernel
theorem dX7_faceAt_154 : decode cX7_faceAt 154 = .ok (.iconst 1, 1) := by decide +kernel
theorem dX7_faceAt_155 : decode cX7_faceAt 155 = .ok (.goto 4, 3) := by decide +kernel
theorem dX7_faceAt_158 : decode cX7_faceAt 158 = .ok (.iconst 0, 1) := by decide +kernel
theorem dX7_faceAt_159 : decode cX7_faceAt 159 = .ok (.istore_n 3, 1) := by decide +kernel
theorem dX7_faceAt_160 : decode cX7_faceAt 160 = .ok (.iinc 4 1, 3) := by decide +kernel
theorem dX7_faceAt_163 : decode cX7_faceAt 163 = .ok (.goto (-130), 3) := by decide +kernel
theorem dX7_faceAt_166 : decode cX7_faceAt 166 = .ok (.iload_n 3, 1) := by decide +kernel
theorem dX7_faceAt_167 : decode cX7_faceAt 167 = .ok (.ifCond .eq 7, 3) := by decide +kernel
theorem dX7_faceAt_170 : decode cX7_faceAt 170 = .ok (.iconst (-1), 1) := by decide +kernel
theorem dX7_faceAt_171 : decode cX7_faceAt 171 = .ok (.goto 14, 3) := by decide +kernel
theorem dX7_faceAt_174 : decode cX7_faceAt 174 = .ok (.aload_n 0, 1) := by decide +kernel
theorem dX7_faceAt_175 : decode cX7_faceAt 175 = .ok (.iload_n 1, 1) := by decide +kernel
theorem dX7_faceAt_176 : decode cX7_faceAt 176 = .ok (.i2l, 1) := by decide +kernel
theorem dX7_faceAt_177 : decode cX7_faceAt 177 = .ok (.lconst 1, 1) := by decide +kernel
theorem dX7_faceAt_178 : decode cX7_faceAt 178 = .ok (.iload_n 2, 1) := by decide +kernel
theorem dX7_faceAt_179 : decode cX7_faceAt 179 = .ok (.i2l, 1) := by decide +kernel
theorem dX7_faceAt_180 : decode cX7_faceAt 180 = .ok (.lconst 1, 1) := by decide +kernel
theorem dX7_faceAt_181 : decode cX7_faceAt 181 = .ok (.iconst 0, 1) := by decide +kernel
theorem dX7_faceAt_182 : decode cX7_faceAt 182 = .ok (.invokevirtual 193, 3) := by decide +kernel
theorem dX7_faceAt_185 : decode cX7_faceAt 185 = .ok (.ireturn, 1) := by decide +kernel
def f_faceAt_b159 (F : Nat) (k33 : MS → Int32 → Int32 → Int32 → Int32 → Option (MS × Int32)) (M : MS) (x1 : Int32) (x2 : Int32) (x4 : Int32) (s0 : Int32) : Option (MS × Int32) := k33 M x1 x2 s0 (x4 + 1)
def f_faceAt_b133 (F : Nat) (k33 : MS → Int32 → Int32 → Int32 → Int32 → Option (MS × Int32)) (M : MS) (x1 : Int32) (x2 : Int32) (x3 : Int32) (x4 : Int32) (x5 : Int32) (x6 : Int32) (s0 : Int32) : Option (MS × Int32) := (if x3 = 0 then (if x5 = 0 then (if x6 = 0 then f_faceAt_b159 F k33 M x1 x2 x4 0 else (if s0 = 0 then f_faceAt_b159 F k33 M x1 x2 x4 0 else f_faceAt_b159 F k33 M x1 x2 x4 1)) else f_faceAt_b159 F k33 M x1 x2 x4 0) else f_faceAt_b159 F k33 M x1 x2 x4 1)
def f_faceAt_b104 (F : Nat) (k33 : MS → Int32 → Int32 → Int32 → Int32 → Option (MS × Int32)) (M : MS) (x1 : Int32) (x2 : Int32) (x3 : Int32) (x4 : Int32) (x5 : Int32) (s0 : Int32) : Option (MS × Int32) := rdI 13 (M.2.1 3) x4 fun t1 => rdI 13 (M.2.1 4) x4 fun t4 => cal (f_isBefore F M t1 t4 x1 x2) fun t8 => (if t8 = 0 then f_faceAt_b133 F k33 M x1 x2 x3 x4 x5 s0 1 else f_faceAt_b133 F k33 M x1 x2 x3 x4 x5 s0 0)
def f_faceAt_L33 (F : Nat) : Nat → MS → Int32 → Int32 → Int32 → Int32 → Option (MS × Int32)
  | 0, _, _, _, _, _ => none
  | n33 + 1, M, x1, x2, x3, x4 => (if (M.1 0) ≤ x4 then (if x3 = 0 then cal (f_faceAbove F M x1.toInt64 1 x2.toInt64 1 0) fun t4 => some (M, t4) else some (M, (-1))) else cal (f_dx F M x4) fun t6 => rdI 13 (M.2.1 2) x4 fun t7 => cal (f_dy F M x4) fun t11 => rdI 13 (M.2.1 1) x4 fun t12 => rdI 13 (M.2.1 1) x4 fun t15 => rdI 13 (M.2.1 2) x4 fun t18 => cal (f_isBefore F M x1 x2 t15 t18) fun t22 => (if t22 = 0 then f_faceAt_b104 F ((f_faceAt_L33 F n33)) M x1 x2 x3 x4 ((t6 * (x2 - t7)) - (t11 * (x1 - t12))) 1 else f_faceAt_b104 F ((f_faceAt_L33 F n33)) M x1 x2 x3 x4 ((t6 * (x2 - t7)) - (t11 * (x1 - t12))) 0))
def f_faceAt_b20 (F : Nat) (M : MS) (x1 : Int32) (x2 : Int32) (s0 : Int32) : Option (MS × Int32) := caM (f_goes F M s0) fun M2 t3 => (if t3 = 0 then some (M2, 0) else f_faceAt_L33 F F M2 x1 x2 0 0)
def f_faceAt (F : Nat) (M : MS) (a1 : Int32) (a2 : Int32) : Option (MS × Int32) := cal (f_isPlace F M a1) fun t2 => (if t2 = 0 then f_faceAt_b20 F M a1 a2 1 else cal (f_isPlace F M a2) fun t5 => (if t5 = 0 then f_faceAt_b20 F M a1 a2 1 else f_faceAt_b20 F M a1 a2 0))
set_option maxRecDepth 100000 in
set_option maxHeartbeats 4000000 in
theorem c_faceAt (l : Launch) (G : mG) (F : Nat) (M M2 : MS) (a1 : Int32) (a2 : Int32) (r : Int32) (h : f_faceAt F M a1 a2 = some (M2, r)) : mMI l yX7_faceAt vX7_faceAt ({ frames := 4, cells := 0, slots := 0, locals := 108 }) G [.ref (mO G), .int a1, .int a2] M M2 r := by
  refine mBodyI (cc := cX7_faceAt) (maxL := 8) (ret := (some .int)) (by decide) rfl rfl ?_
  intro sz p e s m below meth c hC hP
  have hC0 := hC
  obtain ⟨hx, hb, -, hts, -, -, -, -, -, -⟩ := hC0
  have hS : va_S (mA G sz) s.heap s.heap [] := va_S.rf
  have hin : ∀ w ∈ wsX70, w ∈ vX7_faceAt := fun w h => List.mem_cons_of_mem _ (List.mem_append_right _ h)
  have fl_segments := hts _ (List.mem_cons_of_mem _ wm_53)
  have fl_y1 := hts _ (List.mem_cons_of_mem _ wm_13)
  have fl_x1 := hts _ (List.mem_cons_of_mem _ wm_10)
  have fl_x2 := hts _ (List.mem_cons_of_mem _ wm_9)
  have fl_y2 := hts _ (List.mem_cons_of_mem _ wm_12)
  have L33 : ∀ (n33 : Nat) (H : Heap) (locs : List Loc) (ls : Array Slot) (M : MS) (x1 : Int32) (x2 : Int32) (x3 : Int32) (x4 : Int32), va_P G.1 vwCl (mW G M) H → va_S (mA G sz) s.heap H locs → lv_has ls 8 [(0, .ref (mO G)), (1, .int x1), (2, .int x2), (3, .int x3), (4, .int x4)] → f_faceAt_L33 F n33 M x1 x2 x3 x4 = some (M2, r) → W p l e (headSpec vX7_faceAt ({ frames := 4, cells := 0, slots := 0, locals := 108 })).room s m ([.ref (mO G), .int a1, .int a2] : List Value).toArray below meth c H locs 0 0 (mQI below G M2 sz ([.ref (mO G), .int a1, .int a2] : List Value).toArray s r) (F0 m 33 ls []) := by
    intro n33
    induction n33 with
    | zero =>
      intro H locs ls M x1 x2 x3 x4 hP hS hl h
      rw [f_faceAt_L33] at h; cases h
    | succ n33 ih33 =>
      have b159 : ∀ (H : Heap) (locs : List Loc) (ls : Array Slot) (M : MS) (x1 : Int32) (x2 : Int32) (x4 : Int32) (s0 : Int32), va_P G.1 vwCl (mW G M) H → va_S (mA G sz) s.heap H locs → lv_has ls 8 [(0, .ref (mO G)), (1, .int x1), (2, .int x2), (4, .int x4)] → f_faceAt_b159 F ((f_faceAt_L33 F n33)) M x1 x2 x4 s0 = some (M2, r) → W p l e (headSpec vX7_faceAt ({ frames := 4, cells := 0, slots := 0, locals := 108 })).room s m ([.ref (mO G), .int a1, .int a2] : List Value).toArray below meth c H locs 0 0 (mQI below G M2 sz ([.ref (mO G), .int a1, .int a2] : List Value).toArray s r) (F0 m 159 ls [.int s0]) := by
        intro H locs ls M x1 x2 x4 s0 hP hS hl h
        unfold f_faceAt_b159 at h
        refine lv_istore_n (lv' := [(3, .int s0), (0, .ref (mO G)), (1, .int x1), (2, .int x2), (4, .int x4)]) hx hb dX7_faceAt_159 rfl hl (by decide) rfl (fun ls hl => ?_)
        refine lv_iinc (v := x4 + 1) (lv' := [(4, .int (x4 + 1)), (3, .int s0), (0, .ref (mO G)), (1, .int x1), (2, .int x2)]) hx hb dX7_faceAt_160 hl (k := 4) rfl rfl (by decide) rfl (fun ls hl => ?_)
        refine lv_goto (tgt := 33) hx hb dX7_faceAt_163 (by decide) ?_
        exact ih33 _ _ _ M x1 x2 s0 (x4 + 1) hP hS (lv_sub hl [2, 3, 4, 1, 0] rfl) h
      have b133 : ∀ (H : Heap) (locs : List Loc) (ls : Array Slot) (M : MS) (x1 : Int32) (x2 : Int32) (x3 : Int32) (x4 : Int32) (x5 : Int32) (x6 : Int32) (s0 : Int32), va_P G.1 vwCl (mW G M) H → va_S (mA G sz) s.heap H locs → lv_has ls 8 [(0, .ref (mO G)), (1, .int x1), (2, .int x2), (3, .int x3), (4, .int x4), (5, .int x5), (6, .int x6)] → f_faceAt_b133 F ((f_faceAt_L33 F n33)) M x1 x2 x3 x4 x5 x6 s0 = some (M2, r) → W p l e (headSpec vX7_faceAt ({ frames := 4, cells := 0, slots := 0, locals := 108 })).room s m ([.ref (mO G), .int a1, .int a2] : List Value).toArray below meth c H locs 0 0 (mQI below G M2 sz ([.ref (mO G), .int a1, .int a2] : List Value).toArray s r) (F0 m 133 ls [.int s0]) := by
        intro H locs ls M x1 x2 x3 x4 x5 x6 s0 hP hS hl h
        unfold f_faceAt_b133 at h
        refine lv_istore (lv' := [(7, .int s0), (0, .ref (mO G)), (1, .int x1), (2, .int x2), (3, .int x3), (4, .int x4), (5, .int x5), (6, .int x6)]) hx hb dX7_faceAt_133 hl (by decide) rfl (fun ls hl => ?_)
        refine lv_iload_n hx hb dX7_faceAt_135 rfl (lv_at hl 4 rfl) ?_
        refine lv_if_ne (tgt := 154) hx hb dX7_faceAt_136 (by decide) (fun u1 => ?_) (fun u1 => ?_)
        · have h := ite_f u1 h
          refine lv_iconst (v := 1) hx hb dX7_faceAt_154 (by decide) ?_
          refine lv_goto (tgt := 159) hx hb dX7_faceAt_155 (by decide) ?_
          exact b159 _ _ _ M x1 x2 x4 1 hP hS (lv_sub hl [1, 2, 3, 5] rfl) h
        · have h := ite_t u1 h
          refine lv_iload hx hb dX7_faceAt_139 (lv_at hl 6 rfl) ?_
          refine lv_if_ne (tgt := 158) hx hb dX7_faceAt_141 (by decide) (fun u2 => ?_) (fun u2 => ?_)
          · have h := ite_f u2 h
            refine lv_iconst (v := 0) hx hb dX7_faceAt_158 (by decide) ?_
            exact b159 _ _ _ M x1 x2 x4 0 hP hS (lv_sub hl [1, 2, 3, 5] rfl) h
          · have h := ite_t u2 h
            refine lv_iload hx hb dX7_faceAt_144 (lv_at hl 7 rfl) ?_
            refine lv_if_eq (tgt := 158) hx hb dX7_faceAt_146 (by decide) (fun u3 => ?_) (fun u3 => ?_)
            · have h := ite_t u3 h
              refine lv_iconst (v := 0) hx hb dX7_faceAt_158 (by decide) ?_
              exact b159 _ _ _ M x1 x2 x4 0 hP hS (lv_sub hl [1, 2, 3, 5] rfl) h
            · have h := ite_f u3 h
              refine lv_iload hx hb dX7_faceAt_149 (lv_at hl 0 rfl) ?_
              refine lv_if_eq (tgt := 158) hx hb dX7_faceAt_151 (by decide) (fun u4 => ?_) (fun u4 => ?_)
              · have h := ite_t u4 h
                refine lv_iconst (v := 0) hx hb dX7_faceAt_158 (by decide) ?_
                exact b159 _ _ _ M x1 x2 x4 0 hP hS (lv_sub hl [1, 2, 3, 5] rfl) h
              · have h := ite_f u4 h
                refine lv_iconst (v := 1) hx hb dX7_faceAt_154 (by decide) ?_
                refine lv_goto (tgt := 159) hx hb dX7_faceAt_155 (by decide) ?_
                exact b159 _ _ _ M x1 x2 x4 1 hP hS (lv_sub hl [1, 2, 3, 5] rfl) h
      have b104 : ∀ (H : Heap) (locs : List Loc) (ls : Array Slot) (M : MS) (x1 : Int32) (x2 : Int32) (x3 : Int32) (x4 : Int32) (x5 : Int32) (s0 : Int32), va_P G.1 vwCl (mW G M) H → va_S (mA G sz) s.heap H locs → lv_has ls 8 [(0, .ref (mO G)), (1, .int x1), (2, .int x2), (3, .int x3), (4, .int x4), (5, .int x5)] → f_faceAt_b104 F ((f_faceAt_L33 F n33)) M x1 x2 x3 x4 x5 s0 = some (M2, r) → W p l e (headSpec vX7_faceAt ({ frames := 4, cells := 0, slots := 0, locals := 108 })).room s m ([.ref (mO G), .int a1, .int a2] : List Value).toArray below meth c H locs 0 0 (mQI below G M2 sz ([.ref (mO G), .int a1, .int a2] : List Value).toArray s r) (F0 m 104 ls [.int s0]) := by
        intro H locs ls M x1 x2 x3 x4 x5 s0 hP hS hl h
        unfold f_faceAt_b104 at h
        refine lv_istore (lv' := [(6, .int s0), (0, .ref (mO G)), (1, .int x1), (2, .int x2), (3, .int x3), (4, .int x4), (5, .int x5)]) hx hb dX7_faceAt_104 hl (by decide) rfl (fun ls hl => ?_)
        refine lv_aload_n hx hb dX7_faceAt_106 rfl (lv_at hl 1 rfl) ?_
        refine m_get hC hin hP 3 (by decide) fl_x2 rfl (v := .ref (mAd G 3)) rfl dX7_faceAt_107 ?_
        refine lv_iload hx hb dX7_faceAt_110 (lv_at hl 5 rfl) ?_
        obtain ⟨z2, t1, e3, h⟩ := rdI_el h
        refine m_ild hC hP 3 (N := 13) rfl z2 e3 dX7_faceAt_112 ?_
        refine lv_aload_n hx hb dX7_faceAt_113 rfl (lv_at hl 1 rfl) ?_
        refine m_get hC hin hP 4 (by decide) fl_y2 rfl (v := .ref (mAd G 4)) rfl dX7_faceAt_114 ?_
        refine lv_iload hx hb dX7_faceAt_117 (lv_at hl 5 rfl) ?_
        obtain ⟨z5, t4, e6, h⟩ := rdI_el h
        refine m_ild hC hP 4 (N := 13) rfl z5 e6 dX7_faceAt_119 ?_
        refine lv_iload_n hx hb dX7_faceAt_120 rfl (lv_at hl 2 rfl) ?_
        refine lv_iload_n hx hb dX7_faceAt_121 rfl (lv_at hl 3 rfl) ?_
        obtain ⟨t8, e7, h⟩ := cal_el h
        refine m_SI (As := [.int t1, .int t4, .int x1, .int x2]) (rest := []) hC hP hS (c_isBefore l G F M t1 t4 x1 x2 t8 e7) (va_cwS 4 hts (gWMS wm_24 wm_25 wm_7 wm_22) rfl rfl rfl (by decide +kernel) ⟨Nat.le_of_ble_eq_true rfl, Nat.le_of_ble_eq_true rfl⟩) rfl hl.1 rfl (Nat.le_of_ble_eq_true rfl) dX7_faceAt_122 (fun H locs hP hS => ?_)
        refine lv_if_ne (tgt := 132) hx hb dX7_faceAt_125 (by decide) (fun u9 => ?_) (fun u9 => ?_)
        · have h := ite_f u9 h
          refine lv_iconst (v := 0) hx hb dX7_faceAt_132 (by decide) ?_
          exact b133 _ _ _ M x1 x2 x3 x4 x5 s0 0 hP hS (lv_sub hl [1, 2, 3, 4, 5, 6, 0] rfl) h
        · have h := ite_t u9 h
          refine lv_iconst (v := 1) hx hb dX7_faceAt_128 (by decide) ?_
          refine lv_goto (tgt := 133) hx hb dX7_faceAt_129 (by decide) ?_
          exact b133 _ _ _ M x1 x2 x3 x4 x5 s0 1 hP hS (lv_sub hl [1, 2, 3, 4, 5, 6, 0] rfl) h
      intro H locs ls M x1 x2 x3 x4 hP hS hl h
      rw [f_faceAt_L33] at h
      refine lv_iload hx hb dX7_faceAt_33 (lv_at hl 4 rfl) ?_
      refine lv_aload_n hx hb dX7_faceAt_35 rfl (lv_at hl 0 rfl) ?_
      refine m_get hC hin hP 0 (by decide) fl_segments rfl (v := .int (M.1 0)) rfl dX7_faceAt_36 ?_
      refine lv_icmp_ge (tgt := 166) hx hb dX7_faceAt_39 (by decide) (fun u1 => ?_) (fun u1 => ?_)
      · have h := ite_t u1 h
        refine lv_iload_n hx hb dX7_faceAt_166 rfl (lv_at hl 3 rfl) ?_
        refine lv_if_eq (tgt := 174) hx hb dX7_faceAt_167 (by decide) (fun u2 => ?_) (fun u2 => ?_)
        · have h := ite_t u2 h
          refine lv_aload_n hx hb dX7_faceAt_174 rfl (lv_at hl 0 rfl) ?_
          refine lv_iload_n hx hb dX7_faceAt_175 rfl (lv_at hl 1 rfl) ?_
          refine lv_i2l (v := x1.toInt64) hx hb dX7_faceAt_176 rfl ?_
          refine lv_lconst (v := 1) hx hb dX7_faceAt_177 (by decide) ?_
          refine lv_iload_n hx hb dX7_faceAt_178 rfl (lv_at hl 2 rfl) ?_
          refine lv_i2l (v := x2.toInt64) hx hb dX7_faceAt_179 rfl ?_
          refine lv_lconst (v := 1) hx hb dX7_faceAt_180 (by decide) ?_
          refine lv_iconst (v := 0) hx hb dX7_faceAt_181 (by decide) ?_
          obtain ⟨t4, e3, h⟩ := cal_el h
          refine m_VI (As := [.long x1.toInt64, .long 1, .long x2.toInt64, .long 1, .int 0]) (rest := []) hC hP hS (c_faceAbove l G F M x1.toInt64 1 x2.toInt64 1 0 t4 e3) (cwV 5 hts (gWM wm_133 wm_134 wm_135 wm_7 wm_115) rfl rfl rfl (by decide +kernel) ⟨Nat.le_of_ble_eq_true rfl, Nat.le_of_ble_eq_true rfl⟩) rfl hl.1 rfl (Nat.le_of_ble_eq_true rfl) dX7_faceAt_182 (fun H locs hP hS => ?_)
          cases h
          exact m_iret hC hP hS rfl dX7_faceAt_185
        · have h := ite_f u2 h
          refine lv_iconst (v := (-1)) hx hb dX7_faceAt_170 (by decide) ?_
          refine lv_goto (tgt := 185) hx hb dX7_faceAt_171 (by decide) ?_
          cases h
          exact m_iret hC hP hS rfl dX7_faceAt_185
      · have h := ite_f u1 h
        refine lv_aload_n hx hb dX7_faceAt_42 rfl (lv_at hl 0 rfl) ?_
        refine lv_iload hx hb dX7_faceAt_43 (lv_at hl 4 rfl) ?_
        obtain ⟨t6, e5, h⟩ := cal_el h
        refine m_VI (As := [.int x4]) (rest := []) hC hP hS (c_dx l G F M x4 t6 e5) (cwV 1 hts (gWM wm_15 wm_16 wm_17 wm_7 wm_8) rfl rfl rfl (by decide +kernel) ⟨Nat.le_of_ble_eq_true rfl, Nat.le_of_ble_eq_true rfl⟩) rfl hl.1 rfl (Nat.le_of_ble_eq_true rfl) dX7_faceAt_45 (fun H locs hP hS => ?_)
        refine lv_iload_n hx hb dX7_faceAt_48 rfl (lv_at hl 2 rfl) ?_
        refine lv_aload_n hx hb dX7_faceAt_49 rfl (lv_at hl 0 rfl) ?_
        refine m_get hC hin hP 2 (by decide) fl_y1 rfl (v := .ref (mAd G 2)) rfl dX7_faceAt_50 ?_
        refine lv_iload hx hb dX7_faceAt_53 (lv_at hl 4 rfl) ?_
        obtain ⟨z8, t7, e9, h⟩ := rdI_el h
        refine m_ild hC hP 2 (N := 13) rfl z8 e9 dX7_faceAt_55 ?_
        refine lv_isub hx hb dX7_faceAt_56 ?_
        refine lv_imul hx hb dX7_faceAt_57 ?_
        refine lv_aload_n hx hb dX7_faceAt_58 rfl (lv_at hl 0 rfl) ?_
        refine lv_iload hx hb dX7_faceAt_59 (lv_at hl 4 rfl) ?_
        obtain ⟨t11, e10, h⟩ := cal_el h
        refine m_VI (As := [.int x4]) (rest := [.int (t6 * (x2 - t7))]) hC hP hS (c_dy l G F M x4 t11 e10) (cwV 1 hts (gWM wm_18 wm_19 wm_20 wm_7 wm_11) rfl rfl rfl (by decide +kernel) ⟨Nat.le_of_ble_eq_true rfl, Nat.le_of_ble_eq_true rfl⟩) rfl hl.1 rfl (Nat.le_of_ble_eq_true rfl) dX7_faceAt_61 (fun H locs hP hS => ?_)
        refine lv_iload_n hx hb dX7_faceAt_64 rfl (lv_at hl 1 rfl) ?_
        refine lv_aload_n hx hb dX7_faceAt_65 rfl (lv_at hl 0 rfl) ?_
        refine m_get hC hin hP 1 (by decide) fl_x1 rfl (v := .ref (mAd G 1)) rfl dX7_faceAt_66 ?_
        refine lv_iload hx hb dX7_faceAt_69 (lv_at hl 4 rfl) ?_
        obtain ⟨z13, t12, e14, h⟩ := rdI_el h
        refine m_ild hC hP 1 (N := 13) rfl z13 e14 dX7_faceAt_71 ?_
        refine lv_isub hx hb dX7_faceAt_72 ?_
        refine lv_imul hx hb dX7_faceAt_73 ?_
        refine lv_isub hx hb dX7_faceAt_74 ?_
        refine lv_istore (lv' := [(5, .int ((t6 * (x2 - t7)) - (t11 * (x1 - t12)))), (0, .ref (mO G)), (1, .int x1), (2, .int x2), (3, .int x3), (4, .int x4)]) hx hb dX7_faceAt_75 hl (by decide) rfl (fun ls hl => ?_)
        refine lv_iload_n hx hb dX7_faceAt_77 rfl (lv_at hl 2 rfl) ?_
        refine lv_iload_n hx hb dX7_faceAt_78 rfl (lv_at hl 3 rfl) ?_
        refine lv_aload_n hx hb dX7_faceAt_79 rfl (lv_at hl 1 rfl) ?_
        refine m_get hC hin hP 1 (by decide) fl_x1 rfl (v := .ref (mAd G 1)) rfl dX7_faceAt_80 ?_
        refine lv_iload hx hb dX7_faceAt_83 (lv_at hl 5 rfl) ?_
        obtain ⟨z16, t15, e17, h⟩ := rdI_el h
        refine m_ild hC hP 1 (N := 13) rfl z16 e17 dX7_faceAt_85 ?_
        refine lv_aload_n hx hb dX7_faceAt_86 rfl (lv_at hl 1 rfl) ?_
        refine m_get hC hin hP 2 (by decide) fl_y1 rfl (v := .ref (mAd G 2)) rfl dX7_faceAt_87 ?_
        refine lv_iload hx hb dX7_faceAt_90 (lv_at hl 5 rfl) ?_
        obtain ⟨z19, t18, e20, h⟩ := rdI_el h
        refine m_ild hC hP 2 (N := 13) rfl z19 e20 dX7_faceAt_92 ?_
        obtain ⟨t22, e21, h⟩ := cal_el h
        refine m_SI (As := [.int x1, .int x2, .int t15, .int t18]) (rest := []) hC hP hS (c_isBefore l G F M x1 x2 t15 t18 t22 e21) (va_cwS 4 hts (gWMS wm_24 wm_25 wm_7 wm_22) rfl rfl rfl (by decide +kernel) ⟨Nat.le_of_ble_eq_true rfl, Nat.le_of_ble_eq_true rfl⟩) rfl hl.1 rfl (Nat.le_of_ble_eq_true rfl) dX7_faceAt_93 (fun H locs hP hS => ?_)
        refine lv_if_ne (tgt := 103) hx hb dX7_faceAt_96 (by decide) (fun u23 => ?_) (fun u23 => ?_)
        · have h := ite_f u23 h
          refine lv_iconst (v := 0) hx hb dX7_faceAt_103 (by decide) ?_
          exact b104 _ _ _ M x1 x2 x3 x4 ((t6 * (x2 - t7)) - (t11 * (x1 - t12))) 0 hP hS (lv_sub hl [1, 2, 3, 4, 5, 0] rfl) h
        · have h := ite_t u23 h
          refine lv_iconst (v := 1) hx hb dX7_faceAt_99 (by decide) ?_
          refine lv_goto (tgt := 104) hx hb dX7_faceAt_100 (by decide) ?_
          exact b104 _ _ _ M x1 x2 x3 x4 ((t6 * (x2 - t7)) - (t11 * (x1 - t12))) 1 hP hS (lv_sub hl [1, 2, 3, 4, 5, 0] rfl) h
  have b20 : ∀ (H : Heap) (locs : List Loc) (ls : Array Slot) (M : MS) (x1 : Int32) (x2 : Int32) (s0 : Int32), va_P G.1 vwCl (mW G M) H → va_S (mA G sz) s.heap H locs → lv_has ls 8 [(0, .ref (mO G)), (1, .int x1), (2, .int x2)] → f_faceAt_b20 F M x1 x2 s0 = some (M2, r) → W p l e (headSpec vX7_faceAt ({ frames := 4, cells := 0, slots := 0, locals := 108 })).room s m ([.ref (mO G), .int a1, .int a2] : List Value).toArray below meth c H locs 0 0 (mQI below G M2 sz ([.ref (mO G), .int a1, .int a2] : List Value).toArray s r) (F0 m 20 ls [.int s0, .ref (mO G)]) := by
    intro H locs ls M x1 x2 s0 hP hS hl h
    unfold f_faceAt_b20 at h
    obtain ⟨M2, t3, e1, h⟩ := caM_el h
    refine m_VI (As := [.int s0]) (rest := []) hC hP hS (c_goes l G F M M2 s0 t3 e1) (cwV 1 hts (gWM wm_155 wm_156 wm_157 wm_7 wm_2) rfl rfl rfl (by decide +kernel) ⟨Nat.le_of_ble_eq_true rfl, Nat.le_of_ble_eq_true rfl⟩) rfl hl.1 rfl (Nat.le_of_ble_eq_true rfl) dX7_faceAt_20 (fun H locs hP hS => ?_)
    refine lv_if_ne (tgt := 28) hx hb dX7_faceAt_23 (by decide) (fun u4 => ?_) (fun u4 => ?_)
    · have h := ite_f u4 h
      refine lv_iconst (v := 0) hx hb dX7_faceAt_28 (by decide) ?_
      refine lv_istore_n (lv' := [(3, .int 0), (0, .ref (mO G)), (1, .int x1), (2, .int x2)]) hx hb dX7_faceAt_29 rfl hl (by decide) rfl (fun ls hl => ?_)
      refine lv_iconst (v := 0) hx hb dX7_faceAt_30 (by decide) ?_
      refine lv_istore (lv' := [(4, .int 0), (3, .int 0), (0, .ref (mO G)), (1, .int x1), (2, .int x2)]) hx hb dX7_faceAt_31 hl (by decide) rfl (fun ls hl => ?_)
      exact L33 F _ _ _ M2 x1 x2 0 0 hP hS (lv_sub hl [2, 3, 4, 1, 0] rfl) h
    · have h := ite_t u4 h
      refine lv_iconst (v := 0) hx hb dX7_faceAt_26 (by decide) ?_
      cases h
      exact m_iret hC hP hS rfl dX7_faceAt_27
  refine m_entry (Nat.le_of_ble_eq_true rfl) (fun ls hl => ?_)
  have hl : lv_has ls 8 [(0, .ref (mO G)), (1, .int a1), (2, .int a2)] := hl
  unfold f_faceAt at h
  refine lv_aload_n hx hb dX7_faceAt_0 rfl (lv_at hl 0 rfl) ?_
  refine lv_iload_n hx hb dX7_faceAt_1 rfl (lv_at hl 1 rfl) ?_
  obtain ⟨t2, e1, h⟩ := cal_el h
  refine m_SI (As := [.int a1]) (rest := [.ref (mO G)]) hC hP hS (c_isPlace l G F M a1 t2 e1) (va_cwS 1 hts (gWMS wm_153 wm_154 wm_7 wm_4) rfl rfl rfl (by decide +kernel) ⟨Nat.le_of_ble_eq_true rfl, Nat.le_of_ble_eq_true rfl⟩) rfl hl.1 rfl (Nat.le_of_ble_eq_true rfl) dX7_faceAt_2 (fun H locs hP hS => ?_)
  refine lv_if_eq (tgt := 19) hx hb dX7_faceAt_5 (by decide) (fun u3 => ?_) (fun u3 => ?_)
  · have h := ite_t u3 h
    refine lv_iconst (v := 1) hx hb dX7_faceAt_19 (by decide) ?_
    exact b20 _ _ _ M a1 a2 1 hP hS (lv_sub hl [0, 1, 2] rfl) h
  · have h := ite_f u3 h
    refine lv_iload_n hx hb dX7_faceAt_8 rfl (lv_at hl 2 rfl) ?_
    obtain ⟨t5, e4, h⟩ := cal_el h
    refine m_SI (As := [.int a2]) (rest := [.ref (mO G)]) hC hP hS (c_isPlace l G F M a2 t5 e4) (va_cwS 1 hts (gWMS wm_153 wm_154 wm_7 wm_4) rfl rfl rfl (by decide +kernel) ⟨Nat.le_of_ble_eq_true rfl, Nat.le_of_ble_eq_true rfl⟩) rfl hl.1 rfl (Nat.le_of_ble_eq_true rfl) dX7_faceAt_9 (fun H locs hP hS => ?_)
    refine lv_if_eq (tgt := 19) hx hb dX7_faceAt_12 (by decide) (fun u6 => ?_) (fun u6 => ?_)
    · have h := ite_t u6 h
      refine lv_iconst (v := 1) hx hb dX7_faceAt_19 (by decide) ?_
      exact b20 _ _ _ M a1 a2 1 hP hS (lv_sub hl [0, 1, 2] rfl) h
    · have h := ite_f u6 h
      refine lv_iconst (v := 0) hx hb dX7_faceAt_15 (by decide) ?_
      refine lv_goto (tgt := 20) hx hb dX7_faceAt_16 (by decide) ?_
      exact b20 _ _ _ M a1 a2 0 hP hS (lv_sub hl [0, 1, 2] rfl) h

theorem dX7_isCrossed_0 : decode cX7_isCrossed 0 = .ok (.aload_n 0, 1) := by decide +kernel
theorem dX7_isCrossed_1 : decode cX7_isCrossed 1 = .ok (.iload_n 1, 1) := by decide +kernel
theorem dX7_isCrossed_2 : decode cX7_isCrossed 2 = .ok (.invokevirtual 74, 3) := by decide +kernel
theorem dX7_isCrossed_5 : decode cX7_isCrossed 5 = .ok (.ifCond .le 26, 3) := by decide +kernel
theorem dX7_isCrossed_8 : decode cX7_isCrossed 8 = .ok (.iload_n 2, 1) := by decide +kernel
theorem dX7_isCrossed_9 : decode cX7_isCrossed 9 = .ok (.aload_n 0, 1) := by decide +kernel
theorem dX7_isCrossed_10 : decode cX7_isCrossed 10 = .ok (.getfield 7, 3) := by decide +kernel
theorem dX7_isCrossed_13 : decode cX7_isCrossed 13 = .ok (.iload_n 1, 1) := by decide +kernel
theorem dX7_isCrossed_14 : decode cX7_isCrossed 14 = .ok (.iaload, 1) := by decide +kernel
theorem dX7_isCrossed_15 : decode cX7_isCrossed 15 = .ok (.aload_n 0, 1) := by decide +kernel
theorem dX7_isCrossed_16 : decode cX7_isCrossed 16 = .ok (.getfield 16, 3) := by decide +kernel
theorem dX7_isCrossed_19 : decode cX7_isCrossed 19 = .ok (.iload_n 1, 1) := by decide +kernel
theorem dX7_isCrossed_20 : decode cX7_isCrossed 20 = .ok (.iaload, 1) := by decide +kernel
theorem dX7_isCrossed_21 : decode cX7_isCrossed 21 = .ok (.invokestatic 70, 3) := by decide +kernel
theorem dX7_isCrossed_24 : decode cX7_isCrossed 24 = .ok (.ifCond .eq 7, 3) := by decide +kernel
theorem dX7_isCrossed_27 : decode cX7_isCrossed 27 = .ok (.iconst 1, 1) := by decide +kernel
theorem dX7_isCrossed_28 : decode cX7_isCrossed 28 = .ok (.goto 4, 3) := by decide +kernel
theorem dX7_isCrossed_31 : decode cX7_isCrossed 31 = .ok (.iconst 0, 1) := by decide +kernel
theorem dX7_isCrossed_32 : decode cX7_isCrossed 32 = .ok (.ireturn, 1) := by decide +kernel
def f_isCrossed (F : Nat) (M : MS) (a1 : Int32) (a2 : Int32) : Option Int32 := cal (f_dx F M a1) fun t2 => (if t2 ≤ 0 then okB 0 (some 0) else rdI 13 (M.2.1 1) a1 fun t5 => rdI 13 (M.2.1 3) a1 fun t8 => cal (f_isIn F M a2 t5 t8) fun t12 => (if t12 = 0 then okB 0 (some 0) else okB 1 (some 1)))
set_option maxRecDepth 100000 in
set_option maxHeartbeats 4000000 in
theorem c_isCrossed (l : Launch) (G : mG) (F : Nat) (M : MS) (a1 : Int32) (a2 : Int32) (r : Int32) (h : f_isCrossed F M a1 a2 = some r) : mMI l yX7_isCrossed vX7_isCrossed ({ frames := 1, cells := 0, slots := 0, locals := 22 }) G [.ref (mO G), .int a1, .int a2] M M r := by
  refine mBodyI (cc := cX7_isCrossed) (maxL := 3) (ret := (some .boolean)) (by decide) rfl rfl ?_
  intro sz p e s m below meth c hC hP
  have hC0 := hC
  obtain ⟨hx, hb, -, hts, -, -, -, -, -, -⟩ := hC0
  have hS : va_S (mA G sz) s.heap s.heap [] := va_S.rf
  have hin : ∀ w ∈ wsX70, w ∈ vX7_isCrossed := fun w h => List.mem_cons_of_mem _ (List.mem_append_right _ h)
  have fl_x1 := hts _ (List.mem_cons_of_mem _ wm_10)
  have fl_x2 := hts _ (List.mem_cons_of_mem _ wm_9)
  refine m_entry (Nat.le_of_ble_eq_true rfl) (fun ls hl => ?_)
  have hl : lv_has ls 3 [(0, .ref (mO G)), (1, .int a1), (2, .int a2)] := hl
  unfold f_isCrossed at h
  refine lv_aload_n hx hb dX7_isCrossed_0 rfl (lv_at hl 0 rfl) ?_
  refine lv_iload_n hx hb dX7_isCrossed_1 rfl (lv_at hl 1 rfl) ?_
  obtain ⟨t2, e1, h⟩ := cal_el h
  refine m_VI (As := [.int a1]) (rest := []) hC hP hS (c_dx l G F M a1 t2 e1) (cwV 1 hts (gWM wm_15 wm_16 wm_17 wm_7 wm_8) rfl rfl rfl (by decide +kernel) ⟨Nat.le_of_ble_eq_true rfl, Nat.le_of_ble_eq_true rfl⟩) rfl hl.1 rfl (Nat.le_of_ble_eq_true rfl) dX7_isCrossed_2 (fun H locs hP hS => ?_)
  refine lv_if_le (tgt := 31) hx hb dX7_isCrossed_5 (by decide) (fun u3 => ?_) (fun u3 => ?_)
  · have h := ite_t u3 h
    refine lv_iconst (v := 0) hx hb dX7_isCrossed_31 (by decide) ?_
    obtain ⟨z4, h⟩ := okB_el h
    cases h
    exact m_zret hC hP hS z4 rfl dX7_isCrossed_32
  · have h := ite_f u3 h
    refine lv_iload_n hx hb dX7_isCrossed_8 rfl (lv_at hl 2 rfl) ?_
    refine lv_aload_n hx hb dX7_isCrossed_9 rfl (lv_at hl 0 rfl) ?_
    refine m_get hC hin hP 1 (by decide) fl_x1 rfl (v := .ref (mAd G 1)) rfl dX7_isCrossed_10 ?_
    refine lv_iload_n hx hb dX7_isCrossed_13 rfl (lv_at hl 1 rfl) ?_
    obtain ⟨z6, t5, e7, h⟩ := rdI_el h
    refine m_ild hC hP 1 (N := 13) rfl z6 e7 dX7_isCrossed_14 ?_
    refine lv_aload_n hx hb dX7_isCrossed_15 rfl (lv_at hl 0 rfl) ?_
    refine m_get hC hin hP 3 (by decide) fl_x2 rfl (v := .ref (mAd G 3)) rfl dX7_isCrossed_16 ?_
    refine lv_iload_n hx hb dX7_isCrossed_19 rfl (lv_at hl 1 rfl) ?_
    obtain ⟨z9, t8, e10, h⟩ := rdI_el h
    refine m_ild hC hP 3 (N := 13) rfl z9 e10 dX7_isCrossed_20 ?_
    obtain ⟨t12, e11, h⟩ := cal_el h
    refine m_SI (As := [.int a2, .int t5, .int t8]) (rest := []) hC hP hS (c_isIn l G F M a2 t5 t8 t12 e11) (va_cwS 3 hts (gWMS wm_5 wm_6 wm_7 wm_3) rfl rfl rfl (by decide +kernel) ⟨Nat.le_of_ble_eq_true rfl, Nat.le_of_ble_eq_true rfl⟩) rfl hl.1 rfl (Nat.le_of_ble_eq_true rfl) dX7_isCrossed_21 (fun H locs hP hS => ?_)
    refine lv_if_eq (tgt := 31) hx hb dX7_isCrossed_24 (by decide) (fun u13 => ?_) (fun u13 => ?_)
    · have h := ite_t u13 h
      refine lv_iconst (v := 0) hx hb dX7_isCrossed_31 (by decide) ?_
      obtain ⟨z14, h⟩ := okB_el h
      cases h
      exact m_zret hC hP hS z14 rfl dX7_isCrossed_32
    · have h := ite_f u13 h
      refine lv_iconst (v := 1) hx hb dX7_isCrossed_27 (by decide) ?_
      refine lv_goto (tgt := 32) hx hb dX7_isCrossed_28 (by decide) ?_
      obtain ⟨z15, h⟩ := okB_el h
      cases h
      exact m_zret hC hP hS z15 rfl dX7_isCrossed_32

theorem dX7_crossed_0 : decode cX7_crossed 0 = .ok (.iconst 0, 1) := by decide +kernel
theorem dX7_crossed_1 : decode cX7_crossed 1 = .ok (.istore_n 2, 1) := by decide +kernel
theorem dX7_crossed_2 : decode cX7_crossed 2 = .ok (.iconst 0, 1) := by decide +kernel
theorem dX7_crossed_3 : decode cX7_crossed 3 = .ok (.istore_n 3, 1) := by decide +kernel
theorem dX7_crossed_4 : decode cX7_crossed 4 = .ok (.iload_n 3, 1) := by decide +kernel
theorem dX7_crossed_5 : decode cX7_crossed 5 = .ok (.aload_n 0, 1) := by decide +kernel
theorem dX7_crossed_6 : decode cX7_crossed 6 = .ok (.getfield 104, 3) := by decide +kernel
theorem dX7_crossed_9 : decode cX7_crossed 9 = .ok (.if_icmp .ge 26, 3) := by decide +kernel
theorem dX7_crossed_12 : decode cX7_crossed 12 = .ok (.iload_n 2, 1) := by decide +kernel
theorem dX7_crossed_13 : decode cX7_crossed 13 = .ok (.aload_n 0, 1) := by decide +kernel
theorem dX7_crossed_14 : decode cX7_crossed 14 = .ok (.iload_n 3, 1) := by decide +kernel
theorem dX7_crossed_15 : decode cX7_crossed 15 = .ok (.iload_n 1, 1) := by decide +kernel
theorem dX7_crossed_16 : decode cX7_crossed 16 = .ok (.invokevirtual 221, 3) := by decide +kernel
theorem dX7_crossed_19 : decode cX7_crossed 19 = .ok (.ifCond .eq 7, 3) := by decide +kernel
theorem dX7_crossed_22 : decode cX7_crossed 22 = .ok (.iconst 1, 1) := by decide +kernel
theorem dX7_crossed_23 : decode cX7_crossed 23 = .ok (.goto 4, 3) := by decide +kernel
theorem dX7_crossed_26 : decode cX7_crossed 26 = .ok (.iconst 0, 1) := by decide +kernel
theorem dX7_crossed_27 : decode cX7_crossed 27 = .ok (.iadd, 1) := by decide +kernel
theorem dX7_crossed_28 : decode cX7_crossed 28 = .ok (.istore_n 2, 1) := by decide +kernel
theorem dX7_crossed_29 : decode cX7_crossed 29 = .ok (.iinc 3 1, 3) := by decide +kernel
theorem dX7_crossed_32 : decode cX7_crossed 32 = .ok (.goto (-28), 3) := by decide +kernel
theorem dX7_crossed_35 : decode cX7_crossed 35 = .ok (.iload_n 2, 1) := by decide +kernel
theorem dX7_crossed_36 : decode cX7_crossed 36 = .ok (.ireturn, 1) := by decide +kernel
def f_crossed_b27 (F : Nat) (k4 : Int32 → Int32 → Int32 → Option Int32) (M : MS) (x1 : Int32) (x3 : Int32) (s0 : Int32) (s1 : Int32) : Option Int32 := k4 x1 (s1 + s0) (x3 + 1)
def f_crossed_L4 (F : Nat) (M : MS) : Nat → Int32 → Int32 → Int32 → Option Int32
  | 0, _, _, _ => none
  | n4 + 1, x1, x2, x3 => (if (M.1 0) ≤ x3 then some x2 else cal (f_isCrossed F M x3 x1) fun t3 => (if t3 = 0 then f_crossed_b27 F ((f_crossed_L4 F M n4)) M x1 x3 0 x2 else f_crossed_b27 F ((f_crossed_L4 F M n4)) M x1 x3 1 x2))
def f_crossed (F : Nat) (M : MS) (a1 : Int32) : Option Int32 := f_crossed_L4 F M F a1 0 0
set_option maxRecDepth 100000 in
set_option maxHeartbeats 4000000 in
theorem c_crossed (l : Launch) (G : mG) (F : Nat) (M : MS) (a1 : Int32) (r : Int32) (h : f_crossed F M a1 = some r) : mMI l yX7_crossed vX7_crossed ({ frames := 2, cells := 0, slots := 0, locals := 44 }) G [.ref (mO G), .int a1] M M r := by
  refine mBodyI (cc := cX7_crossed) (maxL := 4) (ret := (some .int)) (by decide) rfl rfl ?_
  intro sz p e s m below meth c hC hP
  have hC0 := hC
  obtain ⟨hx, hb, -, hts, -, -, -, -, -, -⟩ := hC0
  have hS : va_S (mA G sz) s.heap s.heap [] := va_S.rf
  have hin : ∀ w ∈ wsX70, w ∈ vX7_crossed := fun w h => List.mem_cons_of_mem _ (List.mem_append_right _ h)
  have fl_segments := hts _ (List.mem_cons_of_mem _ wm_53)
  have L4 : ∀ (n4 : Nat) (H : Heap) (locs : List Loc) (ls : Array Slot) (x1 : Int32) (x2 : Int32) (x3 : Int32), va_P G.1 vwCl (mW G M) H → va_S (mA G sz) s.heap H locs → lv_has ls 4 [(0, .ref (mO G)), (1, .int x1), (2, .int x2), (3, .int x3)] → f_crossed_L4 F M n4 x1 x2 x3 = some r → W p l e (headSpec vX7_crossed ({ frames := 2, cells := 0, slots := 0, locals := 44 })).room s m ([.ref (mO G), .int a1] : List Value).toArray below meth c H locs 0 0 (mQI below G M sz ([.ref (mO G), .int a1] : List Value).toArray s r) (F0 m 4 ls []) := by
    intro n4
    induction n4 with
    | zero =>
      intro H locs ls x1 x2 x3 hP hS hl h
      rw [f_crossed_L4] at h; cases h
    | succ n4 ih4 =>
      have b27 : ∀ (H : Heap) (locs : List Loc) (ls : Array Slot) (x1 : Int32) (x3 : Int32) (s0 : Int32) (s1 : Int32), va_P G.1 vwCl (mW G M) H → va_S (mA G sz) s.heap H locs → lv_has ls 4 [(0, .ref (mO G)), (1, .int x1), (3, .int x3)] → f_crossed_b27 F ((f_crossed_L4 F M n4)) M x1 x3 s0 s1 = some r → W p l e (headSpec vX7_crossed ({ frames := 2, cells := 0, slots := 0, locals := 44 })).room s m ([.ref (mO G), .int a1] : List Value).toArray below meth c H locs 0 0 (mQI below G M sz ([.ref (mO G), .int a1] : List Value).toArray s r) (F0 m 27 ls [.int s0, .int s1]) := by
        intro H locs ls x1 x3 s0 s1 hP hS hl h
        unfold f_crossed_b27 at h
        refine lv_iadd hx hb dX7_crossed_27 ?_
        refine lv_istore_n (lv' := [(2, .int (s1 + s0)), (0, .ref (mO G)), (1, .int x1), (3, .int x3)]) hx hb dX7_crossed_28 rfl hl (by decide) rfl (fun ls hl => ?_)
        refine lv_iinc (v := x3 + 1) (lv' := [(3, .int (x3 + 1)), (2, .int (s1 + s0)), (0, .ref (mO G)), (1, .int x1)]) hx hb dX7_crossed_29 hl (k := 3) rfl rfl (by decide) rfl (fun ls hl => ?_)
        refine lv_goto (tgt := 4) hx hb dX7_crossed_32 (by decide) ?_
        exact ih4 _ _ _ x1 (s1 + s0) (x3 + 1) hP hS (lv_sub hl [2, 3, 1, 0] rfl) h
      intro H locs ls x1 x2 x3 hP hS hl h
      rw [f_crossed_L4] at h
      refine lv_iload_n hx hb dX7_crossed_4 rfl (lv_at hl 3 rfl) ?_
      refine lv_aload_n hx hb dX7_crossed_5 rfl (lv_at hl 0 rfl) ?_
      refine m_get hC hin hP 0 (by decide) fl_segments rfl (v := .int (M.1 0)) rfl dX7_crossed_6 ?_
      refine lv_icmp_ge (tgt := 35) hx hb dX7_crossed_9 (by decide) (fun u1 => ?_) (fun u1 => ?_)
      · have h := ite_t u1 h
        refine lv_iload_n hx hb dX7_crossed_35 rfl (lv_at hl 2 rfl) ?_
        cases h
        exact m_iret hC hP hS rfl dX7_crossed_36
      · have h := ite_f u1 h
        refine lv_iload_n hx hb dX7_crossed_12 rfl (lv_at hl 2 rfl) ?_
        refine lv_aload_n hx hb dX7_crossed_13 rfl (lv_at hl 0 rfl) ?_
        refine lv_iload_n hx hb dX7_crossed_14 rfl (lv_at hl 3 rfl) ?_
        refine lv_iload_n hx hb dX7_crossed_15 rfl (lv_at hl 1 rfl) ?_
        obtain ⟨t3, e2, h⟩ := cal_el h
        refine m_VI (As := [.int x3, .int x1]) (rest := [.int x2]) hC hP hS (c_isCrossed l G F M x3 x1 t3 e2) (cwV 2 hts (gWM wm_202 wm_203 wm_204 wm_7 wm_200) rfl rfl rfl (by decide +kernel) ⟨Nat.le_of_ble_eq_true rfl, Nat.le_of_ble_eq_true rfl⟩) rfl hl.1 rfl (Nat.le_of_ble_eq_true rfl) dX7_crossed_16 (fun H locs hP hS => ?_)
        refine lv_if_eq (tgt := 26) hx hb dX7_crossed_19 (by decide) (fun u4 => ?_) (fun u4 => ?_)
        · have h := ite_t u4 h
          refine lv_iconst (v := 0) hx hb dX7_crossed_26 (by decide) ?_
          exact b27 _ _ _ x1 x3 0 x2 hP hS (lv_sub hl [0, 1, 3] rfl) h
        · have h := ite_f u4 h
          refine lv_iconst (v := 1) hx hb dX7_crossed_22 (by decide) ?_
          refine lv_goto (tgt := 27) hx hb dX7_crossed_23 (by decide) ?_
          exact b27 _ _ _ x1 x3 1 x2 hP hS (lv_sub hl [0, 1, 3] rfl) h
  refine m_entry (Nat.le_of_ble_eq_true rfl) (fun ls hl => ?_)
  have hl : lv_has ls 4 [(0, .ref (mO G)), (1, .int a1)] := hl
  unfold f_crossed at h
  refine lv_iconst (v := 0) hx hb dX7_crossed_0 (by decide) ?_
  refine lv_istore_n (lv' := [(2, .int 0), (0, .ref (mO G)), (1, .int a1)]) hx hb dX7_crossed_1 rfl hl (by decide) rfl (fun ls hl => ?_)
  refine lv_iconst (v := 0) hx hb dX7_crossed_2 (by decide) ?_
  refine lv_istore_n (lv' := [(3, .int 0), (2, .int 0), (0, .ref (mO G)), (1, .int a1)]) hx hb dX7_crossed_3 rfl hl (by decide) rfl (fun ls hl => ?_)
  exact L4 F _ _ _ a1 0 0 hP hS (lv_sub hl [2, 3, 1, 0] rfl) h

theorem dX7_crossing_0 : decode cX7_crossing 0 = .ok (.aload_n 0, 1) := by decide +kernel
theorem dX7_crossing_1 : decode cX7_crossing 1 = .ok (.iload_n 1, 1) := by decide +kernel
theorem dX7_crossing_2 : decode cX7_crossing 2 = .ok (.invokestatic 100, 3) := by decide +kernel
theorem dX7_crossing_5 : decode cX7_crossing 5 = .ok (.ifCond .eq 7, 3) := by decide +kernel
theorem dX7_crossing_8 : decode cX7_crossing 8 = .ok (.iconst 0, 1) := by decide +kernel
theorem dX7_crossing_9 : decode cX7_crossing 9 = .ok (.goto 4, 3) := by decide +kernel
theorem dX7_crossing_12 : decode cX7_crossing 12 = .ok (.iconst 1, 1) := by decide +kernel
theorem dX7_crossing_13 : decode cX7_crossing 13 = .ok (.invokevirtual 107, 3) := by decide +kernel
theorem dX7_crossing_16 : decode cX7_crossing 16 = .ok (.ifCond .eq 11, 3) := by decide +kernel
theorem dX7_crossing_19 : decode cX7_crossing 19 = .ok (.aload_n 0, 1) := by decide +kernel
theorem dX7_crossing_20 : decode cX7_crossing 20 = .ok (.iload_n 1, 1) := by decide +kernel
theorem dX7_crossing_21 : decode cX7_crossing 21 = .ok (.invokevirtual 224, 3) := by decide +kernel
theorem dX7_crossing_24 : decode cX7_crossing 24 = .ok (.goto 4, 3) := by decide +kernel
theorem dX7_crossing_27 : decode cX7_crossing 27 = .ok (.iconst 0, 1) := by decide +kernel
theorem dX7_crossing_28 : decode cX7_crossing 28 = .ok (.ireturn, 1) := by decide +kernel
def f_crossing_b13 (F : Nat) (M : MS) (x1 : Int32) (s0 : Int32) : Option (MS × Int32) := caM (f_goes F M s0) fun M2 t3 => (if t3 = 0 then some (M2, 0) else cal (f_crossed F M2 x1) fun t6 => some (M2, t6))
def f_crossing (F : Nat) (M : MS) (a1 : Int32) : Option (MS × Int32) := cal (f_isPlace F M a1) fun t2 => (if t2 = 0 then f_crossing_b13 F M a1 1 else f_crossing_b13 F M a1 0)
set_option maxRecDepth 100000 in
set_option maxHeartbeats 4000000 in
theorem c_crossing (l : Launch) (G : mG) (F : Nat) (M M2 : MS) (a1 : Int32) (r : Int32) (h : f_crossing F M a1 = some (M2, r)) : mMI l yX7_crossing vX7_crossing ({ frames := 3, cells := 0, slots := 0, locals := 67 }) G [.ref (mO G), .int a1] M M2 r := by
  refine mBodyI (cc := cX7_crossing) (maxL := 2) (ret := (some .int)) (by decide) rfl rfl ?_
  intro sz p e s m below meth c hC hP
  have hC0 := hC
  obtain ⟨hx, hb, -, hts, -, -, -, -, -, -⟩ := hC0
  have hS : va_S (mA G sz) s.heap s.heap [] := va_S.rf
  have b13 : ∀ (H : Heap) (locs : List Loc) (ls : Array Slot) (M : MS) (x1 : Int32) (s0 : Int32), va_P G.1 vwCl (mW G M) H → va_S (mA G sz) s.heap H locs → lv_has ls 2 [(0, .ref (mO G)), (1, .int x1)] → f_crossing_b13 F M x1 s0 = some (M2, r) → W p l e (headSpec vX7_crossing ({ frames := 3, cells := 0, slots := 0, locals := 67 })).room s m ([.ref (mO G), .int a1] : List Value).toArray below meth c H locs 0 0 (mQI below G M2 sz ([.ref (mO G), .int a1] : List Value).toArray s r) (F0 m 13 ls [.int s0, .ref (mO G)]) := by
    intro H locs ls M x1 s0 hP hS hl h
    unfold f_crossing_b13 at h
    obtain ⟨M2, t3, e1, h⟩ := caM_el h
    refine m_VI (As := [.int s0]) (rest := []) hC hP hS (c_goes l G F M M2 s0 t3 e1) (cwV 1 hts (gWM wm_155 wm_156 wm_157 wm_7 wm_2) rfl rfl rfl (by decide +kernel) ⟨Nat.le_of_ble_eq_true rfl, Nat.le_of_ble_eq_true rfl⟩) rfl hl.1 rfl (Nat.le_of_ble_eq_true rfl) dX7_crossing_13 (fun H locs hP hS => ?_)
    refine lv_if_eq (tgt := 27) hx hb dX7_crossing_16 (by decide) (fun u4 => ?_) (fun u4 => ?_)
    · have h := ite_t u4 h
      refine lv_iconst (v := 0) hx hb dX7_crossing_27 (by decide) ?_
      cases h
      exact m_iret hC hP hS rfl dX7_crossing_28
    · have h := ite_f u4 h
      refine lv_aload_n hx hb dX7_crossing_19 rfl (lv_at hl 0 rfl) ?_
      refine lv_iload_n hx hb dX7_crossing_20 rfl (lv_at hl 1 rfl) ?_
      obtain ⟨t6, e5, h⟩ := cal_el h
      refine m_VI (As := [.int x1]) (rest := []) hC hP hS (c_crossed l G F M2 x1 t6 e5) (cwV 1 hts (gWM wm_206 wm_207 wm_208 wm_7 wm_201) rfl rfl rfl (by decide +kernel) ⟨Nat.le_of_ble_eq_true rfl, Nat.le_of_ble_eq_true rfl⟩) rfl hl.1 rfl (Nat.le_of_ble_eq_true rfl) dX7_crossing_21 (fun H locs hP hS => ?_)
      refine lv_goto (tgt := 28) hx hb dX7_crossing_24 (by decide) ?_
      cases h
      exact m_iret hC hP hS rfl dX7_crossing_28
  refine m_entry (Nat.le_of_ble_eq_true rfl) (fun ls hl => ?_)
  have hl : lv_has ls 2 [(0, .ref (mO G)), (1, .int a1)] := hl
  unfold f_crossing at h
  refine lv_aload_n hx hb dX7_crossing_0 rfl (lv_at hl 0 rfl) ?_
  refine lv_iload_n hx hb dX7_crossing_1 rfl (lv_at hl 1 rfl) ?_
  obtain ⟨t2, e1, h⟩ := cal_el h
  refine m_SI (As := [.int a1]) (rest := [.ref (mO G)]) hC hP hS (c_isPlace l G F M a1 t2 e1) (va_cwS 1 hts (gWMS wm_153 wm_154 wm_7 wm_4) rfl rfl rfl (by decide +kernel) ⟨Nat.le_of_ble_eq_true rfl, Nat.le_of_ble_eq_true rfl⟩) rfl hl.1 rfl (Nat.le_of_ble_eq_true rfl) dX7_crossing_2 (fun H locs hP hS => ?_)
  refine lv_if_eq (tgt := 12) hx hb dX7_crossing_5 (by decide) (fun u3 => ?_) (fun u3 => ?_)
  · have h := ite_t u3 h
    refine lv_iconst (v := 1) hx hb dX7_crossing_12 (by decide) ?_
    exact b13 _ _ _ M a1 1 hP hS (lv_sub hl [0, 1] rfl) h
  · have h := ite_f u3 h
    refine lv_iconst (v := 0) hx hb dX7_crossing_8 (by decide) ?_
    refine lv_goto (tgt := 13) hx hb dX7_crossing_9 (by decide) ?_
    exact b13 _ _ _ M a1 0 hP hS (lv_sub hl [0, 1] rfl) h

theorem dX7_isBelow_0 : decode cX7_isBelow 0 = .ok (.aload_n 0, 1) := by decide +kernel
theorem dX7_isBelow_1 : decode cX7_isBelow 1 = .ok (.iload_n 1, 1) := by decide +kernel
theorem dX7_isBelow_2 : decode cX7_isBelow 2 = .ok (.iload_n 2, 1) := by decide +kernel
theorem dX7_isBelow_3 : decode cX7_isBelow 3 = .ok (.iload_n 3, 1) := by decide +kernel
theorem dX7_isBelow_4 : decode cX7_isBelow 4 = .ok (.i2l, 1) := by decide +kernel
theorem dX7_isBelow_5 : decode cX7_isBelow 5 = .ok (.lconst 1, 1) := by decide +kernel
theorem dX7_isBelow_6 : decode cX7_isBelow 6 = .ok (.invokevirtual 176, 3) := by decide +kernel
theorem dX7_isBelow_9 : decode cX7_isBelow 9 = .ok (.istore 4, 2) := by decide +kernel
theorem dX7_isBelow_11 : decode cX7_isBelow 11 = .ok (.aload_n 0, 1) := by decide +kernel
theorem dX7_isBelow_12 : decode cX7_isBelow 12 = .ok (.iload_n 1, 1) := by decide +kernel
theorem dX7_isBelow_13 : decode cX7_isBelow 13 = .ok (.iload_n 2, 1) := by decide +kernel
theorem dX7_isBelow_14 : decode cX7_isBelow 14 = .ok (.invokevirtual 180, 3) := by decide +kernel
theorem dX7_isBelow_17 : decode cX7_isBelow 17 = .ok (.istore 5, 2) := by decide +kernel
theorem dX7_isBelow_19 : decode cX7_isBelow 19 = .ok (.iload 4, 2) := by decide +kernel
theorem dX7_isBelow_21 : decode cX7_isBelow 21 = .ok (.ifCond .lt 23, 3) := by decide +kernel
theorem dX7_isBelow_24 : decode cX7_isBelow 24 = .ok (.iload 4, 2) := by decide +kernel
theorem dX7_isBelow_26 : decode cX7_isBelow 26 = .ok (.ifCond .ne 22, 3) := by decide +kernel
theorem dX7_isBelow_29 : decode cX7_isBelow 29 = .ok (.iload 5, 2) := by decide +kernel
theorem dX7_isBelow_31 : decode cX7_isBelow 31 = .ok (.ifCond .lt 13, 3) := by decide +kernel
theorem dX7_isBelow_34 : decode cX7_isBelow 34 = .ok (.iload 5, 2) := by decide +kernel
theorem dX7_isBelow_36 : decode cX7_isBelow 36 = .ok (.ifCond .ne 12, 3) := by decide +kernel
theorem dX7_isBelow_39 : decode cX7_isBelow 39 = .ok (.iload_n 1, 1) := by decide +kernel
theorem dX7_isBelow_40 : decode cX7_isBelow 40 = .ok (.iload_n 2, 1) := by decide +kernel
theorem dX7_isBelow_41 : decode cX7_isBelow 41 = .ok (.if_icmp .ge 7, 3) := by decide +kernel
theorem dX7_isBelow_44 : decode cX7_isBelow 44 = .ok (.iconst 1, 1) := by decide +kernel
theorem dX7_isBelow_45 : decode cX7_isBelow 45 = .ok (.goto 4, 3) := by decide +kernel
theorem dX7_isBelow_48 : decode cX7_isBelow 48 = .ok (.iconst 0, 1) := by decide +kernel
theorem dX7_isBelow_49 : decode cX7_isBelow 49 = .ok (.ireturn, 1) := by decide +kernel
def f_isBelow (F : Nat) (M : MS) (a1 : Int32) (a2 : Int32) (a3 : Int32) : Option Int32 := cal (f_heights F M a1 a2 a3.toInt64 1) fun t2 => cal (f_slopes F M a1 a2) fun t4 => (if t2 < 0 then okB 1 (some 1) else (if t2 = 0 then (if t4 < 0 then okB 1 (some 1) else (if t4 = 0 then (if a2 ≤ a1 then okB 0 (some 0) else okB 1 (some 1)) else okB 0 (some 0))) else okB 0 (some 0)))
set_option maxRecDepth 100000 in
set_option maxHeartbeats 4000000 in
theorem c_isBelow (l : Launch) (G : mG) (F : Nat) (M : MS) (a1 : Int32) (a2 : Int32) (a3 : Int32) (r : Int32) (h : f_isBelow F M a1 a2 a3 = some r) : mMI l yX7_isBelow vX7_isBelow ({ frames := 3, cells := 0, slots := 0, locals := 72 }) G [.ref (mO G), .int a1, .int a2, .int a3] M M r := by
  refine mBodyI (cc := cX7_isBelow) (maxL := 6) (ret := (some .boolean)) (by decide) rfl rfl ?_
  intro sz p e s m below meth c hC hP
  have hC0 := hC
  obtain ⟨hx, hb, -, hts, -, -, -, -, -, -⟩ := hC0
  have hS : va_S (mA G sz) s.heap s.heap [] := va_S.rf
  refine m_entry (Nat.le_of_ble_eq_true rfl) (fun ls hl => ?_)
  have hl : lv_has ls 6 [(0, .ref (mO G)), (1, .int a1), (2, .int a2), (3, .int a3)] := hl
  unfold f_isBelow at h
  refine lv_aload_n hx hb dX7_isBelow_0 rfl (lv_at hl 0 rfl) ?_
  refine lv_iload_n hx hb dX7_isBelow_1 rfl (lv_at hl 1 rfl) ?_
  refine lv_iload_n hx hb dX7_isBelow_2 rfl (lv_at hl 2 rfl) ?_
  refine lv_iload_n hx hb dX7_isBelow_3 rfl (lv_at hl 3 rfl) ?_
  refine lv_i2l (v := a3.toInt64) hx hb dX7_isBelow_4 rfl ?_
  refine lv_lconst (v := 1) hx hb dX7_isBelow_5 (by decide) ?_
  obtain ⟨t2, e1, h⟩ := cal_el h
  refine m_VI (As := [.int a1, .int a2, .long a3.toInt64, .long 1]) (rest := []) hC hP hS (c_heights l G F M a1 a2 a3.toInt64 1 t2 e1) (cwV 4 hts (gWM wm_116 wm_117 wm_118 wm_7 wm_108) rfl rfl rfl (by decide +kernel) ⟨Nat.le_of_ble_eq_true rfl, Nat.le_of_ble_eq_true rfl⟩) rfl hl.1 rfl (Nat.le_of_ble_eq_true rfl) dX7_isBelow_6 (fun H locs hP hS => ?_)
  refine lv_istore (lv' := [(4, .int t2), (0, .ref (mO G)), (1, .int a1), (2, .int a2), (3, .int a3)]) hx hb dX7_isBelow_9 hl (by decide) rfl (fun ls hl => ?_)
  refine lv_aload_n hx hb dX7_isBelow_11 rfl (lv_at hl 1 rfl) ?_
  refine lv_iload_n hx hb dX7_isBelow_12 rfl (lv_at hl 2 rfl) ?_
  refine lv_iload_n hx hb dX7_isBelow_13 rfl (lv_at hl 3 rfl) ?_
  obtain ⟨t4, e3, h⟩ := cal_el h
  refine m_VI (As := [.int a1, .int a2]) (rest := []) hC hP hS (c_slopes l G F M a1 a2 t4 e3) (cwV 2 hts (gWM wm_119 wm_120 wm_121 wm_7 wm_112) rfl rfl rfl (by decide +kernel) ⟨Nat.le_of_ble_eq_true rfl, Nat.le_of_ble_eq_true rfl⟩) rfl hl.1 rfl (Nat.le_of_ble_eq_true rfl) dX7_isBelow_14 (fun H locs hP hS => ?_)
  refine lv_istore (lv' := [(5, .int t4), (4, .int t2), (0, .ref (mO G)), (1, .int a1), (2, .int a2), (3, .int a3)]) hx hb dX7_isBelow_17 hl (by decide) rfl (fun ls hl => ?_)
  refine lv_iload hx hb dX7_isBelow_19 (lv_at hl 1 rfl) ?_
  refine lv_if_lt (tgt := 44) hx hb dX7_isBelow_21 (by decide) (fun u5 => ?_) (fun u5 => ?_)
  · have h := ite_t u5 h
    refine lv_iconst (v := 1) hx hb dX7_isBelow_44 (by decide) ?_
    refine lv_goto (tgt := 49) hx hb dX7_isBelow_45 (by decide) ?_
    obtain ⟨z6, h⟩ := okB_el h
    cases h
    exact m_zret hC hP hS z6 rfl dX7_isBelow_49
  · have h := ite_f u5 h
    refine lv_iload hx hb dX7_isBelow_24 (lv_at hl 1 rfl) ?_
    refine lv_if_ne (tgt := 48) hx hb dX7_isBelow_26 (by decide) (fun u7 => ?_) (fun u7 => ?_)
    · have h := ite_f u7 h
      refine lv_iconst (v := 0) hx hb dX7_isBelow_48 (by decide) ?_
      obtain ⟨z8, h⟩ := okB_el h
      cases h
      exact m_zret hC hP hS z8 rfl dX7_isBelow_49
    · have h := ite_t u7 h
      refine lv_iload hx hb dX7_isBelow_29 (lv_at hl 0 rfl) ?_
      refine lv_if_lt (tgt := 44) hx hb dX7_isBelow_31 (by decide) (fun u9 => ?_) (fun u9 => ?_)
      · have h := ite_t u9 h
        refine lv_iconst (v := 1) hx hb dX7_isBelow_44 (by decide) ?_
        refine lv_goto (tgt := 49) hx hb dX7_isBelow_45 (by decide) ?_
        obtain ⟨z10, h⟩ := okB_el h
        cases h
        exact m_zret hC hP hS z10 rfl dX7_isBelow_49
      · have h := ite_f u9 h
        refine lv_iload hx hb dX7_isBelow_34 (lv_at hl 0 rfl) ?_
        refine lv_if_ne (tgt := 48) hx hb dX7_isBelow_36 (by decide) (fun u11 => ?_) (fun u11 => ?_)
        · have h := ite_f u11 h
          refine lv_iconst (v := 0) hx hb dX7_isBelow_48 (by decide) ?_
          obtain ⟨z12, h⟩ := okB_el h
          cases h
          exact m_zret hC hP hS z12 rfl dX7_isBelow_49
        · have h := ite_t u11 h
          refine lv_iload_n hx hb dX7_isBelow_39 rfl (lv_at hl 3 rfl) ?_
          refine lv_iload_n hx hb dX7_isBelow_40 rfl (lv_at hl 4 rfl) ?_
          refine lv_icmp_ge (tgt := 48) hx hb dX7_isBelow_41 (by decide) (fun u13 => ?_) (fun u13 => ?_)
          · have h := ite_t u13 h
            refine lv_iconst (v := 0) hx hb dX7_isBelow_48 (by decide) ?_
            obtain ⟨z14, h⟩ := okB_el h
            cases h
            exact m_zret hC hP hS z14 rfl dX7_isBelow_49
          · have h := ite_f u13 h
            refine lv_iconst (v := 1) hx hb dX7_isBelow_44 (by decide) ?_
            refine lv_goto (tgt := 49) hx hb dX7_isBelow_45 (by decide) ?_
            obtain ⟨z15, h⟩ := okB_el h
            cases h
            exact m_zret hC hP hS z15 rfl dX7_isBelow_49

theorem dX7_crossingAt_0 : decode cX7_crossingAt 0 = .ok (.aload_n 0, 1) := by decide +kernel
theorem dX7_crossingAt_1 : decode cX7_crossingAt 1 = .ok (.iload_n 1, 1) := by decide +kernel
theorem dX7_crossingAt_2 : decode cX7_crossingAt 2 = .ok (.invokestatic 100, 3) := by decide +kernel
theorem dX7_crossingAt_5 : decode cX7_crossingAt 5 = .ok (.ifCond .ne 7, 3) := by decide +kernel
theorem dX7_crossingAt_8 : decode cX7_crossingAt 8 = .ok (.iconst 1, 1) := by decide +kernel
theorem dX7_crossingAt_9 : decode cX7_crossingAt 9 = .ok (.goto 23, 3) := by decide +kernel
theorem dX7_crossingAt_12 : decode cX7_crossingAt 12 = .ok (.iload_n 2, 1) := by decide +kernel
theorem dX7_crossingAt_13 : decode cX7_crossingAt 13 = .ok (.iconst 0, 1) := by decide +kernel
theorem dX7_crossingAt_14 : decode cX7_crossingAt 14 = .ok (.aload_n 0, 1) := by decide +kernel
theorem dX7_crossingAt_15 : decode cX7_crossingAt 15 = .ok (.iload_n 1, 1) := by decide +kernel
theorem dX7_crossingAt_16 : decode cX7_crossingAt 16 = .ok (.invokevirtual 224, 3) := by decide +kernel
theorem dX7_crossingAt_19 : decode cX7_crossingAt 19 = .ok (.iconst 1, 1) := by decide +kernel
theorem dX7_crossingAt_20 : decode cX7_crossingAt 20 = .ok (.isub, 1) := by decide +kernel
theorem dX7_crossingAt_21 : decode cX7_crossingAt 21 = .ok (.invokestatic 70, 3) := by decide +kernel
theorem dX7_crossingAt_24 : decode cX7_crossingAt 24 = .ok (.ifCond .eq 7, 3) := by decide +kernel
theorem dX7_crossingAt_27 : decode cX7_crossingAt 27 = .ok (.iconst 0, 1) := by decide +kernel
theorem dX7_crossingAt_28 : decode cX7_crossingAt 28 = .ok (.goto 4, 3) := by decide +kernel
theorem dX7_crossingAt_31 : decode cX7_crossingAt 31 = .ok (.iconst 2, 1) := by decide +kernel
theorem dX7_crossingAt_32 : decode cX7_crossingAt 32 = .ok (.invokevirtual 107, 3) := by decide +kernel
theorem dX7_crossingAt_35 : decode cX7_crossingAt 35 = .ok (.ifCond .ne 5, 3) := by decide +kernel
theorem dX7_crossingAt_38 : decode cX7_crossingAt 38 = .ok (.iconst 0, 1) := by decide +kernel
theorem dX7_crossingAt_39 : decode cX7_crossingAt 39 = .ok (.ireturn, 1) := by decide +kernel
theorem dX7_crossingAt_40 : decode cX7_crossingAt 40 = .ok (.iconst (-1), 1) := by decide +kernel
theorem dX7_crossingAt_41 : decode cX7_crossingAt 41 = .ok (.istore_n 3, 1) := by decide +kernel
theorem dX7_crossingAt_42 : decode cX7_crossingAt 42 = .ok (.iconst 0, 1) := by decide +kernel
theorem dX7_crossingAt_43 : decode cX7_crossingAt 43 = .ok (.istore 4, 2) := by decide +kernel
theorem dX7_crossingAt_45 : decode cX7_crossingAt 45 = .ok (.iload 4, 2) := by decide +kernel
theorem dX7_crossingAt_47 : decode cX7_crossingAt 47 = .ok (.aload_n 0, 1) := by decide +kernel
theorem dX7_crossingAt_48 : decode cX7_crossingAt 48 = .ok (.getfield 104, 3) := by decide +kernel
theorem dX7_crossingAt_51 : decode cX7_crossingAt 51 = .ok (.if_icmp .ge 95, 3) := by decide +kernel
theorem dX7_crossingAt_54 : decode cX7_crossingAt 54 = .ok (.iconst 0, 1) := by decide +kernel
theorem dX7_crossingAt_55 : decode cX7_crossingAt 55 = .ok (.istore 5, 2) := by decide +kernel
theorem dX7_crossingAt_57 : decode cX7_crossingAt 57 = .ok (.iconst 0, 1) := by decide +kernel
theorem dX7_crossingAt_58 : decode cX7_crossingAt 58 = .ok (.istore 6, 2) := by decide +kernel
theorem dX7_crossingAt_60 : decode cX7_crossingAt 60 = .ok (.iload 6, 2) := by decide +kernel
theorem dX7_crossingAt_62 : decode cX7_crossingAt 62 = .ok (.aload_n 0, 1) := by decide +kernel
theorem dX7_crossingAt_63 : decode cX7_crossingAt 63 = .ok (.getfield 104, 3) := by decide +kernel
theorem dX7_crossingAt_66 : decode cX7_crossingAt 66 = .ok (.if_icmp .ge 51, 3) := by decide +kernel
theorem dX7_crossingAt_69 : decode cX7_crossingAt 69 = .ok (.iload 5, 2) := by decide +kernel
theorem dX7_crossingAt_71 : decode cX7_crossingAt 71 = .ok (.aload_n 0, 1) := by decide +kernel
theorem dX7_crossingAt_72 : decode cX7_crossingAt 72 = .ok (.iload 6, 2) := by decide +kernel
theorem dX7_crossingAt_74 : decode cX7_crossingAt 74 = .ok (.iload_n 1, 1) := by decide +kernel
theorem dX7_crossingAt_75 : decode cX7_crossingAt 75 = .ok (.invokevirtual 221, 3) := by decide +kernel
theorem dX7_crossingAt_78 : decode cX7_crossingAt 78 = .ok (.ifCond .eq 29, 3) := by decide +kernel
theorem dX7_crossingAt_81 : decode cX7_crossingAt 81 = .ok (.aload_n 0, 1) := by decide +kernel
theorem dX7_crossingAt_82 : decode cX7_crossingAt 82 = .ok (.iload 4, 2) := by decide +kernel
theorem dX7_crossingAt_84 : decode cX7_crossingAt 84 = .ok (.iload_n 1, 1) := by decide +kernel
theorem dX7_crossingAt_85 : decode cX7_crossingAt 85 = .ok (.invokevirtual 221, 3) := by decide +kernel
theorem dX7_crossingAt_88 : decode cX7_crossingAt 88 = .ok (.ifCond .eq 19, 3) := by decide +kernel
theorem dX7_crossingAt_91 : decode cX7_crossingAt 91 = .ok (.aload_n 0, 1) := by decide +kernel
theorem dX7_crossingAt_92 : decode cX7_crossingAt 92 = .ok (.iload 6, 2) := by decide +kernel
theorem dX7_crossingAt_94 : decode cX7_crossingAt 94 = .ok (.iload 4, 2) := by decide +kernel
theorem dX7_crossingAt_96 : decode cX7_crossingAt 96 = .ok (.iload_n 1, 1) := by decide +kernel
theorem dX7_crossingAt_97 : decode cX7_crossingAt 97 = .ok (.invokevirtual 227, 3) := by decide +kernel
theorem dX7_crossingAt_100 : decode cX7_crossingAt 100 = .ok (.ifCond .eq 7, 3) := by decide +kernel
theorem dX7_crossingAt_103 : decode cX7_crossingAt 103 = .ok (.iconst 1, 1) := by decide +kernel
theorem dX7_crossingAt_104 : decode cX7_crossingAt 104 = .ok (.goto 4, 3) := by decide +kernel
theorem dX7_crossingAt_107 : decode cX7_crossingAt 107 = .ok (.iconst 0, 1) := by decide +kernel
theorem dX7_crossingAt_108 : decode cX7_crossingAt 108 = .ok (.iadd, 1) := by decide +kernel
theorem dX7_crossingAt_109 : decode cX7_crossingAt 109 = .ok (.istore 5, 2) := by decide +kernel
theorem dX7_crossingAt_111 : decode cX7_crossingAt 111 = .ok (.iinc 6 1, 3) := by decide +kernel
theorem dX7_crossingAt_114 : decode cX7_crossingAt 114 = .ok (.goto (-54), 3) := by decide +kernel
theorem dX7_crossingAt_117 : decode cX7_crossingAt 117 = .ok (.aload_n 0, 1) := by decide +kernel
theorem dX7_crossingAt_118 : decode cX7_crossingAt 118 = .ok (.iload 4, 2) := by decide +kernel
theorem dX7_crossingAt_120 : decode cX7_crossingAt 120 = .ok (.iload_n 1, 1) := by decide +kernel
theorem dX7_crossingAt_121 : decode cX7_crossingAt 121 = .ok (.invokevirtual 221, 3) := by decide +kernel
theorem dX7_crossingAt_124 : decode cX7_crossingAt 124 = .ok (.ifCond .eq 14, 3) := by decide +kernel
theorem dX7_crossingAt_127 : decode cX7_crossingAt 127 = .ok (.iload 5, 2) := by decide +kernel
theorem dX7_crossingAt_129 : decode cX7_crossingAt 129 = .ok (.iload_n 2, 1) := by decide +kernel
theorem dX7_crossingAt_130 : decode cX7_crossingAt 130 = .ok (.if_icmp .ne 8, 3) := by decide +kernel
theorem dX7_crossingAt_133 : decode cX7_crossingAt 133 = .ok (.iload 4, 2) := by decide +kernel
theorem dX7_crossingAt_135 : decode cX7_crossingAt 135 = .ok (.goto 4, 3) := by decide +kernel
theorem dX7_crossingAt_138 : decode cX7_crossingAt 138 = .ok (.iload_n 3, 1) := by decide +kernel
theorem dX7_crossingAt_139 : decode cX7_crossingAt 139 = .ok (.istore_n 3, 1) := by decide +kernel
theorem dX7_crossingAt_140 : decode cX7_crossingAt 140 = .ok (.iinc 4 1, 3) := by decide +kernel
theorem dX7_crossingAt_143 : decode cX7_crossingAt 143 = .ok (.goto (-98), 3) := by decide +kernel
theorem dX7_crossingAt_146 : decode cX7_crossingAt 146 = .ok (.iload_n 3, 1) := by decide +kernel
theorem dX7_crossingAt_147 : decode cX7_crossingAt 147 = .ok (.ireturn, 1) := by decide +kernel
def f_crossingAt_b139 (F : Nat) (k45 : MS → Int32 → Int32 → Int32 → Int32 → Option (MS × Int32)) (M : MS) (x1 : Int32) (x2 : Int32) (x4 : Int32) (s0 : Int32) : Option (MS × Int32) := k45 M x1 x2 s0 (x4 + 1)
def f_crossingAt_b108 (F : Nat) (k45 : MS → Int32 → Int32 → Int32 → Int32 → Option (MS × Int32)) (k60 : MS → Int32 → Int32 → Int32 → Int32 → Int32 → Int32 → Option (MS × Int32)) (M : MS) (x1 : Int32) (x2 : Int32) (x3 : Int32) (x4 : Int32) (x6 : Int32) (s0 : Int32) (s1 : Int32) : Option (MS × Int32) := k60 M x1 x2 x3 x4 (s1 + s0) (x6 + 1)
def f_crossingAt_L60 (F : Nat) (k45 : MS → Int32 → Int32 → Int32 → Int32 → Option (MS × Int32)) : Nat → MS → Int32 → Int32 → Int32 → Int32 → Int32 → Int32 → Option (MS × Int32)
  | 0, _, _, _, _, _, _, _ => none
  | n60 + 1, M, x1, x2, x3, x4, x5, x6 => (if (M.1 0) ≤ x6 then cal (f_isCrossed F M x4 x1) fun t3 => (if t3 = 0 then f_crossingAt_b139 F k45 M x1 x2 x4 x3 else (if x5 = x2 then f_crossingAt_b139 F k45 M x1 x2 x4 x4 else f_crossingAt_b139 F k45 M x1 x2 x4 x3)) else cal (f_isCrossed F M x6 x1) fun t7 => (if t7 = 0 then f_crossingAt_b108 F k45 ((f_crossingAt_L60 F k45 n60)) M x1 x2 x3 x4 x6 0 x5 else cal (f_isCrossed F M x4 x1) fun t10 => (if t10 = 0 then f_crossingAt_b108 F k45 ((f_crossingAt_L60 F k45 n60)) M x1 x2 x3 x4 x6 0 x5 else cal (f_isBelow F M x6 x4 x1) fun t13 => (if t13 = 0 then f_crossingAt_b108 F k45 ((f_crossingAt_L60 F k45 n60)) M x1 x2 x3 x4 x6 0 x5 else f_crossingAt_b108 F k45 ((f_crossingAt_L60 F k45 n60)) M x1 x2 x3 x4 x6 1 x5))))
def f_crossingAt_L45 (F : Nat) : Nat → MS → Int32 → Int32 → Int32 → Int32 → Option (MS × Int32)
  | 0, _, _, _, _, _ => none
  | n45 + 1, M, x1, x2, x3, x4 => (if (M.1 0) ≤ x4 then some (M, x3) else f_crossingAt_L60 F ((f_crossingAt_L45 F n45)) F M x1 x2 x3 x4 0 0)
def f_crossingAt_b32 (F : Nat) (M : MS) (x1 : Int32) (x2 : Int32) (s0 : Int32) : Option (MS × Int32) := caM (f_goes F M s0) fun M2 t3 => (if t3 = 0 then some (M2, 0) else f_crossingAt_L45 F F M2 x1 x2 ((-1)) 0)
def f_crossingAt (F : Nat) (M : MS) (a1 : Int32) (a2 : Int32) : Option (MS × Int32) := cal (f_isPlace F M a1) fun t2 => (if t2 = 0 then f_crossingAt_b32 F M a1 a2 1 else cal (f_crossed F M a1) fun t5 => cal (f_isIn F M a2 0 (t5 - 1)) fun t7 => (if t7 = 0 then f_crossingAt_b32 F M a1 a2 2 else f_crossingAt_b32 F M a1 a2 0))
set_option maxRecDepth 100000 in
set_option maxHeartbeats 4000000 in
theorem c_crossingAt (l : Launch) (G : mG) (F : Nat) (M M2 : MS) (a1 : Int32) (a2 : Int32) (r : Int32) (h : f_crossingAt F M a1 a2 = some (M2, r)) : mMI l yX7_crossingAt vX7_crossingAt ({ frames := 4, cells := 0, slots := 0, locals := 97 }) G [.ref (mO G), .int a1, .int a2] M M2 r := by
  refine mBodyI (cc := cX7_crossingAt) (maxL := 7) (ret := (some .int)) (by decide) rfl rfl ?_
  intro sz p e s m below meth c hC hP
  have hC0 := hC
  obtain ⟨hx, hb, -, hts, -, -, -, -, -, -⟩ := hC0
  have hS : va_S (mA G sz) s.heap s.heap [] := va_S.rf
  have hin : ∀ w ∈ wsX70, w ∈ vX7_crossingAt := fun w h => List.mem_cons_of_mem _ (List.mem_append_right _ h)
  have fl_segments := hts _ (List.mem_cons_of_mem _ wm_53)
  have L45 : ∀ (n45 : Nat) (H : Heap) (locs : List Loc) (ls : Array Slot) (M : MS) (x1 : Int32) (x2 : Int32) (x3 : Int32) (x4 : Int32), va_P G.1 vwCl (mW G M) H → va_S (mA G sz) s.heap H locs → lv_has ls 7 [(0, .ref (mO G)), (1, .int x1), (2, .int x2), (3, .int x3), (4, .int x4)] → f_crossingAt_L45 F n45 M x1 x2 x3 x4 = some (M2, r) → W p l e (headSpec vX7_crossingAt ({ frames := 4, cells := 0, slots := 0, locals := 97 })).room s m ([.ref (mO G), .int a1, .int a2] : List Value).toArray below meth c H locs 0 0 (mQI below G M2 sz ([.ref (mO G), .int a1, .int a2] : List Value).toArray s r) (F0 m 45 ls []) := by
    intro n45
    induction n45 with
    | zero =>
      intro H locs ls M x1 x2 x3 x4 hP hS hl h
      rw [f_crossingAt_L45] at h; cases h
    | succ n45 ih45 =>
      have b139 : ∀ (H : Heap) (locs : List Loc) (ls : Array Slot) (M : MS) (x1 : Int32) (x2 : Int32) (x4 : Int32) (s0 : Int32), va_P G.1 vwCl (mW G M) H → va_S (mA G sz) s.heap H locs → lv_has ls 7 [(0, .ref (mO G)), (1, .int x1), (2, .int x2), (4, .int x4)] → f_crossingAt_b139 F ((f_crossingAt_L45 F n45)) M x1 x2 x4 s0 = some (M2, r) → W p l e (headSpec vX7_crossingAt ({ frames := 4, cells := 0, slots := 0, locals := 97 })).room s m ([.ref (mO G), .int a1, .int a2] : List Value).toArray below meth c H locs 0 0 (mQI below G M2 sz ([.ref (mO G), .int a1, .int a2] : List Value).toArray s r) (F0 m 139 ls [.int s0]) := by
        intro H locs ls M x1 x2 x4 s0 hP hS hl h
        unfold f_crossingAt_b139 at h
        refine lv_istore_n (lv' := [(3, .int s0), (0, .ref (mO G)), (1, .int x1), (2, .int x2), (4, .int x4)]) hx hb dX7_crossingAt_139 rfl hl (by decide) rfl (fun ls hl => ?_)
        refine lv_iinc (v := x4 + 1) (lv' := [(4, .int (x4 + 1)), (3, .int s0), (0, .ref (mO G)), (1, .int x1), (2, .int x2)]) hx hb dX7_crossingAt_140 hl (k := 4) rfl rfl (by decide) rfl (fun ls hl => ?_)
        refine lv_goto (tgt := 45) hx hb dX7_crossingAt_143 (by decide) ?_
        exact ih45 _ _ _ M x1 x2 s0 (x4 + 1) hP hS (lv_sub hl [2, 3, 4, 1, 0] rfl) h
      have L60 : ∀ (n60 : Nat) (H : Heap) (locs : List Loc) (ls : Array Slot) (M : MS) (x1 : Int32) (x2 : Int32) (x3 : Int32) (x4 : Int32) (x5 : Int32) (x6 : Int32), va_P G.1 vwCl (mW G M) H → va_S (mA G sz) s.heap H locs → lv_has ls 7 [(0, .ref (mO G)), (1, .int x1), (2, .int x2), (3, .int x3), (4, .int x4), (5, .int x5), (6, .int x6)] → f_crossingAt_L60 F ((f_crossingAt_L45 F n45)) n60 M x1 x2 x3 x4 x5 x6 = some (M2, r) → W p l e (headSpec vX7_crossingAt ({ frames := 4, cells := 0, slots := 0, locals := 97 })).room s m ([.ref (mO G), .int a1, .int a2] : List Value).toArray below meth c H locs 0 0 (mQI below G M2 sz ([.ref (mO G), .int a1, .int a2] : List Value).toArray s r) (F0 m 60 ls []) := by
        intro n60
        induction n60 with
        | zero =>
          intro H locs ls M x1 x2 x3 x4 x5 x6 hP hS hl h
          rw [f_crossingAt_L60] at h; cases h
        | succ n60 ih60 =>
          have b108 : ∀ (H : Heap) (locs : List Loc) (ls : Array Slot) (M : MS) (x1 : Int32) (x2 : Int32) (x3 : Int32) (x4 : Int32) (x6 : Int32) (s0 : Int32) (s1 : Int32), va_P G.1 vwCl (mW G M) H → va_S (mA G sz) s.heap H locs → lv_has ls 7 [(0, .ref (mO G)), (1, .int x1), (2, .int x2), (3, .int x3), (4, .int x4), (6, .int x6)] → f_crossingAt_b108 F ((f_crossingAt_L45 F n45)) ((f_crossingAt_L60 F ((f_crossingAt_L45 F n45)) n60)) M x1 x2 x3 x4 x6 s0 s1 = some (M2, r) → W p l e (headSpec vX7_crossingAt ({ frames := 4, cells := 0, slots := 0, locals := 97 })).room s m ([.ref (mO G), .int a1, .int a2] : List Value).toArray below meth c H locs 0 0 (mQI below G M2 sz ([.ref (mO G), .int a1, .int a2] : List Value).toArray s r) (F0 m 108 ls [.int s0, .int s1]) := by
            intro H locs ls M x1 x2 x3 x4 x6 s0 s1 hP hS hl h
            unfold f_crossingAt_b108 at h
            refine lv_iadd hx hb dX7_crossingAt_108 ?_
            refine lv_istore (lv' := [(5, .int (s1 + s0)), (0, .ref (mO G)), (1, .int x1), (2, .int x2), (3, .int x3), (4, .int x4), (6, .int x6)]) hx hb dX7_crossingAt_109 hl (by decide) rfl (fun ls hl => ?_)
            refine lv_iinc (v := x6 + 1) (lv' := [(6, .int (x6 + 1)), (5, .int (s1 + s0)), (0, .ref (mO G)), (1, .int x1), (2, .int x2), (3, .int x3), (4, .int x4)]) hx hb dX7_crossingAt_111 hl (k := 6) rfl rfl (by decide) rfl (fun ls hl => ?_)
            refine lv_goto (tgt := 60) hx hb dX7_crossingAt_114 (by decide) ?_
            exact ih60 _ _ _ M x1 x2 x3 x4 (s1 + s0) (x6 + 1) hP hS (lv_sub hl [2, 3, 4, 5, 6, 1, 0] rfl) h
          intro H locs ls M x1 x2 x3 x4 x5 x6 hP hS hl h
          rw [f_crossingAt_L60] at h
          refine lv_iload hx hb dX7_crossingAt_60 (lv_at hl 6 rfl) ?_
          refine lv_aload_n hx hb dX7_crossingAt_62 rfl (lv_at hl 0 rfl) ?_
          refine m_get hC hin hP 0 (by decide) fl_segments rfl (v := .int (M.1 0)) rfl dX7_crossingAt_63 ?_
          refine lv_icmp_ge (tgt := 117) hx hb dX7_crossingAt_66 (by decide) (fun u1 => ?_) (fun u1 => ?_)
          · have h := ite_t u1 h
            refine lv_aload_n hx hb dX7_crossingAt_117 rfl (lv_at hl 0 rfl) ?_
            refine lv_iload hx hb dX7_crossingAt_118 (lv_at hl 4 rfl) ?_
            refine lv_iload_n hx hb dX7_crossingAt_120 rfl (lv_at hl 1 rfl) ?_
            obtain ⟨t3, e2, h⟩ := cal_el h
            refine m_VI (As := [.int x4, .int x1]) (rest := []) hC hP hS (c_isCrossed l G F M x4 x1 t3 e2) (cwV 2 hts (gWM wm_202 wm_203 wm_204 wm_7 wm_200) rfl rfl rfl (by decide +kernel) ⟨Nat.le_of_ble_eq_true rfl, Nat.le_of_ble_eq_true rfl⟩) rfl hl.1 rfl (Nat.le_of_ble_eq_true rfl) dX7_crossingAt_121 (fun H locs hP hS => ?_)
            refine lv_if_eq (tgt := 138) hx hb dX7_crossingAt_124 (by decide) (fun u4 => ?_) (fun u4 => ?_)
            · have h := ite_t u4 h
              refine lv_iload_n hx hb dX7_crossingAt_138 rfl (lv_at hl 3 rfl) ?_
              exact b139 _ _ _ M x1 x2 x4 x3 hP hS (lv_sub hl [0, 1, 2, 4] rfl) h
            · have h := ite_f u4 h
              refine lv_iload hx hb dX7_crossingAt_127 (lv_at hl 5 rfl) ?_
              refine lv_iload_n hx hb dX7_crossingAt_129 rfl (lv_at hl 2 rfl) ?_
              refine lv_icmp_ne (tgt := 138) hx hb dX7_crossingAt_130 (by decide) (fun u5 => ?_) (fun u5 => ?_)
              · have h := ite_f u5 h
                refine lv_iload_n hx hb dX7_crossingAt_138 rfl (lv_at hl 3 rfl) ?_
                exact b139 _ _ _ M x1 x2 x4 x3 hP hS (lv_sub hl [0, 1, 2, 4] rfl) h
              · have h := ite_t u5 h
                refine lv_iload hx hb dX7_crossingAt_133 (lv_at hl 4 rfl) ?_
                refine lv_goto (tgt := 139) hx hb dX7_crossingAt_135 (by decide) ?_
                exact b139 _ _ _ M x1 x2 x4 x4 hP hS (lv_sub hl [0, 1, 2, 4] rfl) h
          · have h := ite_f u1 h
            refine lv_iload hx hb dX7_crossingAt_69 (lv_at hl 5 rfl) ?_
            refine lv_aload_n hx hb dX7_crossingAt_71 rfl (lv_at hl 0 rfl) ?_
            refine lv_iload hx hb dX7_crossingAt_72 (lv_at hl 6 rfl) ?_
            refine lv_iload_n hx hb dX7_crossingAt_74 rfl (lv_at hl 1 rfl) ?_
            obtain ⟨t7, e6, h⟩ := cal_el h
            refine m_VI (As := [.int x6, .int x1]) (rest := [.int x5]) hC hP hS (c_isCrossed l G F M x6 x1 t7 e6) (cwV 2 hts (gWM wm_202 wm_203 wm_204 wm_7 wm_200) rfl rfl rfl (by decide +kernel) ⟨Nat.le_of_ble_eq_true rfl, Nat.le_of_ble_eq_true rfl⟩) rfl hl.1 rfl (Nat.le_of_ble_eq_true rfl) dX7_crossingAt_75 (fun H locs hP hS => ?_)
            refine lv_if_eq (tgt := 107) hx hb dX7_crossingAt_78 (by decide) (fun u8 => ?_) (fun u8 => ?_)
            · have h := ite_t u8 h
              refine lv_iconst (v := 0) hx hb dX7_crossingAt_107 (by decide) ?_
              exact b108 _ _ _ M x1 x2 x3 x4 x6 0 x5 hP hS (lv_sub hl [0, 1, 2, 3, 4, 6] rfl) h
            · have h := ite_f u8 h
              refine lv_aload_n hx hb dX7_crossingAt_81 rfl (lv_at hl 0 rfl) ?_
              refine lv_iload hx hb dX7_crossingAt_82 (lv_at hl 4 rfl) ?_
              refine lv_iload_n hx hb dX7_crossingAt_84 rfl (lv_at hl 1 rfl) ?_
              obtain ⟨t10, e9, h⟩ := cal_el h
              refine m_VI (As := [.int x4, .int x1]) (rest := [.int x5]) hC hP hS (c_isCrossed l G F M x4 x1 t10 e9) (cwV 2 hts (gWM wm_202 wm_203 wm_204 wm_7 wm_200) rfl rfl rfl (by decide +kernel) ⟨Nat.le_of_ble_eq_true rfl, Nat.le_of_ble_eq_true rfl⟩) rfl hl.1 rfl (Nat.le_of_ble_eq_true rfl) dX7_crossingAt_85 (fun H locs hP hS => ?_)
              refine lv_if_eq (tgt := 107) hx hb dX7_crossingAt_88 (by decide) (fun u11 => ?_) (fun u11 => ?_)
              · have h := ite_t u11 h
                refine lv_iconst (v := 0) hx hb dX7_crossingAt_107 (by decide) ?_
                exact b108 _ _ _ M x1 x2 x3 x4 x6 0 x5 hP hS (lv_sub hl [0, 1, 2, 3, 4, 6] rfl) h
              · have h := ite_f u11 h
                refine lv_aload_n hx hb dX7_crossingAt_91 rfl (lv_at hl 0 rfl) ?_
                refine lv_iload hx hb dX7_crossingAt_92 (lv_at hl 6 rfl) ?_
                refine lv_iload hx hb dX7_crossingAt_94 (lv_at hl 4 rfl) ?_
                refine lv_iload_n hx hb dX7_crossingAt_96 rfl (lv_at hl 1 rfl) ?_
                obtain ⟨t13, e12, h⟩ := cal_el h
                refine m_VI (As := [.int x6, .int x4, .int x1]) (rest := [.int x5]) hC hP hS (c_isBelow l G F M x6 x4 x1 t13 e12) (cwV 3 hts (gWM wm_211 wm_212 wm_213 wm_7 wm_209) rfl rfl rfl (by decide +kernel) ⟨Nat.le_of_ble_eq_true rfl, Nat.le_of_ble_eq_true rfl⟩) rfl hl.1 rfl (Nat.le_of_ble_eq_true rfl) dX7_crossingAt_97 (fun H locs hP hS => ?_)
                refine lv_if_eq (tgt := 107) hx hb dX7_crossingAt_100 (by decide) (fun u14 => ?_) (fun u14 => ?_)
                · have h := ite_t u14 h
                  refine lv_iconst (v := 0) hx hb dX7_crossingAt_107 (by decide) ?_
                  exact b108 _ _ _ M x1 x2 x3 x4 x6 0 x5 hP hS (lv_sub hl [0, 1, 2, 3, 4, 6] rfl) h
                · have h := ite_f u14 h
                  refine lv_iconst (v := 1) hx hb dX7_crossingAt_103 (by decide) ?_
                  refine lv_goto (tgt := 108) hx hb dX7_crossingAt_104 (by decide) ?_
                  exact b108 _ _ _ M x1 x2 x3 x4 x6 1 x5 hP hS (lv_sub hl [0, 1, 2, 3, 4, 6] rfl) h
      intro H locs ls M x1 x2 x3 x4 hP hS hl h
      rw [f_crossingAt_L45] at h
      refine lv_iload hx hb dX7_crossingAt_45 (lv_at hl 4 rfl) ?_
      refine lv_aload_n hx hb dX7_crossingAt_47 rfl (lv_at hl 0 rfl) ?_
      refine m_get hC hin hP 0 (by decide) fl_segments rfl (v := .int (M.1 0)) rfl dX7_crossingAt_48 ?_
      refine lv_icmp_ge (tgt := 146) hx hb dX7_crossingAt_51 (by decide) (fun u1 => ?_) (fun u1 => ?_)
      · have h := ite_t u1 h
        refine lv_iload_n hx hb dX7_crossingAt_146 rfl (lv_at hl 3 rfl) ?_
        cases h
        exact m_iret hC hP hS rfl dX7_crossingAt_147
      · have h := ite_f u1 h
        refine lv_iconst (v := 0) hx hb dX7_crossingAt_54 (by decide) ?_
        refine lv_istore (lv' := [(5, .int 0), (0, .ref (mO G)), (1, .int x1), (2, .int x2), (3, .int x3), (4, .int x4)]) hx hb dX7_crossingAt_55 hl (by decide) rfl (fun ls hl => ?_)
        refine lv_iconst (v := 0) hx hb dX7_crossingAt_57 (by decide) ?_
        refine lv_istore (lv' := [(6, .int 0), (5, .int 0), (0, .ref (mO G)), (1, .int x1), (2, .int x2), (3, .int x3), (4, .int x4)]) hx hb dX7_crossingAt_58 hl (by decide) rfl (fun ls hl => ?_)
        exact L60 F _ _ _ M x1 x2 x3 x4 0 0 hP hS (lv_sub hl [2, 3, 4, 5, 6, 1, 0] rfl) h
  have b32 : ∀ (H : Heap) (locs : List Loc) (ls : Array Slot) (M : MS) (x1 : Int32) (x2 : Int32) (s0 : Int32), va_P G.1 vwCl (mW G M) H → va_S (mA G sz) s.heap H locs → lv_has ls 7 [(0, .ref (mO G)), (1, .int x1), (2, .int x2)] → f_crossingAt_b32 F M x1 x2 s0 = some (M2, r) → W p l e (headSpec vX7_crossingAt ({ frames := 4, cells := 0, slots := 0, locals := 97 })).room s m ([.ref (mO G), .int a1, .int a2] : List Value).toArray below meth c H locs 0 0 (mQI below G M2 sz ([.ref (mO G), .int a1, .int a2] : List Value).toArray s r) (F0 m 32 ls [.int s0, .ref (mO G)]) := by
    intro H locs ls M x1 x2 s0 hP hS hl h
    unfold f_crossingAt_b32 at h
    obtain ⟨M2, t3, e1, h⟩ := caM_el h
    refine m_VI (As := [.int s0]) (rest := []) hC hP hS (c_goes l G F M M2 s0 t3 e1) (cwV 1 hts (gWM wm_155 wm_156 wm_157 wm_7 wm_2) rfl rfl rfl (by decide +kernel) ⟨Nat.le_of_ble_eq_true rfl, Nat.le_of_ble_eq_true rfl⟩) rfl hl.1 rfl (Nat.le_of_ble_eq_true rfl) dX7_crossingAt_32 (fun H locs hP hS => ?_)
    refine lv_if_ne (tgt := 40) hx hb dX7_crossingAt_35 (by decide) (fun u4 => ?_) (fun u4 => ?_)
    · have h := ite_f u4 h
      refine lv_iconst (v := (-1)) hx hb dX7_crossingAt_40 (by decide) ?_
      refine lv_istore_n (lv' := [(3, .int ((-1))), (0, .ref (mO G)), (1, .int x1), (2, .int x2)]) hx hb dX7_crossingAt_41 rfl hl (by decide) rfl (fun ls hl => ?_)
      refine lv_iconst (v := 0) hx hb dX7_crossingAt_42 (by decide) ?_
      refine lv_istore (lv' := [(4, .int 0), (3, .int ((-1))), (0, .ref (mO G)), (1, .int x1), (2, .int x2)]) hx hb dX7_crossingAt_43 hl (by decide) rfl (fun ls hl => ?_)
      exact L45 F _ _ _ M2 x1 x2 ((-1)) 0 hP hS (lv_sub hl [2, 3, 4, 1, 0] rfl) h
    · have h := ite_t u4 h
      refine lv_iconst (v := 0) hx hb dX7_crossingAt_38 (by decide) ?_
      cases h
      exact m_iret hC hP hS rfl dX7_crossingAt_39
  refine m_entry (Nat.le_of_ble_eq_true rfl) (fun ls hl => ?_)
  have hl : lv_has ls 7 [(0, .ref (mO G)), (1, .int a1), (2, .int a2)] := hl
  unfold f_crossingAt at h
  refine lv_aload_n hx hb dX7_crossingAt_0 rfl (lv_at hl 0 rfl) ?_
  refine lv_iload_n hx hb dX7_crossingAt_1 rfl (lv_at hl 1 rfl) ?_
  obtain ⟨t2, e1, h⟩ := cal_el h
  refine m_SI (As := [.int a1]) (rest := [.ref (mO G)]) hC hP hS (c_isPlace l G F M a1 t2 e1) (va_cwS 1 hts (gWMS wm_153 wm_154 wm_7 wm_4) rfl rfl rfl (by decide +kernel) ⟨Nat.le_of_ble_eq_true rfl, Nat.le_of_ble_eq_true rfl⟩) rfl hl.1 rfl (Nat.le_of_ble_eq_true rfl) dX7_crossingAt_2 (fun H locs hP hS => ?_)
  refine lv_if_ne (tgt := 12) hx hb dX7_crossingAt_5 (by decide) (fun u3 => ?_) (fun u3 => ?_)
  · have h := ite_f u3 h
    refine lv_iload_n hx hb dX7_crossingAt_12 rfl (lv_at hl 2 rfl) ?_
    refine lv_iconst (v := 0) hx hb dX7_crossingAt_13 (by decide) ?_
    refine lv_aload_n hx hb dX7_crossingAt_14 rfl (lv_at hl 0 rfl) ?_
    refine lv_iload_n hx hb dX7_crossingAt_15 rfl (lv_at hl 1 rfl) ?_
    obtain ⟨t5, e4, h⟩ := cal_el h
    refine m_VI (As := [.int a1]) (rest := [.int 0, .int a2, .ref (mO G)]) hC hP hS (c_crossed l G F M a1 t5 e4) (cwV 1 hts (gWM wm_206 wm_207 wm_208 wm_7 wm_201) rfl rfl rfl (by decide +kernel) ⟨Nat.le_of_ble_eq_true rfl, Nat.le_of_ble_eq_true rfl⟩) rfl hl.1 rfl (Nat.le_of_ble_eq_true rfl) dX7_crossingAt_16 (fun H locs hP hS => ?_)
    refine lv_iconst (v := 1) hx hb dX7_crossingAt_19 (by decide) ?_
    refine lv_isub hx hb dX7_crossingAt_20 ?_
    obtain ⟨t7, e6, h⟩ := cal_el h
    refine m_SI (As := [.int a2, .int 0, .int (t5 - 1)]) (rest := [.ref (mO G)]) hC hP hS (c_isIn l G F M a2 0 (t5 - 1) t7 e6) (va_cwS 3 hts (gWMS wm_5 wm_6 wm_7 wm_3) rfl rfl rfl (by decide +kernel) ⟨Nat.le_of_ble_eq_true rfl, Nat.le_of_ble_eq_true rfl⟩) rfl hl.1 rfl (Nat.le_of_ble_eq_true rfl) dX7_crossingAt_21 (fun H locs hP hS => ?_)
    refine lv_if_eq (tgt := 31) hx hb dX7_crossingAt_24 (by decide) (fun u8 => ?_) (fun u8 => ?_)
    · have h := ite_t u8 h
      refine lv_iconst (v := 2) hx hb dX7_crossingAt_31 (by decide) ?_
      exact b32 _ _ _ M a1 a2 2 hP hS (lv_sub hl [0, 1, 2] rfl) h
    · have h := ite_f u8 h
      refine lv_iconst (v := 0) hx hb dX7_crossingAt_27 (by decide) ?_
      refine lv_goto (tgt := 32) hx hb dX7_crossingAt_28 (by decide) ?_
      exact b32 _ _ _ M a1 a2 0 hP hS (lv_sub hl [0, 1, 2] rfl) h
  · have h := ite_t u3 h
    refine lv_iconst (v := 1) hx hb dX7_crossingAt_8 (by decide) ?_
    refine lv_goto (tgt := 32) hx hb dX7_crossingAt_9 (by decide) ?_
    exact b32 _ _ _ M a1 a2 1 hP hS (lv_sub hl [0, 1, 2] rfl) h
