/-! constructors of Segment, Vertices -/
theorem dX4_init_0 : decode cX4_init 0 = .ok (.aload_n 0, 1) := by decide +kernel
theorem dX4_init_1 : decode cX4_init 1 = .ok (.invokespecial 3, 3) := by decide +kernel
theorem dX4_init_4 : decode cX4_init 4 = .ok (.iload_n 1, 1) := by decide +kernel
theorem dX4_init_5 : decode cX4_init 5 = .ok (.iload_n 3, 1) := by decide +kernel
theorem dX4_init_6 : decode cX4_init 6 = .ok (.if_icmp .lt 14, 3) := by decide +kernel
theorem dX4_init_9 : decode cX4_init 9 = .ok (.iload_n 1, 1) := by decide +kernel
theorem dX4_init_10 : decode cX4_init 10 = .ok (.iload_n 3, 1) := by decide +kernel
theorem dX4_init_11 : decode cX4_init 11 = .ok (.if_icmp .ne 13, 3) := by decide +kernel
theorem dX4_init_14 : decode cX4_init 14 = .ok (.iload_n 2, 1) := by decide +kernel
theorem dX4_init_15 : decode cX4_init 15 = .ok (.iload 4, 2) := by decide +kernel
theorem dX4_init_17 : decode cX4_init 17 = .ok (.if_icmp .ge 7, 3) := by decide +kernel
theorem dX4_init_20 : decode cX4_init 20 = .ok (.iconst 1, 1) := by decide +kernel
theorem dX4_init_21 : decode cX4_init 21 = .ok (.goto 4, 3) := by decide +kernel
theorem dX4_init_24 : decode cX4_init 24 = .ok (.iconst 0, 1) := by decide +kernel
theorem dX4_init_25 : decode cX4_init 25 = .ok (.istore 5, 2) := by decide +kernel
theorem dX4_init_27 : decode cX4_init 27 = .ok (.aload_n 0, 1) := by decide +kernel
theorem dX4_init_28 : decode cX4_init 28 = .ok (.iload 5, 2) := by decide +kernel
theorem dX4_init_30 : decode cX4_init 30 = .ok (.ifCond .eq 7, 3) := by decide +kernel
theorem dX4_init_33 : decode cX4_init 33 = .ok (.iload_n 1, 1) := by decide +kernel
theorem dX4_init_34 : decode cX4_init 34 = .ok (.goto 4, 3) := by decide +kernel
theorem dX4_init_37 : decode cX4_init 37 = .ok (.iload_n 3, 1) := by decide +kernel
theorem dX4_init_38 : decode cX4_init 38 = .ok (.putfield 9, 3) := by decide +kernel
theorem dX4_init_41 : decode cX4_init 41 = .ok (.aload_n 0, 1) := by decide +kernel
theorem dX4_init_42 : decode cX4_init 42 = .ok (.iload 5, 2) := by decide +kernel
theorem dX4_init_44 : decode cX4_init 44 = .ok (.ifCond .eq 7, 3) := by decide +kernel
theorem dX4_init_47 : decode cX4_init 47 = .ok (.iload_n 2, 1) := by decide +kernel
theorem dX4_init_48 : decode cX4_init 48 = .ok (.goto 5, 3) := by decide +kernel
theorem dX4_init_51 : decode cX4_init 51 = .ok (.iload 4, 2) := by decide +kernel
theorem dX4_init_53 : decode cX4_init 53 = .ok (.putfield 15, 3) := by decide +kernel
theorem dX4_init_56 : decode cX4_init 56 = .ok (.aload_n 0, 1) := by decide +kernel
theorem dX4_init_57 : decode cX4_init 57 = .ok (.iload 5, 2) := by decide +kernel
theorem dX4_init_59 : decode cX4_init 59 = .ok (.ifCond .eq 7, 3) := by decide +kernel
theorem dX4_init_62 : decode cX4_init 62 = .ok (.iload_n 3, 1) := by decide +kernel
theorem dX4_init_63 : decode cX4_init 63 = .ok (.goto 4, 3) := by decide +kernel
theorem dX4_init_66 : decode cX4_init 66 = .ok (.iload_n 1, 1) := by decide +kernel
theorem dX4_init_67 : decode cX4_init 67 = .ok (.putfield 18, 3) := by decide +kernel
theorem dX4_init_70 : decode cX4_init 70 = .ok (.aload_n 0, 1) := by decide +kernel
theorem dX4_init_71 : decode cX4_init 71 = .ok (.iload 5, 2) := by decide +kernel
theorem dX4_init_73 : decode cX4_init 73 = .ok (.ifCond .eq 8, 3) := by decide +kernel
theorem dX4_init_76 : decode cX4_init 76 = .ok (.iload 4, 2) := by decide +kernel
theorem dX4_init_78 : decode cX4_init 78 = .ok (.goto 4, 3) := by decide +kernel
theorem dX4_init_81 : decode cX4_init 81 = .ok (.iload_n 2, 1) := by decide +kernel
theorem dX4_init_82 : decode cX4_init 82 = .ok (.putfield 21, 3) := by decide +kernel
theorem dX4_init_85 : decode cX4_init 85 = .ok (.aload_n 0, 1) := by decide +kernel
theorem dX4_init_86 : decode cX4_init 86 = .ok (.aload_n 0, 1) := by decide +kernel
theorem dX4_init_87 : decode cX4_init 87 = .ok (.getfield 18, 3) := by decide +kernel
theorem dX4_init_90 : decode cX4_init 90 = .ok (.aload_n 0, 1) := by decide +kernel
theorem dX4_init_91 : decode cX4_init 91 = .ok (.getfield 9, 3) := by decide +kernel
theorem dX4_init_94 : decode cX4_init 94 = .ok (.isub, 1) := by decide +kernel
theorem dX4_init_95 : decode cX4_init 95 = .ok (.i2l, 1) := by decide +kernel
theorem dX4_init_96 : decode cX4_init 96 = .ok (.putfield 24, 3) := by decide +kernel
theorem dX4_init_99 : decode cX4_init 99 = .ok (.aload_n 0, 1) := by decide +kernel
theorem dX4_init_100 : decode cX4_init 100 = .ok (.aload_n 0, 1) := by decide +kernel
theorem dX4_init_101 : decode cX4_init 101 = .ok (.getfield 21, 3) := by decide +kernel
theorem dX4_init_104 : decode cX4_init 104 = .ok (.aload_n 0, 1) := by decide +kernel
theorem dX4_init_105 : decode cX4_init 105 = .ok (.getfield 15, 3) := by decide +kernel
theorem dX4_init_108 : decode cX4_init 108 = .ok (.isub, 1) := by decide +kernel
theorem dX4_init_109 : decode cX4_init 109 = .ok (.i2l, 1) := by decide +kernel
theorem dX4_init_110 : decode cX4_init 110 = .ok (.putfield 28, 3) := by decide +kernel
theorem dX4_init_113 : decode cX4_init 113 = .ok (.return_, 1) := by decide +kernel
def wX4_init : List Cond := Cond.code yX4_init cX4_init 6 none :: WA
def sgR (x1 y1 x2 y2 : Int32) : Bool := decide (x1 < x2) || (decide (x1 = x2) && decide (y1 < y2))
def dSg4 (D : CD) (a : Nat) (sx sy ex ey : Int32) : CD := cpG (cpG (cpF (cpF (cpF (cpF D a 0 sx) a 1 sy) a 2 ex) a 3 ey) a 4 ((ex - sx).toInt64)) a 5 ((ey - sy).toInt64)
def dSg (D : CD) (a : Nat) (x1 y1 x2 y2 : Int32) : CD := if sgR x1 y1 x2 y2 = true then dSg4 D a x1 y1 x2 y2 else dSg4 D a x2 y2 x1 y1
set_option maxRecDepth 100000 in
set_option maxHeartbeats 4000000 in
theorem i_X4 (l : Launch) (G : cG) (S : CS) (D : CD) (a0 : Nat) (hm0 : a0 ∈ S.1) (hk0 : S.2.1 a0 = 4) (x1 y1 x2 y2 : Int32) : cMK l yX4_init wX4_init ({ frames := 1, cells := 0, slots := 0, locals := 20 }) G S [.ref a0, .int x1, .int y1, .int x2, .int y2] D 0 0 0 (fun _ S2 D2 => S2 = S ∧ D2 = dSg D a0 x1 y1 x2 y2) := by
  refine cBodyK (cc := cX4_init) (maxL := 6) (ret := none) (own := RX4) (by decide) rfl rfl ?_
  intro sz p e s m below meth c hC hP hname
  have hC0 := hC
  obtain ⟨hx, hb, -, hts, hown, -, hml, -, -, hz, -⟩ := hC0
  have hS : va_S (cA G S sz) s.heap s.heap [] := va_S.rf
  have hlt : a0 < sz := by rw [← hz]; exact cW_lt hP hm0
  have hin_X4 : ∀ w ∈ wsX40, w ∈ wX4_init := fun w h => List.mem_cons_of_mem _ (hWCA _ (hWC4 w h))
  have T1 : sgR x1 y1 x2 y2 = true → ∀ (ls : Array Slot), lv_has ls 6 [(5, .int 1), (0, .ref a0), (1, .int x1), (2, .int y1), (3, .int x2), (4, .int y2)] → W p l e (headSpec wX4_init ({ frames := 1, cells := 0, slots := 0, locals := 20 })).room s m ([.ref a0, .int x1, .int y1, .int x2, .int y2] : List Value).toArray below meth c s.heap [] 0 0 (MQ below (va_Qv (fun (u : CS × CD) => (fun _ S2 D2 => S2 = S ∧ D2 = dSg D a0 x1 y1 x2 y2) sz u.1 u.2 ∧ cGr G S u.1 sz) (fun u t => cIs G u.1 u.2 t ∧ t.heap.size = sz + 0) (cA G S sz)) ([.ref a0, .int x1, .int y1, .int x2, .int y2] : List Value).toArray s 0 0 (cA G S sz)) (F0 m 27 ls []) := by
    intro hr ls hl
    refine lv_aload_n hx hb dX4_init_27 rfl (lv_at hl 1 rfl) ?_
    refine lv_iload hx hb dX4_init_28 (lv_at hl 0 rfl) ?_
    refine lv_if_eq (tgt := 37) hx hb dX4_init_30 (by decide) (fun u => absurd u (by decide)) (fun u => ?_)
    refine lv_iload_n hx hb dX4_init_33 rfl (lv_at hl 2 rfl) ?_
    refine lv_goto (tgt := 38) hx hb dX4_init_34 (by decide) ?_
    refine n_put (C := RX4) (T := TX4) (N := 6) (ref := "SegmentMap$Segment") (ci := 5) (S2 := S) (D2 := cpF D a0 0 x1) hC hin_X4 tyX4 tyX4_ok nmX4 hP hS hz hm0 (cE_4 hk0) rfl 0 (by decide) (hts _ (List.mem_cons_of_mem _ (hWCA _ wc_33))) rfl (Or.inr ⟨rfl, hname, rfl⟩) (ty := .int) (by decide +kernel) rfl rfl (Nat.le_of_ble_eq_true rfl) rfl (csi_4_0 G hk0 _) (cne_F G) dX4_init_38 (fun H locs hP hz hS hC => ?_)
    obtain ⟨D1, eD1⟩ : ∃ x, x = cpF D a0 0 x1 := ⟨_, rfl⟩
    rw [← eD1] at hP
    refine lv_aload_n hx hb dX4_init_41 rfl (lv_at hl 1 rfl) ?_
    refine lv_iload hx hb dX4_init_42 (lv_at hl 0 rfl) ?_
    refine lv_if_eq (tgt := 51) hx hb dX4_init_44 (by decide) (fun u => absurd u (by decide)) (fun u => ?_)
    refine lv_iload_n hx hb dX4_init_47 rfl (lv_at hl 3 rfl) ?_
    refine lv_goto (tgt := 53) hx hb dX4_init_48 (by decide) ?_
    refine n_put (C := RX4) (T := TX4) (N := 6) (ref := "SegmentMap$Segment") (ci := 5) (S2 := S) (D2 := cpF D1 a0 1 y1) hC hin_X4 tyX4 tyX4_ok nmX4 hP hS hz hm0 (cE_4 hk0) rfl 1 (by decide) (hts _ (List.mem_cons_of_mem _ (hWCA _ wc_34))) rfl (Or.inr ⟨rfl, hname, rfl⟩) (ty := .int) (by decide +kernel) rfl rfl (Nat.le_of_ble_eq_true rfl) rfl (csi_4_1 G hk0 _) (cne_F G) dX4_init_53 (fun H locs hP hz hS hC => ?_)
    obtain ⟨D2, eD2⟩ : ∃ x, x = cpF D1 a0 1 y1 := ⟨_, rfl⟩
    rw [← eD2] at hP
    refine lv_aload_n hx hb dX4_init_56 rfl (lv_at hl 1 rfl) ?_
    refine lv_iload hx hb dX4_init_57 (lv_at hl 0 rfl) ?_
    refine lv_if_eq (tgt := 66) hx hb dX4_init_59 (by decide) (fun u => absurd u (by decide)) (fun u => ?_)
    refine lv_iload_n hx hb dX4_init_62 rfl (lv_at hl 4 rfl) ?_
    refine lv_goto (tgt := 67) hx hb dX4_init_63 (by decide) ?_
    refine n_put (C := RX4) (T := TX4) (N := 6) (ref := "SegmentMap$Segment") (ci := 5) (S2 := S) (D2 := cpF D2 a0 2 x2) hC hin_X4 tyX4 tyX4_ok nmX4 hP hS hz hm0 (cE_4 hk0) rfl 2 (by decide) (hts _ (List.mem_cons_of_mem _ (hWCA _ wc_37))) rfl (Or.inr ⟨rfl, hname, rfl⟩) (ty := .int) (by decide +kernel) rfl rfl (Nat.le_of_ble_eq_true rfl) rfl (csi_4_2 G hk0 _) (cne_F G) dX4_init_67 (fun H locs hP hz hS hC => ?_)
    obtain ⟨D3, eD3⟩ : ∃ x, x = cpF D2 a0 2 x2 := ⟨_, rfl⟩
    rw [← eD3] at hP
    refine lv_aload_n hx hb dX4_init_70 rfl (lv_at hl 1 rfl) ?_
    refine lv_iload hx hb dX4_init_71 (lv_at hl 0 rfl) ?_
    refine lv_if_eq (tgt := 81) hx hb dX4_init_73 (by decide) (fun u => absurd u (by decide)) (fun u => ?_)
    refine lv_iload hx hb dX4_init_76 (lv_at hl 5 rfl) ?_
    refine lv_goto (tgt := 82) hx hb dX4_init_78 (by decide) ?_
    refine n_put (C := RX4) (T := TX4) (N := 6) (ref := "SegmentMap$Segment") (ci := 5) (S2 := S) (D2 := cpF D3 a0 3 y2) hC hin_X4 tyX4 tyX4_ok nmX4 hP hS hz hm0 (cE_4 hk0) rfl 3 (by decide) (hts _ (List.mem_cons_of_mem _ (hWCA _ wc_38))) rfl (Or.inr ⟨rfl, hname, rfl⟩) (ty := .int) (by decide +kernel) rfl rfl (Nat.le_of_ble_eq_true rfl) rfl (csi_4_3 G hk0 _) (cne_F G) dX4_init_82 (fun H locs hP hz hS hC => ?_)
    obtain ⟨D4, eD4⟩ : ∃ x, x = cpF D3 a0 3 y2 := ⟨_, rfl⟩
    rw [← eD4] at hP
    refine lv_aload_n hx hb dX4_init_85 rfl (lv_at hl 1 rfl) ?_
    refine lv_aload_n hx hb dX4_init_86 rfl (lv_at hl 1 rfl) ?_
    refine n_get (C := RX4) (T := TX4) (N := 6) (ref := "SegmentMap$Segment") (ci := 5) (v := .int (D4.1 a0 2)) hC hin_X4 hP hm0 (cE_4 hk0) rfl 2 (by decide) (hts _ (List.mem_cons_of_mem _ (hWCA _ wc_37))) rfl rfl dX4_init_87 ?_
    refine lv_aload_n hx hb dX4_init_90 rfl (lv_at hl 1 rfl) ?_
    refine n_get (C := RX4) (T := TX4) (N := 6) (ref := "SegmentMap$Segment") (ci := 5) (v := .int (D4.1 a0 0)) hC hin_X4 hP hm0 (cE_4 hk0) rfl 0 (by decide) (hts _ (List.mem_cons_of_mem _ (hWCA _ wc_33))) rfl rfl dX4_init_91 ?_
    refine lv_isub hx hb dX4_init_94 ?_
    refine lv_i2l (v := ((D4.1 a0 2) - (D4.1 a0 0)).toInt64) hx hb dX4_init_95 rfl ?_
    refine n_put (C := RX4) (T := TX4) (N := 6) (ref := "SegmentMap$Segment") (ci := 5) (S2 := S) (D2 := cpG D4 a0 4 (((D4.1 a0 2) - (D4.1 a0 0)).toInt64)) hC hin_X4 tyX4 tyX4_ok nmX4 hP hS hz hm0 (cE_4 hk0) rfl 4 (by decide) (hts _ (List.mem_cons_of_mem _ (hWCA _ wc_30))) rfl (Or.inr ⟨rfl, hname, rfl⟩) (ty := .long) (by decide +kernel) rfl rfl (Nat.le_of_ble_eq_true rfl) rfl (csi_4_4 G hk0 _) (cne_G G) dX4_init_96 (fun H locs hP hz hS hC => ?_)
    obtain ⟨D5, eD5⟩ : ∃ x, x = cpG D4 a0 4 (((D4.1 a0 2) - (D4.1 a0 0)).toInt64) := ⟨_, rfl⟩
    rw [← eD5] at hP
    refine lv_aload_n hx hb dX4_init_99 rfl (lv_at hl 1 rfl) ?_
    refine lv_aload_n hx hb dX4_init_100 rfl (lv_at hl 1 rfl) ?_
    refine n_get (C := RX4) (T := TX4) (N := 6) (ref := "SegmentMap$Segment") (ci := 5) (v := .int (D5.1 a0 3)) hC hin_X4 hP hm0 (cE_4 hk0) rfl 3 (by decide) (hts _ (List.mem_cons_of_mem _ (hWCA _ wc_38))) rfl rfl dX4_init_101 ?_
    refine lv_aload_n hx hb dX4_init_104 rfl (lv_at hl 1 rfl) ?_
    refine n_get (C := RX4) (T := TX4) (N := 6) (ref := "SegmentMap$Segment") (ci := 5) (v := .int (D5.1 a0 1)) hC hin_X4 hP hm0 (cE_4 hk0) rfl 1 (by decide) (hts _ (List.mem_cons_of_mem _ (hWCA _ wc_34))) rfl rfl dX4_init_105 ?_
    refine lv_isub hx hb dX4_init_108 ?_
    refine lv_i2l (v := ((D5.1 a0 3) - (D5.1 a0 1)).toInt64) hx hb dX4_init_109 rfl ?_
    refine n_put (C := RX4) (T := TX4) (N := 6) (ref := "SegmentMap$Segment") (ci := 5) (S2 := S) (D2 := cpG D5 a0 5 (((D5.1 a0 3) - (D5.1 a0 1)).toInt64)) hC hin_X4 tyX4 tyX4_ok nmX4 hP hS hz hm0 (cE_4 hk0) rfl 5 (by decide) (hts _ (List.mem_cons_of_mem _ (hWCA _ wc_31))) rfl (Or.inr ⟨rfl, hname, rfl⟩) (ty := .long) (by decide +kernel) rfl rfl (Nat.le_of_ble_eq_true rfl) rfl (csi_4_5 G hk0 _) (cne_G G) dX4_init_110 (fun H locs hP hz hS hC => ?_)
    obtain ⟨D6, eD6⟩ : ∃ x, x = cpG D5 a0 5 (((D5.1 a0 3) - (D5.1 a0 1)).toInt64) := ⟨_, rfl⟩
    rw [← eD6] at hP
    have fD : D6 = dSg D a0 x1 y1 x2 y2 := by
      unfold dSg; rw [if_pos hr]
      subst eD6 eD5 eD4 eD3 eD2 eD1; simp [dSg4, cpF, cpG, va_up]
    exact n_vret (S0 := S) (Rl := (fun _ S2 D2 => S2 = S ∧ D2 = dSg D a0 x1 y1 x2 y2)) (k := 0) hC hP hS hz ⟨rfl, fD⟩ (fun _ h => h) (fun _ h => Or.inl h) dX4_init_113 (Nat.le_refl _) (Nat.le_refl _)
  have T0 : sgR x1 y1 x2 y2 = false → ∀ (ls : Array Slot), lv_has ls 6 [(5, .int 0), (0, .ref a0), (1, .int x1), (2, .int y1), (3, .int x2), (4, .int y2)] → W p l e (headSpec wX4_init ({ frames := 1, cells := 0, slots := 0, locals := 20 })).room s m ([.ref a0, .int x1, .int y1, .int x2, .int y2] : List Value).toArray below meth c s.heap [] 0 0 (MQ below (va_Qv (fun (u : CS × CD) => (fun _ S2 D2 => S2 = S ∧ D2 = dSg D a0 x1 y1 x2 y2) sz u.1 u.2 ∧ cGr G S u.1 sz) (fun u t => cIs G u.1 u.2 t ∧ t.heap.size = sz + 0) (cA G S sz)) ([.ref a0, .int x1, .int y1, .int x2, .int y2] : List Value).toArray s 0 0 (cA G S sz)) (F0 m 27 ls []) := by
    intro hr ls hl
    refine lv_aload_n hx hb dX4_init_27 rfl (lv_at hl 1 rfl) ?_
    refine lv_iload hx hb dX4_init_28 (lv_at hl 0 rfl) ?_
    refine lv_if_eq (tgt := 37) hx hb dX4_init_30 (by decide) (fun u => ?_) (fun u => absurd rfl u)
    refine lv_iload_n hx hb dX4_init_37 rfl (lv_at hl 4 rfl) ?_
    refine n_put (C := RX4) (T := TX4) (N := 6) (ref := "SegmentMap$Segment") (ci := 5) (S2 := S) (D2 := cpF D a0 0 x2) hC hin_X4 tyX4 tyX4_ok nmX4 hP hS hz hm0 (cE_4 hk0) rfl 0 (by decide) (hts _ (List.mem_cons_of_mem _ (hWCA _ wc_33))) rfl (Or.inr ⟨rfl, hname, rfl⟩) (ty := .int) (by decide +kernel) rfl rfl (Nat.le_of_ble_eq_true rfl) rfl (csi_4_0 G hk0 _) (cne_F G) dX4_init_38 (fun H locs hP hz hS hC => ?_)
    obtain ⟨D1, eD1⟩ : ∃ x, x = cpF D a0 0 x2 := ⟨_, rfl⟩
    rw [← eD1] at hP
    refine lv_aload_n hx hb dX4_init_41 rfl (lv_at hl 1 rfl) ?_
    refine lv_iload hx hb dX4_init_42 (lv_at hl 0 rfl) ?_
    refine lv_if_eq (tgt := 51) hx hb dX4_init_44 (by decide) (fun u => ?_) (fun u => absurd rfl u)
    refine lv_iload hx hb dX4_init_51 (lv_at hl 5 rfl) ?_
    refine n_put (C := RX4) (T := TX4) (N := 6) (ref := "SegmentMap$Segment") (ci := 5) (S2 := S) (D2 := cpF D1 a0 1 y2) hC hin_X4 tyX4 tyX4_ok nmX4 hP hS hz hm0 (cE_4 hk0) rfl 1 (by decide) (hts _ (List.mem_cons_of_mem _ (hWCA _ wc_34))) rfl (Or.inr ⟨rfl, hname, rfl⟩) (ty := .int) (by decide +kernel) rfl rfl (Nat.le_of_ble_eq_true rfl) rfl (csi_4_1 G hk0 _) (cne_F G) dX4_init_53 (fun H locs hP hz hS hC => ?_)
    obtain ⟨D2, eD2⟩ : ∃ x, x = cpF D1 a0 1 y2 := ⟨_, rfl⟩
    rw [← eD2] at hP
    refine lv_aload_n hx hb dX4_init_56 rfl (lv_at hl 1 rfl) ?_
    refine lv_iload hx hb dX4_init_57 (lv_at hl 0 rfl) ?_
    refine lv_if_eq (tgt := 66) hx hb dX4_init_59 (by decide) (fun u => ?_) (fun u => absurd rfl u)
    refine lv_iload_n hx hb dX4_init_66 rfl (lv_at hl 2 rfl) ?_
    refine n_put (C := RX4) (T := TX4) (N := 6) (ref := "SegmentMap$Segment") (ci := 5) (S2 := S) (D2 := cpF D2 a0 2 x1) hC hin_X4 tyX4 tyX4_ok nmX4 hP hS hz hm0 (cE_4 hk0) rfl 2 (by decide) (hts _ (List.mem_cons_of_mem _ (hWCA _ wc_37))) rfl (Or.inr ⟨rfl, hname, rfl⟩) (ty := .int) (by decide +kernel) rfl rfl (Nat.le_of_ble_eq_true rfl) rfl (csi_4_2 G hk0 _) (cne_F G) dX4_init_67 (fun H locs hP hz hS hC => ?_)
    obtain ⟨D3, eD3⟩ : ∃ x, x = cpF D2 a0 2 x1 := ⟨_, rfl⟩
    rw [← eD3] at hP
    refine lv_aload_n hx hb dX4_init_70 rfl (lv_at hl 1 rfl) ?_
    refine lv_iload hx hb dX4_init_71 (lv_at hl 0 rfl) ?_
    refine lv_if_eq (tgt := 81) hx hb dX4_init_73 (by decide) (fun u => ?_) (fun u => absurd rfl u)
    refine lv_iload_n hx hb dX4_init_81 rfl (lv_at hl 3 rfl) ?_
    refine n_put (C := RX4) (T := TX4) (N := 6) (ref := "SegmentMap$Segment") (ci := 5) (S2 := S) (D2 := cpF D3 a0 3 y1) hC hin_X4 tyX4 tyX4_ok nmX4 hP hS hz hm0 (cE_4 hk0) rfl 3 (by decide) (hts _ (List.mem_cons_of_mem _ (hWCA _ wc_38))) rfl (Or.inr ⟨rfl, hname, rfl⟩) (ty := .int) (by decide +kernel) rfl rfl (Nat.le_of_ble_eq_true rfl) rfl (csi_4_3 G hk0 _) (cne_F G) dX4_init_82 (fun H locs hP hz hS hC => ?_)
    obtain ⟨D4, eD4⟩ : ∃ x, x = cpF D3 a0 3 y1 := ⟨_, rfl⟩
    rw [← eD4] at hP
    refine lv_aload_n hx hb dX4_init_85 rfl (lv_at hl 1 rfl) ?_
    refine lv_aload_n hx hb dX4_init_86 rfl (lv_at hl 1 rfl) ?_
    refine n_get (C := RX4) (T := TX4) (N := 6) (ref := "SegmentMap$Segment") (ci := 5) (v := .int (D4.1 a0 2)) hC hin_X4 hP hm0 (cE_4 hk0) rfl 2 (by decide) (hts _ (List.mem_cons_of_mem _ (hWCA _ wc_37))) rfl rfl dX4_init_87 ?_
    refine lv_aload_n hx hb dX4_init_90 rfl (lv_at hl 1 rfl) ?_
    refine n_get (C := RX4) (T := TX4) (N := 6) (ref := "SegmentMap$Segment") (ci := 5) (v := .int (D4.1 a0 0)) hC hin_X4 hP hm0 (cE_4 hk0) rfl 0 (by decide) (hts _ (List.mem_cons_of_mem _ (hWCA _ wc_33))) rfl rfl dX4_init_91 ?_
    refine lv_isub hx hb dX4_init_94 ?_
    refine lv_i2l (v := ((D4.1 a0 2) - (D4.1 a0 0)).toInt64) hx hb dX4_init_95 rfl ?_
    refine n_put (C := RX4) (T := TX4) (N := 6) (ref := "SegmentMap$Segment") (ci := 5) (S2 := S) (D2 := cpG D4 a0 4 (((D4.1 a0 2) - (D4.1 a0 0)).toInt64)) hC hin_X4 tyX4 tyX4_ok nmX4 hP hS hz hm0 (cE_4 hk0) rfl 4 (by decide) (hts _ (List.mem_cons_of_mem _ (hWCA _ wc_30))) rfl (Or.inr ⟨rfl, hname, rfl⟩) (ty := .long) (by decide +kernel) rfl rfl (Nat.le_of_ble_eq_true rfl) rfl (csi_4_4 G hk0 _) (cne_G G) dX4_init_96 (fun H locs hP hz hS hC => ?_)
    obtain ⟨D5, eD5⟩ : ∃ x, x = cpG D4 a0 4 (((D4.1 a0 2) - (D4.1 a0 0)).toInt64) := ⟨_, rfl⟩
    rw [← eD5] at hP
    refine lv_aload_n hx hb dX4_init_99 rfl (lv_at hl 1 rfl) ?_
    refine lv_aload_n hx hb dX4_init_100 rfl (lv_at hl 1 rfl) ?_
    refine n_get (C := RX4) (T := TX4) (N := 6) (ref := "SegmentMap$Segment") (ci := 5) (v := .int (D5.1 a0 3)) hC hin_X4 hP hm0 (cE_4 hk0) rfl 3 (by decide) (hts _ (List.mem_cons_of_mem _ (hWCA _ wc_38))) rfl rfl dX4_init_101 ?_
    refine lv_aload_n hx hb dX4_init_104 rfl (lv_at hl 1 rfl) ?_
    refine n_get (C := RX4) (T := TX4) (N := 6) (ref := "SegmentMap$Segment") (ci := 5) (v := .int (D5.1 a0 1)) hC hin_X4 hP hm0 (cE_4 hk0) rfl 1 (by decide) (hts _ (List.mem_cons_of_mem _ (hWCA _ wc_34))) rfl rfl dX4_init_105 ?_
    refine lv_isub hx hb dX4_init_108 ?_
    refine lv_i2l (v := ((D5.1 a0 3) - (D5.1 a0 1)).toInt64) hx hb dX4_init_109 rfl ?_
    refine n_put (C := RX4) (T := TX4) (N := 6) (ref := "SegmentMap$Segment") (ci := 5) (S2 := S) (D2 := cpG D5 a0 5 (((D5.1 a0 3) - (D5.1 a0 1)).toInt64)) hC hin_X4 tyX4 tyX4_ok nmX4 hP hS hz hm0 (cE_4 hk0) rfl 5 (by decide) (hts _ (List.mem_cons_of_mem _ (hWCA _ wc_31))) rfl (Or.inr ⟨rfl, hname, rfl⟩) (ty := .long) (by decide +kernel) rfl rfl (Nat.le_of_ble_eq_true rfl) rfl (csi_4_5 G hk0 _) (cne_G G) dX4_init_110 (fun H locs hP hz hS hC => ?_)
    obtain ⟨D6, eD6⟩ : ∃ x, x = cpG D5 a0 5 (((D5.1 a0 3) - (D5.1 a0 1)).toInt64) := ⟨_, rfl⟩
    rw [← eD6] at hP
    have fD : D6 = dSg D a0 x1 y1 x2 y2 := by
      unfold dSg; rw [if_neg (by rw [hr]; decide)]
      subst eD6 eD5 eD4 eD3 eD2 eD1; simp [dSg4, cpF, cpG, va_up]
    exact n_vret (S0 := S) (Rl := (fun _ S2 D2 => S2 = S ∧ D2 = dSg D a0 x1 y1 x2 y2)) (k := 0) hC hP hS hz ⟨rfl, fD⟩ (fun _ h => h) (fun _ h => Or.inl h) dX4_init_113 (Nat.le_refl _) (Nat.le_refl _)
  refine m_entry (Nat.le_of_ble_eq_true rfl) (fun ls hl => ?_)
  have hl : lv_has ls 6 [(0, .ref a0), (1, .int x1), (2, .int y1), (3, .int x2), (4, .int y2)] := hl
  refine lv_aload_n hx hb dX4_init_0 rfl (lv_at hl 0 rfl) ?_
  refine n_objInit hC (hts _ (List.mem_cons_of_mem _ wa_19)) (hts _ (List.mem_cons_of_mem _ wa_2)) (hts _ (List.mem_cons_of_mem _ wa_3)) hl.1 dX4_init_1 ⟨Nat.le_of_ble_eq_true rfl, Nat.le_of_ble_eq_true rfl⟩ ?_
  refine lv_iload_n hx hb dX4_init_4 rfl (lv_at hl 1 rfl) ?_
  refine lv_iload_n hx hb dX4_init_5 rfl (lv_at hl 3 rfl) ?_
  refine lv_icmp_lt (tgt := 20) hx hb dX4_init_6 (by decide) (fun u => ?_) (fun u => ?_)
  · refine lv_iconst (v := 1) hx hb dX4_init_20 (by decide) ?_
    refine lv_goto (tgt := 25) hx hb dX4_init_21 (by decide) ?_
    refine lv_istore (lv' := [(5, .int 1), (0, .ref a0), (1, .int x1), (2, .int y1), (3, .int x2), (4, .int y2)]) hx hb dX4_init_25 hl (by decide) rfl (fun ls hl => ?_)
    exact T1 (by unfold sgR; simp [u]) ls hl
  · refine lv_iload_n hx hb dX4_init_9 rfl (lv_at hl 1 rfl) ?_
    refine lv_iload_n hx hb dX4_init_10 rfl (lv_at hl 3 rfl) ?_
    refine lv_icmp_ne (tgt := 24) hx hb dX4_init_11 (by decide) (fun u2 => ?_) (fun u2 => ?_)
    · refine lv_iconst (v := 0) hx hb dX4_init_24 (by decide) ?_
      refine lv_istore (lv' := [(5, .int 0), (0, .ref a0), (1, .int x1), (2, .int y1), (3, .int x2), (4, .int y2)]) hx hb dX4_init_25 hl (by decide) rfl (fun ls hl => ?_)
      exact T0 (by unfold sgR; simp [u, u2]) ls hl
    · refine lv_iload_n hx hb dX4_init_14 rfl (lv_at hl 2 rfl) ?_
      refine lv_iload hx hb dX4_init_15 (lv_at hl 4 rfl) ?_
      refine lv_icmp_ge (tgt := 24) hx hb dX4_init_17 (by decide) (fun u3 => ?_) (fun u3 => ?_)
      · refine lv_iconst (v := 0) hx hb dX4_init_24 (by decide) ?_
        refine lv_istore (lv' := [(5, .int 0), (0, .ref a0), (1, .int x1), (2, .int y1), (3, .int x2), (4, .int y2)]) hx hb dX4_init_25 hl (by decide) rfl (fun ls hl => ?_)
        exact T0 (by unfold sgR; have u4 := Int32.not_lt.mpr u3; simp [u, u2, u4]) ls hl
      · refine lv_iconst (v := 1) hx hb dX4_init_20 (by decide) ?_
        refine lv_goto (tgt := 25) hx hb dX4_init_21 (by decide) ?_
        refine lv_istore (lv' := [(5, .int 1), (0, .ref a0), (1, .int x1), (2, .int y1), (3, .int x2), (4, .int y2)]) hx hb dX4_init_25 hl (by decide) rfl (fun ls hl => ?_)
        exact T1 (by unfold sgR; have u4 : y1 < y2 := Int32.not_le.mp u3; simp [u2, u4]) ls hl
