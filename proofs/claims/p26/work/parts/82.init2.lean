/-! constructors of Edges, Faces, Segment -/
/-- a new row of n cells: it at b, its cells behind it -/
def nRow (S : CS) (b n : Nat) : CS := sRef (sAdd (sAdd S b 3 0) (b + 1) 8 n) b 0 (b + 1)
theorem dX0_init_0 : decode cX0_init 0 = .ok (.aload_n 0, 1) := by decide +kernel
theorem dX0_init_1 : decode cX0_init 1 = .ok (.invokespecial 3, 3) := by decide +kernel
theorem dX0_init_4 : decode cX0_init 4 = .ok (.aload_n 0, 1) := by decide +kernel
theorem dX0_init_5 : decode cX0_init 5 = .ok (.new 9, 3) := by decide +kernel
theorem dX0_init_8 : decode cX0_init 8 = .ok (.dup, 1) := by decide +kernel
theorem dX0_init_9 : decode cX0_init 9 = .ok (.sipush 144, 3) := by decide +kernel
theorem dX0_init_12 : decode cX0_init 12 = .ok (.invokespecial 11, 3) := by decide +kernel
theorem dX0_init_15 : decode cX0_init 15 = .ok (.putfield 14, 3) := by decide +kernel
theorem dX0_init_18 : decode cX0_init 18 = .ok (.aload_n 0, 1) := by decide +kernel
theorem dX0_init_19 : decode cX0_init 19 = .ok (.new 9, 3) := by decide +kernel
theorem dX0_init_22 : decode cX0_init 22 = .ok (.dup, 1) := by decide +kernel
theorem dX0_init_23 : decode cX0_init 23 = .ok (.sipush 144, 3) := by decide +kernel
theorem dX0_init_26 : decode cX0_init 26 = .ok (.invokespecial 11, 3) := by decide +kernel
theorem dX0_init_29 : decode cX0_init 29 = .ok (.putfield 20, 3) := by decide +kernel
theorem dX0_init_32 : decode cX0_init 32 = .ok (.aload_n 0, 1) := by decide +kernel
theorem dX0_init_33 : decode cX0_init 33 = .ok (.new 9, 3) := by decide +kernel
theorem dX0_init_36 : decode cX0_init 36 = .ok (.dup, 1) := by decide +kernel
theorem dX0_init_37 : decode cX0_init 37 = .ok (.sipush 144, 3) := by decide +kernel
theorem dX0_init_40 : decode cX0_init 40 = .ok (.invokespecial 11, 3) := by decide +kernel
theorem dX0_init_43 : decode cX0_init 43 = .ok (.putfield 23, 3) := by decide +kernel
theorem dX0_init_46 : decode cX0_init 46 = .ok (.aload_n 0, 1) := by decide +kernel
theorem dX0_init_47 : decode cX0_init 47 = .ok (.new 9, 3) := by decide +kernel
theorem dX0_init_50 : decode cX0_init 50 = .ok (.dup, 1) := by decide +kernel
theorem dX0_init_51 : decode cX0_init 51 = .ok (.sipush 288, 3) := by decide +kernel
theorem dX0_init_54 : decode cX0_init 54 = .ok (.invokespecial 11, 3) := by decide +kernel
theorem dX0_init_57 : decode cX0_init 57 = .ok (.putfield 26, 3) := by decide +kernel
theorem dX0_init_60 : decode cX0_init 60 = .ok (.aload_n 0, 1) := by decide +kernel
theorem dX0_init_61 : decode cX0_init 61 = .ok (.new 9, 3) := by decide +kernel
theorem dX0_init_64 : decode cX0_init 64 = .ok (.dup, 1) := by decide +kernel
theorem dX0_init_65 : decode cX0_init 65 = .ok (.sipush 288, 3) := by decide +kernel
theorem dX0_init_68 : decode cX0_init 68 = .ok (.invokespecial 11, 3) := by decide +kernel
theorem dX0_init_71 : decode cX0_init 71 = .ok (.putfield 29, 3) := by decide +kernel
theorem dX0_init_74 : decode cX0_init 74 = .ok (.aload_n 0, 1) := by decide +kernel
theorem dX0_init_75 : decode cX0_init 75 = .ok (.iconst 0, 1) := by decide +kernel
theorem dX0_init_76 : decode cX0_init 76 = .ok (.putfield 32, 3) := by decide +kernel
theorem dX0_init_79 : decode cX0_init 79 = .ok (.return_, 1) := by decide +kernel
def wX0_init : List Cond := Cond.code yX0_init cX0_init 1 none :: WA
def rX0_init (S : CS) (a0 sz : Nat) : CS := sRef (nRow (sRef (nRow (sRef (nRow (sRef (nRow (sRef (nRow (S) (sz + 0) 144) a0 0 (sz + 0)) (sz + 2) 144) a0 1 (sz + 2)) (sz + 4) 144) a0 2 (sz + 4)) (sz + 6) 288) a0 3 (sz + 6)) (sz + 8) 288) a0 4 (sz + 8)
def qX0_init (D : CD) (a0 sz : Nat) : CD := cpF (dNew (dNew (dNew (dNew (dNew (dNew (dNew (dNew (dNew (dNew (D) (sz + 0)) (sz + 1)) (sz + 2)) (sz + 3)) (sz + 4)) (sz + 5)) (sz + 6)) (sz + 7)) (sz + 8)) (sz + 9)) a0 5 0
theorem ge_X0_init {sz q : Nat} (h : q ∈ [sz + 0, sz + 1, sz + 2, sz + 3, sz + 4, sz + 5, sz + 6, sz + 7, sz + 8, sz + 9]) : sz ≤ q := by
  simp only [List.mem_cons, List.not_mem_nil, or_false] at h
  omega
set_option maxRecDepth 100000 in
set_option maxHeartbeats 4000000 in
theorem i_X0 (l : Launch) (G : cG) (S : CS) (D : CD) (a0 : Nat) (hm0 : a0 ∈ S.1) (hk0 : S.2.1 a0 = 0) : cMK l yX0_init wX0_init ({ frames := 2, cells := 10, slots := 1013, locals := 50 }) G S [.ref a0] D 10 10 1013 (fun sz S2 D2 => S2 = rX0_init S a0 sz ∧ D2 = qX0_init D a0 sz) := by
  refine cBodyK (cc := cX0_init) (maxL := 1) (ret := none) (own := RX0) (by decide) rfl rfl ?_
  intro sz p e s m below meth c hC hP hname
  have hC0 := hC
  obtain ⟨hx, hb, -, hts, hown, -, hml, -, -, hz, -⟩ := hC0
  have hS : va_S (cA G S sz) s.heap s.heap [] := va_S.rf
  have hlt : a0 < sz := by rw [← hz]; exact cW_lt hP hm0
  have hin_X0 : ∀ w ∈ wsX00, w ∈ wX0_init := fun w h => List.mem_cons_of_mem _ (hWCA _ (hWC0 w h))
  have hin_X3 : ∀ w ∈ wsX30, w ∈ wX0_init := fun w h => List.mem_cons_of_mem _ (hWCA _ (hWC3 w h))
  refine m_entry (Nat.le_of_ble_eq_true rfl) (fun ls hl => ?_)
  have hl : lv_has ls 1 [(0, .ref a0)] := hl
  refine lv_aload_n hx hb dX0_init_0 rfl (lv_at hl 0 rfl) ?_
  refine n_objInit hC (hts _ (List.mem_cons_of_mem _ wa_6)) (hts _ (List.mem_cons_of_mem _ wa_2)) (hts _ (List.mem_cons_of_mem _ wa_3)) hl.1 dX0_init_1 ⟨Nat.le_of_ble_eq_true rfl, Nat.le_of_ble_eq_true rfl⟩ ?_
  refine lv_aload_n hx hb dX0_init_4 rfl (lv_at hl 0 rfl) ?_
  refine n_obj (C := RX3) (T := TX3) (N := 1) (ci := 4) (kd := 3) (h := sz) hC hP hS hz hin_X3 tyX3 tyX3_ok (hts _ (List.mem_cons_of_mem _ wa_7)) (hts _ (List.mem_cons_of_mem _ wa_8)) (hts _ (List.mem_cons_of_mem _ (hWCA _ wc_102))) rfl (cnew_3 G _ _ _) cdef_3 (Nat.le_of_ble_eq_true rfl) (Nat.le_of_ble_eq_true rfl) dX0_init_5 (fun H hP hz hS hC => ?_)
  obtain ⟨S1, eS1⟩ : ∃ x, x = sAdd S sz 3 0 := ⟨_, rfl⟩
  rw [← eS1] at hP hS hC
  obtain ⟨D2, eD2⟩ : ∃ x, x = dNew D sz := ⟨_, rfl⟩
  rw [← eD2] at hP
  have hm0 : a0 ∈ S1.1 := by rw [eS1]; exact List.mem_append_left _ hm0
  have hk0 : S1.2.1 a0 = 0 := by rw [eS1]; exact (va_up_ne _ _ (Nat.ne_of_lt hlt)).trans hk0
  have hz : H.size = (sz + 1) := hz
  refine lv_dup hx hb dX0_init_8 rfl ?_
  refine lv_sipush (v := 144) hx hb dX0_init_9 (by decide) ?_
  refine n_init (As := [.int 144]) (rest := [.ref sz, .ref a0]) (h := (sz + 1)) hC hP hS hz (i_X3 l G _ _ sz (by rw [eS1]; exact List.mem_append_right _ (List.mem_singleton.mpr rfl)) (by rw [eS1]; exact va_up_self _ _ _) (n := 144) (N := 144) (by decide) (by decide) (Nat.le_of_ble_eq_true rfl)) (cwI 1 hts (gIA wa_0 (fun w h => h)) rfl rfl rfl (hts _ (List.mem_cons_of_mem _ (hWCA _ wc_102))) (hts _ (List.mem_cons_of_mem _ wa_10)) (hts _ (List.mem_cons_of_mem _ wa_11)) rfl (by decide +kernel) ⟨Nat.le_of_ble_eq_true rfl, Nat.le_of_ble_eq_true rfl⟩) rfl hl.1 rfl (Nat.le_of_ble_eq_true rfl) ⟨Nat.le_of_ble_eq_true rfl, Nat.le_of_ble_eq_true rfl⟩ dX0_init_12 (fun S2 D2 H locs hRl hGr hP hz hS hC => ?_)
  have hz : H.size = (sz + 2) := hz
  obtain ⟨hS2, hD2⟩ := hRl
  obtain ⟨S3, eS3⟩ : ∃ x, x = S2 := ⟨_, rfl⟩
  rw [← eS3] at hP hS hC hS2
  have eS3 := hS2
  obtain ⟨D4, eD4⟩ : ∃ x, x = D2 := ⟨_, rfl⟩
  rw [← eD4] at hP hD2
  have eD4 := hD2
  have hm0 : a0 ∈ S3.1 := by rw [eS3]; exact List.mem_append_left _ hm0
  have hk0 : S3.2.1 a0 = 0 := by rw [eS3]; exact (va_up_ne _ _ (Nat.ne_of_lt (Nat.lt_of_lt_of_le hlt (Nat.le_add_right _ _)))).trans hk0
  refine n_put (C := RX0) (T := TX0) (N := 6) (ref := "SegmentMap$Edges") (ci := 1) (S2 := sRef S3 a0 0 sz) (D2 := D4) hC hin_X0 tyX0 tyX0_ok nmX0 hP hS hz hm0 (cE_0 hk0) rfl 0 (by decide) (hts _ (List.mem_cons_of_mem _ (hWCA _ wc_242))) rfl (Or.inr ⟨rfl, hname, rfl⟩) (ty := (.object "SegmentMap$Row")) (by decide +kernel) rfl rfl (Nat.le_of_ble_eq_true rfl) rfl (csi_0_0 G hk0 _) (cne_R G) dX0_init_15 (fun H locs hP hz hS hC => ?_)
  obtain ⟨S5, eS5⟩ : ∃ x, x = sRef S3 a0 0 sz := ⟨_, rfl⟩
  rw [← eS5] at hP hS hC
  have hm0 : a0 ∈ S5.1 := by rw [eS5]; exact hm0
  have hk0 : S5.2.1 a0 = 0 := by rw [eS5]; exact hk0
  refine lv_aload_n hx hb dX0_init_18 rfl (lv_at hl 0 rfl) ?_
  refine n_obj (C := RX3) (T := TX3) (N := 1) (ci := 4) (kd := 3) (h := (sz + 2)) hC hP hS hz hin_X3 tyX3 tyX3_ok (hts _ (List.mem_cons_of_mem _ wa_7)) (hts _ (List.mem_cons_of_mem _ wa_8)) (hts _ (List.mem_cons_of_mem _ (hWCA _ wc_102))) rfl (cnew_3 G _ _ _) cdef_3 (Nat.le_of_ble_eq_true rfl) (Nat.le_of_ble_eq_true rfl) dX0_init_19 (fun H hP hz hS hC => ?_)
  obtain ⟨S6, eS6⟩ : ∃ x, x = sAdd S5 (sz + 2) 3 0 := ⟨_, rfl⟩
  rw [← eS6] at hP hS hC
  obtain ⟨D7, eD7⟩ : ∃ x, x = dNew D4 (sz + 2) := ⟨_, rfl⟩
  rw [← eD7] at hP
  have hm0 : a0 ∈ S6.1 := by rw [eS6]; exact List.mem_append_left _ hm0
  have hk0 : S6.2.1 a0 = 0 := by rw [eS6]; exact (va_up_ne _ _ (Nat.ne_of_lt (Nat.lt_of_lt_of_le hlt (Nat.le_add_right _ _)))).trans hk0
  have hz : H.size = (sz + 3) := hz
  refine lv_dup hx hb dX0_init_22 rfl ?_
  refine lv_sipush (v := 144) hx hb dX0_init_23 (by decide) ?_
  refine n_init (As := [.int 144]) (rest := [.ref ((sz + 2)), .ref a0]) (h := (sz + 3)) hC hP hS hz (i_X3 l G _ _ ((sz + 2)) (by rw [eS6]; exact List.mem_append_right _ (List.mem_singleton.mpr rfl)) (by rw [eS6]; exact va_up_self _ _ _) (n := 144) (N := 144) (by decide) (by decide) (Nat.le_of_ble_eq_true rfl)) (cwI 1 hts (gIA wa_0 (fun w h => h)) rfl rfl rfl (hts _ (List.mem_cons_of_mem _ (hWCA _ wc_102))) (hts _ (List.mem_cons_of_mem _ wa_10)) (hts _ (List.mem_cons_of_mem _ wa_11)) rfl (by decide +kernel) ⟨Nat.le_of_ble_eq_true rfl, Nat.le_of_ble_eq_true rfl⟩) rfl hl.1 rfl (Nat.le_of_ble_eq_true rfl) ⟨Nat.le_of_ble_eq_true rfl, Nat.le_of_ble_eq_true rfl⟩ dX0_init_26 (fun S2 D2 H locs hRl hGr hP hz hS hC => ?_)
  have hz : H.size = (sz + 4) := hz
  obtain ⟨hS2, hD2⟩ := hRl
  obtain ⟨S8, eS8⟩ : ∃ x, x = S2 := ⟨_, rfl⟩
  rw [← eS8] at hP hS hC hS2
  have eS8 := hS2
  obtain ⟨D9, eD9⟩ : ∃ x, x = D2 := ⟨_, rfl⟩
  rw [← eD9] at hP hD2
  have eD9 := hD2
  have hm0 : a0 ∈ S8.1 := by rw [eS8]; exact List.mem_append_left _ hm0
  have hk0 : S8.2.1 a0 = 0 := by rw [eS8]; exact (va_up_ne _ _ (Nat.ne_of_lt (Nat.lt_of_lt_of_le hlt (Nat.le_add_right _ _)))).trans hk0
  refine n_put (C := RX0) (T := TX0) (N := 6) (ref := "SegmentMap$Edges") (ci := 1) (S2 := sRef S8 a0 1 ((sz + 2))) (D2 := D9) hC hin_X0 tyX0 tyX0_ok nmX0 hP hS hz hm0 (cE_0 hk0) rfl 1 (by decide) (hts _ (List.mem_cons_of_mem _ (hWCA _ wc_243))) rfl (Or.inr ⟨rfl, hname, rfl⟩) (ty := (.object "SegmentMap$Row")) (by decide +kernel) rfl rfl (Nat.le_of_ble_eq_true rfl) rfl (csi_0_1 G hk0 _) (cne_R G) dX0_init_29 (fun H locs hP hz hS hC => ?_)
  obtain ⟨S10, eS10⟩ : ∃ x, x = sRef S8 a0 1 ((sz + 2)) := ⟨_, rfl⟩
  rw [← eS10] at hP hS hC
  have hm0 : a0 ∈ S10.1 := by rw [eS10]; exact hm0
  have hk0 : S10.2.1 a0 = 0 := by rw [eS10]; exact hk0
  refine lv_aload_n hx hb dX0_init_32 rfl (lv_at hl 0 rfl) ?_
  refine n_obj (C := RX3) (T := TX3) (N := 1) (ci := 4) (kd := 3) (h := (sz + 4)) hC hP hS hz hin_X3 tyX3 tyX3_ok (hts _ (List.mem_cons_of_mem _ wa_7)) (hts _ (List.mem_cons_of_mem _ wa_8)) (hts _ (List.mem_cons_of_mem _ (hWCA _ wc_102))) rfl (cnew_3 G _ _ _) cdef_3 (Nat.le_of_ble_eq_true rfl) (Nat.le_of_ble_eq_true rfl) dX0_init_33 (fun H hP hz hS hC => ?_)
  obtain ⟨S11, eS11⟩ : ∃ x, x = sAdd S10 (sz + 4) 3 0 := ⟨_, rfl⟩
  rw [← eS11] at hP hS hC
  obtain ⟨D12, eD12⟩ : ∃ x, x = dNew D9 (sz + 4) := ⟨_, rfl⟩
  rw [← eD12] at hP
  have hm0 : a0 ∈ S11.1 := by rw [eS11]; exact List.mem_append_left _ hm0
  have hk0 : S11.2.1 a0 = 0 := by rw [eS11]; exact (va_up_ne _ _ (Nat.ne_of_lt (Nat.lt_of_lt_of_le hlt (Nat.le_add_right _ _)))).trans hk0
  have hz : H.size = (sz + 5) := hz
  refine lv_dup hx hb dX0_init_36 rfl ?_
  refine lv_sipush (v := 144) hx hb dX0_init_37 (by decide) ?_
  refine n_init (As := [.int 144]) (rest := [.ref ((sz + 4)), .ref a0]) (h := (sz + 5)) hC hP hS hz (i_X3 l G _ _ ((sz + 4)) (by rw [eS11]; exact List.mem_append_right _ (List.mem_singleton.mpr rfl)) (by rw [eS11]; exact va_up_self _ _ _) (n := 144) (N := 144) (by decide) (by decide) (Nat.le_of_ble_eq_true rfl)) (cwI 1 hts (gIA wa_0 (fun w h => h)) rfl rfl rfl (hts _ (List.mem_cons_of_mem _ (hWCA _ wc_102))) (hts _ (List.mem_cons_of_mem _ wa_10)) (hts _ (List.mem_cons_of_mem _ wa_11)) rfl (by decide +kernel) ⟨Nat.le_of_ble_eq_true rfl, Nat.le_of_ble_eq_true rfl⟩) rfl hl.1 rfl (Nat.le_of_ble_eq_true rfl) ⟨Nat.le_of_ble_eq_true rfl, Nat.le_of_ble_eq_true rfl⟩ dX0_init_40 (fun S2 D2 H locs hRl hGr hP hz hS hC => ?_)
  have hz : H.size = (sz + 6) := hz
  obtain ⟨hS2, hD2⟩ := hRl
  obtain ⟨S13, eS13⟩ : ∃ x, x = S2 := ⟨_, rfl⟩
  rw [← eS13] at hP hS hC hS2
  have eS13 := hS2
  obtain ⟨D14, eD14⟩ : ∃ x, x = D2 := ⟨_, rfl⟩
  rw [← eD14] at hP hD2
  have eD14 := hD2
  have hm0 : a0 ∈ S13.1 := by rw [eS13]; exact List.mem_append_left _ hm0
  have hk0 : S13.2.1 a0 = 0 := by rw [eS13]; exact (va_up_ne _ _ (Nat.ne_of_lt (Nat.lt_of_lt_of_le hlt (Nat.le_add_right _ _)))).trans hk0
  refine n_put (C := RX0) (T := TX0) (N := 6) (ref := "SegmentMap$Edges") (ci := 1) (S2 := sRef S13 a0 2 ((sz + 4))) (D2 := D14) hC hin_X0 tyX0 tyX0_ok nmX0 hP hS hz hm0 (cE_0 hk0) rfl 2 (by decide) (hts _ (List.mem_cons_of_mem _ (hWCA _ wc_244))) rfl (Or.inr ⟨rfl, hname, rfl⟩) (ty := (.object "SegmentMap$Row")) (by decide +kernel) rfl rfl (Nat.le_of_ble_eq_true rfl) rfl (csi_0_2 G hk0 _) (cne_R G) dX0_init_43 (fun H locs hP hz hS hC => ?_)
  obtain ⟨S15, eS15⟩ : ∃ x, x = sRef S13 a0 2 ((sz + 4)) := ⟨_, rfl⟩
  rw [← eS15] at hP hS hC
  have hm0 : a0 ∈ S15.1 := by rw [eS15]; exact hm0
  have hk0 : S15.2.1 a0 = 0 := by rw [eS15]; exact hk0
  refine lv_aload_n hx hb dX0_init_46 rfl (lv_at hl 0 rfl) ?_
  refine n_obj (C := RX3) (T := TX3) (N := 1) (ci := 4) (kd := 3) (h := (sz + 6)) hC hP hS hz hin_X3 tyX3 tyX3_ok (hts _ (List.mem_cons_of_mem _ wa_7)) (hts _ (List.mem_cons_of_mem _ wa_8)) (hts _ (List.mem_cons_of_mem _ (hWCA _ wc_102))) rfl (cnew_3 G _ _ _) cdef_3 (Nat.le_of_ble_eq_true rfl) (Nat.le_of_ble_eq_true rfl) dX0_init_47 (fun H hP hz hS hC => ?_)
  obtain ⟨S16, eS16⟩ : ∃ x, x = sAdd S15 (sz + 6) 3 0 := ⟨_, rfl⟩
  rw [← eS16] at hP hS hC
  obtain ⟨D17, eD17⟩ : ∃ x, x = dNew D14 (sz + 6) := ⟨_, rfl⟩
  rw [← eD17] at hP
  have hm0 : a0 ∈ S16.1 := by rw [eS16]; exact List.mem_append_left _ hm0
  have hk0 : S16.2.1 a0 = 0 := by rw [eS16]; exact (va_up_ne _ _ (Nat.ne_of_lt (Nat.lt_of_lt_of_le hlt (Nat.le_add_right _ _)))).trans hk0
  have hz : H.size = (sz + 7) := hz
  refine lv_dup hx hb dX0_init_50 rfl ?_
  refine lv_sipush (v := 288) hx hb dX0_init_51 (by decide) ?_
  refine n_init (As := [.int 288]) (rest := [.ref ((sz + 6)), .ref a0]) (h := (sz + 7)) hC hP hS hz (i_X3 l G _ _ ((sz + 6)) (by rw [eS16]; exact List.mem_append_right _ (List.mem_singleton.mpr rfl)) (by rw [eS16]; exact va_up_self _ _ _) (n := 288) (N := 288) (by decide) (by decide) (Nat.le_of_ble_eq_true rfl)) (cwI 1 hts (gIA wa_0 (fun w h => h)) rfl rfl rfl (hts _ (List.mem_cons_of_mem _ (hWCA _ wc_102))) (hts _ (List.mem_cons_of_mem _ wa_10)) (hts _ (List.mem_cons_of_mem _ wa_11)) rfl (by decide +kernel) ⟨Nat.le_of_ble_eq_true rfl, Nat.le_of_ble_eq_true rfl⟩) rfl hl.1 rfl (Nat.le_of_ble_eq_true rfl) ⟨Nat.le_of_ble_eq_true rfl, Nat.le_of_ble_eq_true rfl⟩ dX0_init_54 (fun S2 D2 H locs hRl hGr hP hz hS hC => ?_)
  have hz : H.size = (sz + 8) := hz
  obtain ⟨hS2, hD2⟩ := hRl
  obtain ⟨S18, eS18⟩ : ∃ x, x = S2 := ⟨_, rfl⟩
  rw [← eS18] at hP hS hC hS2
  have eS18 := hS2
  obtain ⟨D19, eD19⟩ : ∃ x, x = D2 := ⟨_, rfl⟩
  rw [← eD19] at hP hD2
  have eD19 := hD2
  have hm0 : a0 ∈ S18.1 := by rw [eS18]; exact List.mem_append_left _ hm0
  have hk0 : S18.2.1 a0 = 0 := by rw [eS18]; exact (va_up_ne _ _ (Nat.ne_of_lt (Nat.lt_of_lt_of_le hlt (Nat.le_add_right _ _)))).trans hk0
  refine n_put (C := RX0) (T := TX0) (N := 6) (ref := "SegmentMap$Edges") (ci := 1) (S2 := sRef S18 a0 3 ((sz + 6))) (D2 := D19) hC hin_X0 tyX0 tyX0_ok nmX0 hP hS hz hm0 (cE_0 hk0) rfl 3 (by decide) (hts _ (List.mem_cons_of_mem _ wa_9)) rfl (Or.inr ⟨rfl, hname, rfl⟩) (ty := (.object "SegmentMap$Row")) (by decide +kernel) rfl rfl (Nat.le_of_ble_eq_true rfl) rfl (csi_0_3 G hk0 _) (cne_R G) dX0_init_57 (fun H locs hP hz hS hC => ?_)
  obtain ⟨S20, eS20⟩ : ∃ x, x = sRef S18 a0 3 ((sz + 6)) := ⟨_, rfl⟩
  rw [← eS20] at hP hS hC
  have hm0 : a0 ∈ S20.1 := by rw [eS20]; exact hm0
  have hk0 : S20.2.1 a0 = 0 := by rw [eS20]; exact hk0
  refine lv_aload_n hx hb dX0_init_60 rfl (lv_at hl 0 rfl) ?_
  refine n_obj (C := RX3) (T := TX3) (N := 1) (ci := 4) (kd := 3) (h := (sz + 8)) hC hP hS hz hin_X3 tyX3 tyX3_ok (hts _ (List.mem_cons_of_mem _ wa_7)) (hts _ (List.mem_cons_of_mem _ wa_8)) (hts _ (List.mem_cons_of_mem _ (hWCA _ wc_102))) rfl (cnew_3 G _ _ _) cdef_3 (Nat.le_of_ble_eq_true rfl) (Nat.le_of_ble_eq_true rfl) dX0_init_61 (fun H hP hz hS hC => ?_)
  obtain ⟨S21, eS21⟩ : ∃ x, x = sAdd S20 (sz + 8) 3 0 := ⟨_, rfl⟩
  rw [← eS21] at hP hS hC
  obtain ⟨D22, eD22⟩ : ∃ x, x = dNew D19 (sz + 8) := ⟨_, rfl⟩
  rw [← eD22] at hP
  have hm0 : a0 ∈ S21.1 := by rw [eS21]; exact List.mem_append_left _ hm0
  have hk0 : S21.2.1 a0 = 0 := by rw [eS21]; exact (va_up_ne _ _ (Nat.ne_of_lt (Nat.lt_of_lt_of_le hlt (Nat.le_add_right _ _)))).trans hk0
  have hz : H.size = (sz + 9) := hz
  refine lv_dup hx hb dX0_init_64 rfl ?_
  refine lv_sipush (v := 288) hx hb dX0_init_65 (by decide) ?_
  refine n_init (As := [.int 288]) (rest := [.ref ((sz + 8)), .ref a0]) (h := (sz + 9)) hC hP hS hz (i_X3 l G _ _ ((sz + 8)) (by rw [eS21]; exact List.mem_append_right _ (List.mem_singleton.mpr rfl)) (by rw [eS21]; exact va_up_self _ _ _) (n := 288) (N := 288) (by decide) (by decide) (Nat.le_of_ble_eq_true rfl)) (cwI 1 hts (gIA wa_0 (fun w h => h)) rfl rfl rfl (hts _ (List.mem_cons_of_mem _ (hWCA _ wc_102))) (hts _ (List.mem_cons_of_mem _ wa_10)) (hts _ (List.mem_cons_of_mem _ wa_11)) rfl (by decide +kernel) ⟨Nat.le_of_ble_eq_true rfl, Nat.le_of_ble_eq_true rfl⟩) rfl hl.1 rfl (Nat.le_of_ble_eq_true rfl) ⟨Nat.le_of_ble_eq_true rfl, Nat.le_of_ble_eq_true rfl⟩ dX0_init_68 (fun S2 D2 H locs hRl hGr hP hz hS hC => ?_)
  have hz : H.size = (sz + 10) := hz
  obtain ⟨hS2, hD2⟩ := hRl
  obtain ⟨S23, eS23⟩ : ∃ x, x = S2 := ⟨_, rfl⟩
  rw [← eS23] at hP hS hC hS2
  have eS23 := hS2
  obtain ⟨D24, eD24⟩ : ∃ x, x = D2 := ⟨_, rfl⟩
  rw [← eD24] at hP hD2
  have eD24 := hD2
  have hm0 : a0 ∈ S23.1 := by rw [eS23]; exact List.mem_append_left _ hm0
  have hk0 : S23.2.1 a0 = 0 := by rw [eS23]; exact (va_up_ne _ _ (Nat.ne_of_lt (Nat.lt_of_lt_of_le hlt (Nat.le_add_right _ _)))).trans hk0
  refine n_put (C := RX0) (T := TX0) (N := 6) (ref := "SegmentMap$Edges") (ci := 1) (S2 := sRef S23 a0 4 ((sz + 8))) (D2 := D24) hC hin_X0 tyX0 tyX0_ok nmX0 hP hS hz hm0 (cE_0 hk0) rfl 4 (by decide) (hts _ (List.mem_cons_of_mem _ (hWCA _ wc_245))) rfl (Or.inr ⟨rfl, hname, rfl⟩) (ty := (.object "SegmentMap$Row")) (by decide +kernel) rfl rfl (Nat.le_of_ble_eq_true rfl) rfl (csi_0_4 G hk0 _) (cne_R G) dX0_init_71 (fun H locs hP hz hS hC => ?_)
  obtain ⟨S25, eS25⟩ : ∃ x, x = sRef S23 a0 4 ((sz + 8)) := ⟨_, rfl⟩
  rw [← eS25] at hP hS hC
  have hm0 : a0 ∈ S25.1 := by rw [eS25]; exact hm0
  have hk0 : S25.2.1 a0 = 0 := by rw [eS25]; exact hk0
  refine lv_aload_n hx hb dX0_init_74 rfl (lv_at hl 0 rfl) ?_
  refine lv_iconst (v := 0) hx hb dX0_init_75 (by decide) ?_
  refine n_put (C := RX0) (T := TX0) (N := 6) (ref := "SegmentMap$Edges") (ci := 1) (S2 := S25) (D2 := cpF D24 a0 5 0) hC hin_X0 tyX0 tyX0_ok nmX0 hP hS hz hm0 (cE_0 hk0) rfl 5 (by decide) (hts _ (List.mem_cons_of_mem _ (hWCA _ wc_239))) rfl (Or.inl rfl) (ty := .int) (by decide +kernel) rfl rfl (Nat.le_of_ble_eq_true rfl) rfl (csi_0_5 G hk0 _) (cne_F G) dX0_init_76 (fun H locs hP hz hS hC => ?_)
  obtain ⟨D26, eD26⟩ : ∃ x, x = cpF D24 a0 5 0 := ⟨_, rfl⟩
  rw [← eD26] at hP
  have fS : S25 = rX0_init S a0 sz := by subst eS25 eS23 eS21 eS20 eS18 eS16 eS15 eS13 eS11 eS10 eS8 eS6 eS5 eS3 eS1; rfl
  have fD : D26 = qX0_init D a0 sz := by subst eD26 eD24 eD22 eD19 eD17 eD14 eD12 eD9 eD7 eD4 eD2; rfl
  have f1 : S25.1 = S.1 ++ [sz + 0, sz + 1, sz + 2, sz + 3, sz + 4, sz + 5, sz + 6, sz + 7, sz + 8, sz + 9] := by rw [fS]; simp only [rX0_init, nRow, sRef, sAdd, List.append_assoc, List.cons_append, List.nil_append]
  refine n_vret (S0 := S) (Rl := (fun sz S2 D2 => S2 = rX0_init S a0 sz ∧ D2 = qX0_init D a0 sz)) (k := 10) hC hP hS hz ⟨fS, fD⟩ (fun q h => by rw [f1]; exact List.mem_append_left _ h) (fun q h => ?_) dX0_init_79 (Nat.le_of_ble_eq_true rfl) (Nat.le_of_ble_eq_true rfl)
  rw [f1] at h
  rcases List.mem_append.mp h with h | h
  · exact Or.inl h
  · exact Or.inr (ge_X0_init h)
theorem dX1_init_0 : decode cX1_init 0 = .ok (.aload_n 0, 1) := by decide +kernel
theorem dX1_init_1 : decode cX1_init 1 = .ok (.invokespecial 3, 3) := by decide +kernel
theorem dX1_init_4 : decode cX1_init 4 = .ok (.aload_n 0, 1) := by decide +kernel
theorem dX1_init_5 : decode cX1_init 5 = .ok (.new 9, 3) := by decide +kernel
theorem dX1_init_8 : decode cX1_init 8 = .ok (.dup, 1) := by decide +kernel
theorem dX1_init_9 : decode cX1_init 9 = .ok (.bipush 56, 2) := by decide +kernel
theorem dX1_init_11 : decode cX1_init 11 = .ok (.invokespecial 11, 3) := by decide +kernel
theorem dX1_init_14 : decode cX1_init 14 = .ok (.putfield 14, 3) := by decide +kernel
theorem dX1_init_17 : decode cX1_init 17 = .ok (.aload_n 0, 1) := by decide +kernel
theorem dX1_init_18 : decode cX1_init 18 = .ok (.new 9, 3) := by decide +kernel
theorem dX1_init_21 : decode cX1_init 21 = .ok (.dup, 1) := by decide +kernel
theorem dX1_init_22 : decode cX1_init 22 = .ok (.bipush 56, 2) := by decide +kernel
theorem dX1_init_24 : decode cX1_init 24 = .ok (.invokespecial 11, 3) := by decide +kernel
theorem dX1_init_27 : decode cX1_init 27 = .ok (.putfield 20, 3) := by decide +kernel
theorem dX1_init_30 : decode cX1_init 30 = .ok (.aload_n 0, 1) := by decide +kernel
theorem dX1_init_31 : decode cX1_init 31 = .ok (.iconst 0, 1) := by decide +kernel
theorem dX1_init_32 : decode cX1_init 32 = .ok (.putfield 23, 3) := by decide +kernel
theorem dX1_init_35 : decode cX1_init 35 = .ok (.return_, 1) := by decide +kernel
def wX1_init : List Cond := Cond.code yX1_init cX1_init 1 none :: WA
def rX1_init (S : CS) (a0 sz : Nat) : CS := sRef (nRow (sRef (nRow (S) (sz + 0) 56) a0 0 (sz + 0)) (sz + 2) 56) a0 1 (sz + 2)
def qX1_init (D : CD) (a0 sz : Nat) : CD := cpF (dNew (dNew (dNew (dNew (D) (sz + 0)) (sz + 1)) (sz + 2)) (sz + 3)) a0 2 0
theorem ge_X1_init {sz q : Nat} (h : q ∈ [sz + 0, sz + 1, sz + 2, sz + 3]) : sz ≤ q := by
  simp only [List.mem_cons, List.not_mem_nil, or_false] at h
  omega
set_option maxRecDepth 100000 in
set_option maxHeartbeats 4000000 in
theorem i_X1 (l : Launch) (G : cG) (S : CS) (D : CD) (a0 : Nat) (hm0 : a0 ∈ S.1) (hk0 : S.2.1 a0 = 1) : cMK l yX1_init wX1_init ({ frames := 2, cells := 4, slots := 114, locals := 50 }) G S [.ref a0] D 4 4 114 (fun sz S2 D2 => S2 = rX1_init S a0 sz ∧ D2 = qX1_init D a0 sz) := by
  refine cBodyK (cc := cX1_init) (maxL := 1) (ret := none) (own := RX1) (by decide) rfl rfl ?_
  intro sz p e s m below meth c hC hP hname
  have hC0 := hC
  obtain ⟨hx, hb, -, hts, hown, -, hml, -, -, hz, -⟩ := hC0
  have hS : va_S (cA G S sz) s.heap s.heap [] := va_S.rf
  have hlt : a0 < sz := by rw [← hz]; exact cW_lt hP hm0
  have hin_X1 : ∀ w ∈ wsX10, w ∈ wX1_init := fun w h => List.mem_cons_of_mem _ (hWCA _ (hWC1 w h))
  have hin_X3 : ∀ w ∈ wsX30, w ∈ wX1_init := fun w h => List.mem_cons_of_mem _ (hWCA _ (hWC3 w h))
  refine m_entry (Nat.le_of_ble_eq_true rfl) (fun ls hl => ?_)
  have hl : lv_has ls 1 [(0, .ref a0)] := hl
  refine lv_aload_n hx hb dX1_init_0 rfl (lv_at hl 0 rfl) ?_
  refine n_objInit hC (hts _ (List.mem_cons_of_mem _ wa_13)) (hts _ (List.mem_cons_of_mem _ wa_2)) (hts _ (List.mem_cons_of_mem _ wa_3)) hl.1 dX1_init_1 ⟨Nat.le_of_ble_eq_true rfl, Nat.le_of_ble_eq_true rfl⟩ ?_
  refine lv_aload_n hx hb dX1_init_4 rfl (lv_at hl 0 rfl) ?_
  refine n_obj (C := RX3) (T := TX3) (N := 1) (ci := 4) (kd := 3) (h := sz) hC hP hS hz hin_X3 tyX3 tyX3_ok (hts _ (List.mem_cons_of_mem _ wa_14)) (hts _ (List.mem_cons_of_mem _ wa_8)) (hts _ (List.mem_cons_of_mem _ (hWCA _ wc_102))) rfl (cnew_3 G _ _ _) cdef_3 (Nat.le_of_ble_eq_true rfl) (Nat.le_of_ble_eq_true rfl) dX1_init_5 (fun H hP hz hS hC => ?_)
  obtain ⟨S1, eS1⟩ : ∃ x, x = sAdd S sz 3 0 := ⟨_, rfl⟩
  rw [← eS1] at hP hS hC
  obtain ⟨D2, eD2⟩ : ∃ x, x = dNew D sz := ⟨_, rfl⟩
  rw [← eD2] at hP
  have hm0 : a0 ∈ S1.1 := by rw [eS1]; exact List.mem_append_left _ hm0
  have hk0 : S1.2.1 a0 = 1 := by rw [eS1]; exact (va_up_ne _ _ (Nat.ne_of_lt hlt)).trans hk0
  have hz : H.size = (sz + 1) := hz
  refine lv_dup hx hb dX1_init_8 rfl ?_
  refine lv_bipush (v := 56) hx hb dX1_init_9 (by decide) ?_
  refine n_init (As := [.int 56]) (rest := [.ref sz, .ref a0]) (h := (sz + 1)) hC hP hS hz (i_X3 l G _ _ sz (by rw [eS1]; exact List.mem_append_right _ (List.mem_singleton.mpr rfl)) (by rw [eS1]; exact va_up_self _ _ _) (n := 56) (N := 56) (by decide) (by decide) (Nat.le_of_ble_eq_true rfl)) (cwI 1 hts (gIA wa_0 (fun w h => h)) rfl rfl rfl (hts _ (List.mem_cons_of_mem _ (hWCA _ wc_102))) (hts _ (List.mem_cons_of_mem _ wa_15)) (hts _ (List.mem_cons_of_mem _ wa_11)) rfl (by decide +kernel) ⟨Nat.le_of_ble_eq_true rfl, Nat.le_of_ble_eq_true rfl⟩) rfl hl.1 rfl (Nat.le_of_ble_eq_true rfl) ⟨Nat.le_of_ble_eq_true rfl, Nat.le_of_ble_eq_true rfl⟩ dX1_init_11 (fun S2 D2 H locs hRl hGr hP hz hS hC => ?_)
  have hz : H.size = (sz + 2) := hz
  obtain ⟨hS2, hD2⟩ := hRl
  obtain ⟨S3, eS3⟩ : ∃ x, x = S2 := ⟨_, rfl⟩
  rw [← eS3] at hP hS hC hS2
  have eS3 := hS2
  obtain ⟨D4, eD4⟩ : ∃ x, x = D2 := ⟨_, rfl⟩
  rw [← eD4] at hP hD2
  have eD4 := hD2
  have hm0 : a0 ∈ S3.1 := by rw [eS3]; exact List.mem_append_left _ hm0
  have hk0 : S3.2.1 a0 = 1 := by rw [eS3]; exact (va_up_ne _ _ (Nat.ne_of_lt (Nat.lt_of_lt_of_le hlt (Nat.le_add_right _ _)))).trans hk0
  refine n_put (C := RX1) (T := TX1) (N := 3) (ref := "SegmentMap$Faces") (ci := 2) (S2 := sRef S3 a0 0 sz) (D2 := D4) hC hin_X1 tyX1 tyX1_ok nmX1 hP hS hz hm0 (cE_1 hk0) rfl 0 (by decide) (hts _ (List.mem_cons_of_mem _ (hWCA _ wc_287))) rfl (Or.inr ⟨rfl, hname, rfl⟩) (ty := (.object "SegmentMap$Row")) (by decide +kernel) rfl rfl (Nat.le_of_ble_eq_true rfl) rfl (csi_1_0 G hk0 _) (cne_R G) dX1_init_14 (fun H locs hP hz hS hC => ?_)
  obtain ⟨S5, eS5⟩ : ∃ x, x = sRef S3 a0 0 sz := ⟨_, rfl⟩
  rw [← eS5] at hP hS hC
  have hm0 : a0 ∈ S5.1 := by rw [eS5]; exact hm0
  have hk0 : S5.2.1 a0 = 1 := by rw [eS5]; exact hk0
  refine lv_aload_n hx hb dX1_init_17 rfl (lv_at hl 0 rfl) ?_
  refine n_obj (C := RX3) (T := TX3) (N := 1) (ci := 4) (kd := 3) (h := (sz + 2)) hC hP hS hz hin_X3 tyX3 tyX3_ok (hts _ (List.mem_cons_of_mem _ wa_14)) (hts _ (List.mem_cons_of_mem _ wa_8)) (hts _ (List.mem_cons_of_mem _ (hWCA _ wc_102))) rfl (cnew_3 G _ _ _) cdef_3 (Nat.le_of_ble_eq_true rfl) (Nat.le_of_ble_eq_true rfl) dX1_init_18 (fun H hP hz hS hC => ?_)
  obtain ⟨S6, eS6⟩ : ∃ x, x = sAdd S5 (sz + 2) 3 0 := ⟨_, rfl⟩
  rw [← eS6] at hP hS hC
  obtain ⟨D7, eD7⟩ : ∃ x, x = dNew D4 (sz + 2) := ⟨_, rfl⟩
  rw [← eD7] at hP
  have hm0 : a0 ∈ S6.1 := by rw [eS6]; exact List.mem_append_left _ hm0
  have hk0 : S6.2.1 a0 = 1 := by rw [eS6]; exact (va_up_ne _ _ (Nat.ne_of_lt (Nat.lt_of_lt_of_le hlt (Nat.le_add_right _ _)))).trans hk0
  have hz : H.size = (sz + 3) := hz
  refine lv_dup hx hb dX1_init_21 rfl ?_
  refine lv_bipush (v := 56) hx hb dX1_init_22 (by decide) ?_
  refine n_init (As := [.int 56]) (rest := [.ref ((sz + 2)), .ref a0]) (h := (sz + 3)) hC hP hS hz (i_X3 l G _ _ ((sz + 2)) (by rw [eS6]; exact List.mem_append_right _ (List.mem_singleton.mpr rfl)) (by rw [eS6]; exact va_up_self _ _ _) (n := 56) (N := 56) (by decide) (by decide) (Nat.le_of_ble_eq_true rfl)) (cwI 1 hts (gIA wa_0 (fun w h => h)) rfl rfl rfl (hts _ (List.mem_cons_of_mem _ (hWCA _ wc_102))) (hts _ (List.mem_cons_of_mem _ wa_15)) (hts _ (List.mem_cons_of_mem _ wa_11)) rfl (by decide +kernel) ⟨Nat.le_of_ble_eq_true rfl, Nat.le_of_ble_eq_true rfl⟩) rfl hl.1 rfl (Nat.le_of_ble_eq_true rfl) ⟨Nat.le_of_ble_eq_true rfl, Nat.le_of_ble_eq_true rfl⟩ dX1_init_24 (fun S2 D2 H locs hRl hGr hP hz hS hC => ?_)
  have hz : H.size = (sz + 4) := hz
  obtain ⟨hS2, hD2⟩ := hRl
  obtain ⟨S8, eS8⟩ : ∃ x, x = S2 := ⟨_, rfl⟩
  rw [← eS8] at hP hS hC hS2
  have eS8 := hS2
  obtain ⟨D9, eD9⟩ : ∃ x, x = D2 := ⟨_, rfl⟩
  rw [← eD9] at hP hD2
  have eD9 := hD2
  have hm0 : a0 ∈ S8.1 := by rw [eS8]; exact List.mem_append_left _ hm0
  have hk0 : S8.2.1 a0 = 1 := by rw [eS8]; exact (va_up_ne _ _ (Nat.ne_of_lt (Nat.lt_of_lt_of_le hlt (Nat.le_add_right _ _)))).trans hk0
  refine n_put (C := RX1) (T := TX1) (N := 3) (ref := "SegmentMap$Faces") (ci := 2) (S2 := sRef S8 a0 1 ((sz + 2))) (D2 := D9) hC hin_X1 tyX1 tyX1_ok nmX1 hP hS hz hm0 (cE_1 hk0) rfl 1 (by decide) (hts _ (List.mem_cons_of_mem _ (hWCA _ wc_289))) rfl (Or.inr ⟨rfl, hname, rfl⟩) (ty := (.object "SegmentMap$Row")) (by decide +kernel) rfl rfl (Nat.le_of_ble_eq_true rfl) rfl (csi_1_1 G hk0 _) (cne_R G) dX1_init_27 (fun H locs hP hz hS hC => ?_)
  obtain ⟨S10, eS10⟩ : ∃ x, x = sRef S8 a0 1 ((sz + 2)) := ⟨_, rfl⟩
  rw [← eS10] at hP hS hC
  have hm0 : a0 ∈ S10.1 := by rw [eS10]; exact hm0
  have hk0 : S10.2.1 a0 = 1 := by rw [eS10]; exact hk0
  refine lv_aload_n hx hb dX1_init_30 rfl (lv_at hl 0 rfl) ?_
  refine lv_iconst (v := 0) hx hb dX1_init_31 (by decide) ?_
  refine n_put (C := RX1) (T := TX1) (N := 3) (ref := "SegmentMap$Faces") (ci := 2) (S2 := S10) (D2 := cpF D9 a0 2 0) hC hin_X1 tyX1 tyX1_ok nmX1 hP hS hz hm0 (cE_1 hk0) rfl 2 (by decide) (hts _ (List.mem_cons_of_mem _ (hWCA _ wc_288))) rfl (Or.inl rfl) (ty := .int) (by decide +kernel) rfl rfl (Nat.le_of_ble_eq_true rfl) rfl (csi_1_2 G hk0 _) (cne_F G) dX1_init_32 (fun H locs hP hz hS hC => ?_)
  obtain ⟨D11, eD11⟩ : ∃ x, x = cpF D9 a0 2 0 := ⟨_, rfl⟩
  rw [← eD11] at hP
  have fS : S10 = rX1_init S a0 sz := by subst eS10 eS8 eS6 eS5 eS3 eS1; rfl
  have fD : D11 = qX1_init D a0 sz := by subst eD11 eD9 eD7 eD4 eD2; rfl
  have f1 : S10.1 = S.1 ++ [sz + 0, sz + 1, sz + 2, sz + 3] := by rw [fS]; simp only [rX1_init, nRow, sRef, sAdd, List.append_assoc, List.cons_append, List.nil_append]
  refine n_vret (S0 := S) (Rl := (fun sz S2 D2 => S2 = rX1_init S a0 sz ∧ D2 = qX1_init D a0 sz)) (k := 4) hC hP hS hz ⟨fS, fD⟩ (fun q h => by rw [f1]; exact List.mem_append_left _ h) (fun q h => ?_) dX1_init_35 (Nat.le_of_ble_eq_true rfl) (Nat.le_of_ble_eq_true rfl)
  rw [f1] at h
  rcases List.mem_append.mp h with h | h
  · exact Or.inl h
  · exact Or.inr (ge_X1_init h)
