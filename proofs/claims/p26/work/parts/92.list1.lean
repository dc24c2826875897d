/-! ArraysSupport.newLength, Arrays.copyOf -/
theorem dJ8_newLength_cabcc_0 : decode cJ8_newLength_cabcc 0 = .ok (.iload_n 0, 1) := by decide +kernel
theorem dJ8_newLength_cabcc_1 : decode cJ8_newLength_cabcc 1 = .ok (.iload_n 1, 1) := by decide +kernel
theorem dJ8_newLength_cabcc_2 : decode cJ8_newLength_cabcc 2 = .ok (.iload_n 2, 1) := by decide +kernel
theorem dJ8_newLength_cabcc_3 : decode cJ8_newLength_cabcc 3 = .ok (.invokestatic 194, 3) := by decide +kernel
theorem dJ8_newLength_cabcc_6 : decode cJ8_newLength_cabcc 6 = .ok (.iadd, 1) := by decide +kernel
theorem dJ8_newLength_cabcc_7 : decode cJ8_newLength_cabcc 7 = .ok (.istore_n 3, 1) := by decide +kernel
theorem dJ8_newLength_cabcc_8 : decode cJ8_newLength_cabcc 8 = .ok (.iconst 0, 1) := by decide +kernel
theorem dJ8_newLength_cabcc_9 : decode cJ8_newLength_cabcc 9 = .ok (.iload_n 3, 1) := by decide +kernel
theorem dJ8_newLength_cabcc_10 : decode cJ8_newLength_cabcc 10 = .ok (.if_icmp .ge 11, 3) := by decide +kernel
theorem dJ8_newLength_cabcc_13 : decode cJ8_newLength_cabcc 13 = .ok (.iload_n 3, 1) := by decide +kernel
theorem dJ8_newLength_cabcc_14 : decode cJ8_newLength_cabcc 14 = .ok (.ldc 200, 2) := by decide +kernel
theorem dJ8_newLength_cabcc_16 : decode cJ8_newLength_cabcc 16 = .ok (.if_icmp .gt 5, 3) := by decide +kernel
theorem dJ8_newLength_cabcc_19 : decode cJ8_newLength_cabcc 19 = .ok (.iload_n 3, 1) := by decide +kernel
theorem dJ8_newLength_cabcc_20 : decode cJ8_newLength_cabcc 20 = .ok (.ireturn, 1) := by decide +kernel
theorem dJ8_newLength_cabcc_21 : decode cJ8_newLength_cabcc 21 = .ok (.iload_n 0, 1) := by decide +kernel
theorem dJ8_newLength_cabcc_22 : decode cJ8_newLength_cabcc 22 = .ok (.iload_n 1, 1) := by decide +kernel
theorem dJ8_newLength_cabcc_23 : decode cJ8_newLength_cabcc 23 = .ok (.invokestatic 201, 3) := by decide +kernel
theorem dJ8_newLength_cabcc_26 : decode cJ8_newLength_cabcc 26 = .ok (.ireturn, 1) := by decide +kernel
def wJ8_newLength_cabcc : List Cond := Cond.code yJ8_newLength_cabcc cJ8_newLength_cabcc 4 (some .int) :: WA
set_option maxRecDepth 100000 in
set_option maxHeartbeats 4000000 in
theorem m_J8_newLength_cabcc (l : Launch) (G : cG) (S : CS) (D : CD) : cMI l yJ8_newLength_cabcc wJ8_newLength_cabcc ({ frames := 1, cells := 0, slots := 0, locals := 30 }) G S [.int 10, .int 1, .int 5] D D 15 := by
  refine cBodyI (cc := cJ8_newLength_cabcc) (maxL := 4) (ret := (some .int)) (own := RJ8) (by decide) rfl rfl ?_
  intro sz p e s m below meth c hC hP
  have hC0 := hC
  obtain ⟨hx, hb, -, hts, hown, -, hml, -, -, -⟩ := hC0
  have hS : va_S (cA G S sz) s.heap s.heap [] := va_S.rf
  refine m_entry (Nat.le_of_ble_eq_true rfl) (fun ls hl => ?_)
  have hl : lv_has ls 4 [(0, .int 10), (1, .int 1), (2, .int 5)] := hl
  refine lv_iload_n hx hb dJ8_newLength_cabcc_0 rfl (lv_at hl 0 rfl) ?_
  refine lv_iload_n hx hb dJ8_newLength_cabcc_1 rfl (lv_at hl 1 rfl) ?_
  refine lv_iload_n hx hb dJ8_newLength_cabcc_2 rfl (lv_at hl 2 rfl) ?_
  refine va_mmax (own := RJ8) hx hb (hml.trans hl.1.symm) hown (hts _ (List.mem_cons_of_mem _ wa_99)) (hts _ (List.mem_cons_of_mem _ (hWCA _ wc_44))) (hts _ (List.mem_cons_of_mem _ (hWCA _ wc_41))) (hts _ (List.mem_cons_of_mem _ (hWCA _ wc_45))) (Nat.le_of_ble_eq_true rfl) (Nat.le_of_ble_eq_true rfl) (Nat.zero_le _) (Nat.zero_le _) dJ8_newLength_cabcc_3 ?_
  refine lv_iadd hx hb dJ8_newLength_cabcc_6 ?_
  refine lv_istore_n (lv' := [(3, .int (10 + if (1 : Int32) < 5 then 5 else 1)), (0, .int 10), (1, .int 1), (2, .int 5)]) hx hb dJ8_newLength_cabcc_7 rfl hl (by decide) rfl (fun ls hl => ?_)
  refine lv_iconst (v := 0) hx hb dJ8_newLength_cabcc_8 (by decide) ?_
  refine lv_iload_n hx hb dJ8_newLength_cabcc_9 rfl (lv_at hl 0 rfl) ?_
  refine lv_icmp_ge (tgt := 21) hx hb dJ8_newLength_cabcc_10 (by decide) (fun u => absurd u (by decide)) (fun _ => ?_)
  refine lv_iload_n hx hb dJ8_newLength_cabcc_13 rfl (lv_at hl 0 rfl) ?_
  refine lv_ldc (own := RJ8) (v := 2147483639) hx hb hown (hts _ (List.mem_cons_of_mem _ wa_100)) dJ8_newLength_cabcc_14 ?_
  refine lv_icmp_gt (tgt := 21) hx hb dJ8_newLength_cabcc_16 (by decide) (fun u => absurd u (by decide)) (fun _ => ?_)
  refine lv_iload_n hx hb dJ8_newLength_cabcc_19 rfl (lv_at hl 0 rfl) ?_
  exact c_iret hC hP hS (by decide) dJ8_newLength_cabcc_20
theorem dJ7_copyOf_6403c_0 : decode cJ7_copyOf_6403c 0 = .ok (.aload_n 2, 1) := by decide +kernel
theorem dJ7_copyOf_6403c_1 : decode cJ7_copyOf_6403c 1 = .ok (.ldc 110, 2) := by decide +kernel
theorem dJ7_copyOf_6403c_3 : decode cJ7_copyOf_6403c 3 = .ok (.if_acmp .ne 10, 3) := by decide +kernel
theorem dJ7_copyOf_6403c_6 : decode cJ7_copyOf_6403c 6 = .ok (.iload_n 1, 1) := by decide +kernel
theorem dJ7_copyOf_6403c_7 : decode cJ7_copyOf_6403c 7 = .ok (.anewarray 2, 3) := by decide +kernel
theorem dJ7_copyOf_6403c_10 : decode cJ7_copyOf_6403c 10 = .ok (.goto 14, 3) := by decide +kernel
theorem dJ7_copyOf_6403c_13 : decode cJ7_copyOf_6403c 13 = .ok (.aload_n 2, 1) := by decide +kernel
theorem dJ7_copyOf_6403c_14 : decode cJ7_copyOf_6403c 14 = .ok (.invokevirtual 90, 3) := by decide +kernel
theorem dJ7_copyOf_6403c_17 : decode cJ7_copyOf_6403c 17 = .ok (.iload_n 1, 1) := by decide +kernel
theorem dJ7_copyOf_6403c_18 : decode cJ7_copyOf_6403c 18 = .ok (.invokestatic 95, 3) := by decide +kernel
theorem dJ7_copyOf_6403c_21 : decode cJ7_copyOf_6403c 21 = .ok (.checkcast 110, 3) := by decide +kernel
theorem dJ7_copyOf_6403c_24 : decode cJ7_copyOf_6403c 24 = .ok (.astore_n 3, 1) := by decide +kernel
theorem dJ7_copyOf_6403c_25 : decode cJ7_copyOf_6403c 25 = .ok (.aload_n 0, 1) := by decide +kernel
theorem dJ7_copyOf_6403c_26 : decode cJ7_copyOf_6403c 26 = .ok (.iconst 0, 1) := by decide +kernel
theorem dJ7_copyOf_6403c_27 : decode cJ7_copyOf_6403c 27 = .ok (.aload_n 3, 1) := by decide +kernel
theorem dJ7_copyOf_6403c_28 : decode cJ7_copyOf_6403c 28 = .ok (.iconst 0, 1) := by decide +kernel
theorem dJ7_copyOf_6403c_29 : decode cJ7_copyOf_6403c 29 = .ok (.aload_n 0, 1) := by decide +kernel
theorem dJ7_copyOf_6403c_30 : decode cJ7_copyOf_6403c 30 = .ok (.arraylength, 1) := by decide +kernel
theorem dJ7_copyOf_6403c_31 : decode cJ7_copyOf_6403c 31 = .ok (.iload_n 1, 1) := by decide +kernel
theorem dJ7_copyOf_6403c_32 : decode cJ7_copyOf_6403c 32 = .ok (.invokestatic 304, 3) := by decide +kernel
theorem dJ7_copyOf_6403c_35 : decode cJ7_copyOf_6403c 35 = .ok (.invokestatic 150, 3) := by decide +kernel
theorem dJ7_copyOf_6403c_38 : decode cJ7_copyOf_6403c 38 = .ok (.aload_n 3, 1) := by decide +kernel
theorem dJ7_copyOf_6403c_39 : decode cJ7_copyOf_6403c 39 = .ok (.areturn, 1) := by decide +kernel
def wJ7_copyOf_6403c : List Cond := Cond.code yJ7_copyOf_6403c cJ7_copyOf_6403c 4 (some (.array (.object "java/lang/Object"))) :: WA
/-- the row arr of ten copied to one of fifteen -/
def rCp (S : CS) (D : CD) (arr b : Nat) : CS × CD := (sAdd S b 10 15, cpR (dNew D b) b (va_cpy ((dNew D b).2.2.2 arr) ((dNew D b).2.2.2 b) 0 0 10))
def cRow10 (S : CS) (D : CD) (arr : Nat) : Prop := arr ∈ S.1 ∧ S.2.1 arr = 10 ∧ S.2.2.2 arr = 10 ∧ ∀ i, i < 10 → ∀ y, D.2.2.2 arr i = some y → y ∈ S.1 ∧ S.2.1 y = 4
set_option maxRecDepth 100000 in
set_option maxHeartbeats 4000000 in
theorem i_J7_copyOf_6403c (l : Launch) (G : cG) (S : CS) (z : Nat × Nat) (D : CD) (arr : Nat) (hr : cRow10 S D arr) : cMKr l yJ7_copyOf_6403c wJ7_copyOf_6403c ({ frames := 1, cells := 1, slots := 15, locals := 60 }) G S z [.ref arr, .int 15, .ref z.2] D 1 15 (fun b r S2 D2 => b ≤ r ∧ S2 = (rCp S D arr r).1 ∧ D2 = (rCp S D arr r).2) := by
  refine cBodyKz (cc := cJ7_copyOf_6403c) (maxL := 4) (ret := (some (.array (.object "java/lang/Object")))) (own := RJ7) (by decide) rfl rfl ?_
  intro sz p e s m below meth c hC hP hZ hname
  have hC0 := hC
  obtain ⟨hx, hb, -, hts, hown, -, hml, -, -, hz, -⟩ := hC0
  have hS : va_S (cA G S sz) s.heap s.heap [] := va_S.rf
  refine m_entry (Nat.le_of_ble_eq_true rfl) (fun ls hl => ?_)
  have hl : lv_has ls 4 [(0, .ref arr), (1, .int 15), (2, .ref z.2)] := hl
  have hP0 := hP
  have hz0 := hz
  obtain ⟨r1, r2, r3, r4⟩ := hr
  have hlt : arr < sz := by rw [← hz]; exact cW_lt hP r1
  refine lv_aload_n hx hb dJ7_copyOf_6403c_0 rfl (lv_at hl 2 rfl) ?_
  refine va_ldcM hx hb hown (hts _ (List.mem_cons_of_mem _ wa_115)) hZ.2.2.2.2.2.1 dJ7_copyOf_6403c_1 ?_
  refine lv_acmp_ne (rx := some z.2) (ry := some z.2) (tgt := 13) hx hb dJ7_copyOf_6403c_3 (by decide) (fun u => absurd rfl u) (fun _ => ?_)
  refine lv_iload_n hx hb dJ7_copyOf_6403c_6 rfl (lv_at hl 1 rfl) ?_
  refine n_qarr (C := "java/lang/Object") (t0 := 2) (kd := 10) (h := sz) hC hP hS hz (hts _ (List.mem_cons_of_mem _ wa_116)) (va_AO.use hZ.2.2.2.1) rfl (fun S D a h => cE_10 h) (n := 15) (N' := 15) (by decide) (by decide) (Nat.le_of_ble_eq_true rfl) (Nat.le_of_ble_eq_true rfl) (Nat.le_of_ble_eq_true rfl) dJ7_copyOf_6403c_7 (fun H hP hz hS hC => ?_)
  refine lv_goto (tgt := 24) hx hb dJ7_copyOf_6403c_10 (by decide) ?_
  refine lv_astore_n (lv' := [(3, .ref sz), (0, .ref arr), (1, .int 15), (2, .ref z.2)]) hx hb dJ7_copyOf_6403c_24 rfl hl (by decide) rfl (fun ls hl => ?_)
  refine lv_aload_n hx hb dJ7_copyOf_6403c_25 rfl (lv_at hl 1 rfl) ?_
  refine lv_iconst (v := 0) hx hb dJ7_copyOf_6403c_26 (by decide) ?_
  refine lv_aload_n hx hb dJ7_copyOf_6403c_27 rfl (lv_at hl 0 rfl) ?_
  refine lv_iconst (v := 0) hx hb dJ7_copyOf_6403c_28 (by decide) ?_
  refine lv_aload_n hx hb dJ7_copyOf_6403c_29 rfl (lv_at hl 1 rfl) ?_
  have m1 : arr ∈ (sAdd S sz 10 15).1 := List.mem_append_left _ r1
  have k1 : (sAdd S sz 10 15).2.1 arr = 10 := (va_up_ne _ _ (Nat.ne_of_lt hlt)).trans r2
  have l1 : (sAdd S sz 10 15).2.2.2 arr = 10 := (va_up_ne _ _ (Nat.ne_of_lt hlt)).trans r3
  have m2 : sz ∈ (sAdd S sz 10 15).1 := List.mem_append_right _ (List.mem_singleton.mpr rfl)
  have k2 : (sAdd S sz 10 15).2.1 sz = 10 := va_up_self _ _ _
  have l2 : (sAdd S sz 10 15).2.2.2 sz = 15 := va_up_self _ _ _
  refine n_alen hC hP m1 (by rw [k1]; decide) (by rw [k1]; decide) dJ7_copyOf_6403c_30 ?_
  rw [l1]
  refine lv_iload_n hx hb dJ7_copyOf_6403c_31 rfl (lv_at hl 2 rfl) ?_
  refine va_mmin (own := RJ7) hx hb (hml.trans hl.1.symm) hown (hts _ (List.mem_cons_of_mem _ wa_117)) (hts _ (List.mem_cons_of_mem _ (hWCA _ wc_40))) (hts _ (List.mem_cons_of_mem _ (hWCA _ wc_41))) (hts _ (List.mem_cons_of_mem _ (hWCA _ wc_42))) (Nat.le_of_ble_eq_true rfl) (Nat.le_of_ble_eq_true rfl) (Nat.le_of_ble_eq_true rfl) (Nat.le_of_ble_eq_true rfl) dJ7_copyOf_6403c_32 ?_
  refine n_cpy (S0 := S) (index := 150) hC hP hS hZ hl.1 (hts _ (List.mem_cons_of_mem _ wa_118)) (hts _ (List.mem_cons_of_mem _ wa_119)) (hts _ (List.mem_cons_of_mem _ wa_120)) (hts _ (List.mem_cons_of_mem _ wa_121)) m1 k1 m2 k2 (by decide) (by decide) (by decide) (by rw [l1]; decide) (by rw [l2]; decide) (fun i hi y hy => ?_) (Nat.le_of_ble_eq_true rfl) (by decide +kernel) dJ7_copyOf_6403c_35 (fun H locs hP hS => ?_)
  · rw [show (if (15 : Int32) < Int32.ofNat 10 then (15 : Int32) else Int32.ofNat 10).toNatClampNeg = 10 from by decide] at hi
    have hy' : D.2.2.2 arr i = some y := by
      have e1 : (dNew D sz).2.2.2 arr = D.2.2.2 arr := va_up_ne _ _ (Nat.ne_of_lt hlt)
      rw [e1, show (0 : Int32).toNatClampNeg + i = i from Nat.zero_add i] at hy
      exact hy
    obtain ⟨y1, y2⟩ := r4 i hi y hy'
    have hys : y < s.heap.size := cW_lt hP0 y1
    exact ⟨List.mem_append_left _ y1, (va_up_ne _ _ (by rw [← hz0]; exact Nat.ne_of_lt hys)).trans y2⟩
  rw [show (if (15 : Int32) < Int32.ofNat 10 then (15 : Int32) else Int32.ofNat 10).toNatClampNeg = 10 from by decide, show (0 : Int32).toNatClampNeg = 0 from by decide] at hP
  refine lv_aload_n hx hb dJ7_copyOf_6403c_38 rfl (lv_at hl 0 rfl) ?_
  exact a_aret (S0 := S) (Rl := (fun b r S2 D2 => b ≤ r ∧ S2 = (rCp S D arr r).1 ∧ D2 = (rCp S D arr r).2)) hC (Or.inr ⟨_, rfl⟩) hP hS ⟨Nat.le_refl _, rfl, rfl⟩ (gr0.add gr0.rfl (Nat.le_refl _)) dJ7_copyOf_6403c_39 (Nat.le_refl _) (Nat.le_refl _)
theorem dJ7_copyOf_1904c_0 : decode cJ7_copyOf_1904c 0 = .ok (.aload_n 0, 1) := by decide +kernel
theorem dJ7_copyOf_1904c_1 : decode cJ7_copyOf_1904c 1 = .ok (.iload_n 1, 1) := by decide +kernel
theorem dJ7_copyOf_1904c_2 : decode cJ7_copyOf_1904c 2 = .ok (.aload_n 0, 1) := by decide +kernel
theorem dJ7_copyOf_1904c_3 : decode cJ7_copyOf_1904c 3 = .ok (.invokevirtual 86, 3) := by decide +kernel
theorem dJ7_copyOf_1904c_6 : decode cJ7_copyOf_1904c 6 = .ok (.invokestatic 300, 3) := by decide +kernel
theorem dJ7_copyOf_1904c_9 : decode cJ7_copyOf_1904c 9 = .ok (.areturn, 1) := by decide +kernel
def wJ7_copyOf_1904c : List Cond := Cond.code yJ7_copyOf_1904c cJ7_copyOf_1904c 2 (some (.array (.object "java/lang/Object"))) :: WA
set_option maxRecDepth 100000 in
set_option maxHeartbeats 4000000 in
theorem i_J7_copyOf_1904c (l : Launch) (G : cG) (S : CS) (z : Nat × Nat) (D : CD) (arr : Nat) (hr : cRow10 S D arr) : cMKr l yJ7_copyOf_1904c wJ7_copyOf_1904c ({ frames := 2, cells := 1, slots := 15, locals := 90 }) G S z [.ref arr, .int 15] D 1 15 (fun b r S2 D2 => b ≤ r ∧ S2 = (rCp S D arr r).1 ∧ D2 = (rCp S D arr r).2) := by
  refine cBodyKz (cc := cJ7_copyOf_1904c) (maxL := 2) (ret := (some (.array (.object "java/lang/Object")))) (own := RJ7) (by decide) rfl rfl ?_
  intro sz p e s m below meth c hC hP hZ hname
  have hC0 := hC
  obtain ⟨hx, hb, -, hts, hown, -, hml, -, -, hz, -⟩ := hC0
  have hS : va_S (cA G S sz) s.heap s.heap [] := va_S.rf
  refine m_entry (Nat.le_of_ble_eq_true rfl) (fun ls hl => ?_)
  have hl : lv_has ls 2 [(0, .ref arr), (1, .int 15)] := hl
  have hrc : ∃ cell : Cell, s.heap[arr]? = some cell ∧ cell.vm.isStatics = false ∧ s.vm.findClass "[Ljava/lang/Object;" = some cell.cls := by
    obtain ⟨a1, a2, a3, a4, a5, a6, a7, hK, a9, a10, a11⟩ := hC
    obtain ⟨q0, hq0⟩ := cget (G := G) (D := D) hr.1 (cE_10 hr.2.1)
    exact ⟨_, hP q0 _ hq0, rfl, va_nmO (hK.2 2 _ rfl).2 (by decide)⟩
  refine lv_aload_n hx hb dJ7_copyOf_1904c_0 rfl (lv_at hl 0 rfl) ?_
  refine lv_iload_n hx hb dJ7_copyOf_1904c_1 rfl (lv_at hl 1 rfl) ?_
  refine lv_aload_n hx hb dJ7_copyOf_1904c_2 rfl (lv_at hl 0 rfl) ?_
  refine va_getC (own := RJ7) hx hb (hml.trans hl.1.symm) hown (hts _ (List.mem_cons_of_mem _ wa_108)) (va_Dc.use hZ.2.2.2.2.2.2.1) (hts _ (List.mem_cons_of_mem _ wa_109)) (hts _ (List.mem_cons_of_mem _ wa_110)) (hts _ (List.mem_cons_of_mem _ wa_111)) hZ.2.2.2.2.2.1 hrc (Nat.le_of_ble_eq_true rfl) (Nat.le_of_ble_eq_true rfl) dJ7_copyOf_1904c_3 ?_
  refine a_rS (S0 := S) (As := [.ref arr, .int 15, .ref z.2]) (rest := []) hC hP hS hZ gr0.rfl (i_J7_copyOf_6403c l G S z D arr hr) (va_cwS 3 hts (gSA wa_112 wa_113 wa_106 wa_114 (fun w h => h)) rfl rfl rfl (by decide +kernel) ⟨Nat.le_of_ble_eq_true rfl, Nat.le_of_ble_eq_true rfl⟩) rfl hl.1 rfl (Nat.le_of_ble_eq_true rfl) ⟨Nat.le_of_ble_eq_true rfl, Nat.le_of_ble_eq_true rfl⟩ dJ7_copyOf_1904c_6 (fun b r S2 D2 H locs hb2 hRl hG hP hS hC => ?_)
  exact a_aret (S0 := S) (Rl := (fun b r S2 D2 => b ≤ r ∧ S2 = (rCp S D arr r).1 ∧ D2 = (rCp S D arr r).2)) hC (Or.inr ⟨_, rfl⟩) hP hS ⟨Nat.le_trans hb2 hRl.1, hRl.2⟩ hG dJ7_copyOf_1904c_9 (Nat.le_refl _) (Nat.le_refl _)
