/-! ArrayList.remove(int), SegmentMap.remove -/
theorem dJx4a65c_remove_915e3_0 : decode cJx4a65c_remove_915e3 0 = .ok (.iload_n 1, 1) := by decide +kernel
theorem dJx4a65c_remove_915e3_1 : decode cJx4a65c_remove_915e3 1 = .ok (.aload_n 0, 1) := by decide +kernel
theorem dJx4a65c_remove_915e3_2 : decode cJx4a65c_remove_915e3 2 = .ok (.getfield 48, 3) := by decide +kernel
theorem dJx4a65c_remove_915e3_5 : decode cJx4a65c_remove_915e3 5 = .ok (.invokestatic 118, 3) := by decide +kernel
theorem dJx4a65c_remove_915e3_8 : decode cJx4a65c_remove_915e3 8 = .ok (.pop, 1) := by decide +kernel
theorem dJx4a65c_remove_915e3_9 : decode cJx4a65c_remove_915e3 9 = .ok (.aload_n 0, 1) := by decide +kernel
theorem dJx4a65c_remove_915e3_10 : decode cJx4a65c_remove_915e3 10 = .ok (.getfield 9, 3) := by decide +kernel
theorem dJx4a65c_remove_915e3_13 : decode cJx4a65c_remove_915e3 13 = .ok (.astore_n 2, 1) := by decide +kernel
theorem dJx4a65c_remove_915e3_14 : decode cJx4a65c_remove_915e3 14 = .ok (.aload_n 2, 1) := by decide +kernel
theorem dJx4a65c_remove_915e3_15 : decode cJx4a65c_remove_915e3 15 = .ok (.iload_n 1, 1) := by decide +kernel
theorem dJx4a65c_remove_915e3_16 : decode cJx4a65c_remove_915e3 16 = .ok (.aaload, 1) := by decide +kernel
theorem dJx4a65c_remove_915e3_17 : decode cJx4a65c_remove_915e3 17 = .ok (.astore_n 3, 1) := by decide +kernel
theorem dJx4a65c_remove_915e3_18 : decode cJx4a65c_remove_915e3 18 = .ok (.aload_n 0, 1) := by decide +kernel
theorem dJx4a65c_remove_915e3_19 : decode cJx4a65c_remove_915e3 19 = .ok (.aload_n 2, 1) := by decide +kernel
theorem dJx4a65c_remove_915e3_20 : decode cJx4a65c_remove_915e3 20 = .ok (.iload_n 1, 1) := by decide +kernel
theorem dJx4a65c_remove_915e3_21 : decode cJx4a65c_remove_915e3 21 = .ok (.invokevirtual 144, 3) := by decide +kernel
theorem dJx4a65c_remove_915e3_24 : decode cJx4a65c_remove_915e3 24 = .ok (.aload_n 3, 1) := by decide +kernel
theorem dJx4a65c_remove_915e3_25 : decode cJx4a65c_remove_915e3 25 = .ok (.areturn, 1) := by decide +kernel
def wJx4a65c_remove_915e3 : List Cond := Cond.code yJx4a65c_remove_915e3 cJx4a65c_remove_915e3 4 (some (.object "java/lang/Object")) :: WA
set_option maxRecDepth 100000 in
set_option maxHeartbeats 4000000 in
theorem i_Jx4a65c_remove_915e3 (l : Launch) (G : cG) (F : Nat) (S : CS) (z : Nat × Nat) (D : CD) (a0 : Nat) (hm0 : a0 ∈ S.1) (hk0 : S.2.1 a0 = 7) (arr n x : Nat) (hn12 : n ≤ 12) (hx1 : x < n) (hr1 : S.2.2.1 a0 1 = some arr) (hr2 : D.1 a0 2 = nI n) (r1 : arr ∈ S.1) (r2 : S.2.1 arr = 10) (r3 : S.2.2.2 arr ≤ 15) (r4 : n ≤ S.2.2.2 arr) (r5 : ∀ i, i < n → ∀ y, D.2.2.2 arr i = some y → y ∈ S.1 ∧ S.2.1 y = 4) {v : Nat} (hv : D.2.2.2 arr x = some v) : cMKr l yJx4a65c_remove_915e3 wJx4a65c_remove_915e3 ({ frames := 2, cells := 0, slots := 0, locals := 90 }) G S z [.ref a0, .int (nI x)] D 0 0 (fun _ _ S2 D2 => rRm S D a0 arr n x S2 D2) := by
  have hck : f_J15_checkIndex_7cf53 F S D (nI x) (nI n) = some (nI x) := by
    unfold f_J15_checkIndex_7cf53 f_J3_checkIndex_8e157
    rw [if_neg (nI_pos (by omega)), if_pos ((nI_ltI (by omega) (by omega)).mpr hx1), cal_some]
  refine cBodyKz (cc := cJx4a65c_remove_915e3) (maxL := 4) (ret := (some (.object "java/lang/Object"))) (own := RJx4a65c) (by decide) rfl rfl ?_
  intro sz p e s m below meth c hC hP hZ hname
  have hC0 := hC
  obtain ⟨hx, hb, -, hts, hown, -, hml, -, -, hz, -⟩ := hC0
  have hS : va_S (cA G S sz) s.heap s.heap [] := va_S.rf
  have hin_Jx4a65c : ∀ w ∈ wsJx4a65c0, w ∈ wJx4a65c_remove_915e3 := fun w h => List.mem_cons_of_mem _ (hWCA _ (hWC7 w h))
  refine m_entry (Nat.le_of_ble_eq_true rfl) (fun ls hl => ?_)
  have hl : lv_has ls 4 [(0, .ref a0), (1, .int (nI x))] := hl
  refine lv_iload_n hx hb dJx4a65c_remove_915e3_0 rfl (lv_at hl 1 rfl) ?_
  refine lv_aload_n hx hb dJx4a65c_remove_915e3_1 rfl (lv_at hl 0 rfl) ?_
  refine n_get (C := RJx4a65c) (T := TJx4a65c) (N := 3) (ref := "java/util/ArrayList") (ci := 0) (v := .int (nI n)) hC hin_Jx4a65c hP hm0 (cE_7 hk0) rfl 2 (by decide) (hts _ (List.mem_cons_of_mem _ (hWCA _ wc_1))) rfl (by show some (Value.int _) = _; rw [hr2]) dJx4a65c_remove_915e3_2 ?_
  refine c_SI (As := [.int (nI x), .int (nI n)]) (rest := []) hC hP hS (m_J15_checkIndex_7cf53 l G F S D _ _ _ hck) (va_cwS 2 hts (gSA (hWCA _ wc_17) (hWCA _ wc_18) (hWCA _ wc_19) (hWCA _ wc_10) hWCA) rfl rfl rfl (by decide +kernel) ⟨Nat.le_of_ble_eq_true rfl, Nat.le_of_ble_eq_true rfl⟩) rfl hl.1 rfl (Nat.le_of_ble_eq_true rfl) dJx4a65c_remove_915e3_5 (fun H locs hP hS => ?_)
  refine lv_pop hx hb dJx4a65c_remove_915e3_8 rfl ?_
  refine lv_aload_n hx hb dJx4a65c_remove_915e3_9 rfl (lv_at hl 0 rfl) ?_
  refine n_get (C := RJx4a65c) (T := TJx4a65c) (N := 3) (ref := "java/util/ArrayList") (ci := 0) (v := .ref arr) hC hin_Jx4a65c hP hm0 (cE_7 hk0) rfl 1 (by decide) (hts _ (List.mem_cons_of_mem _ (hWCA _ wc_15))) rfl (by show some (va_rf _) = _; rw [hr1]; rfl) dJx4a65c_remove_915e3_10 ?_
  refine lv_astore_n (lv' := [(2, .ref arr), (0, .ref a0), (1, .int (nI x))]) hx hb dJx4a65c_remove_915e3_13 rfl hl (by decide) rfl (fun ls hl => ?_)
  refine lv_aload_n hx hb dJx4a65c_remove_915e3_14 rfl (lv_at hl 0 rfl) ?_
  refine lv_iload_n hx hb dJx4a65c_remove_915e3_15 rfl (lv_at hl 2 rfl) ?_
  refine c_ald10 hC hP r1 r2 (b := v) (vp_in_nI (by omega) (by omega)) (by rw [nI_clamp (by omega)]; exact hv) dJx4a65c_remove_915e3_16 ?_
  refine lv_astore_n (lv' := [(3, .ref v), (2, .ref arr), (0, .ref a0), (1, .int (nI x))]) hx hb dJx4a65c_remove_915e3_17 rfl hl (by decide) rfl (fun ls hl => ?_)
  refine lv_aload_n hx hb dJx4a65c_remove_915e3_18 rfl (lv_at hl 2 rfl) ?_
  refine lv_aload_n hx hb dJx4a65c_remove_915e3_19 rfl (lv_at hl 1 rfl) ?_
  refine lv_iload_n hx hb dJx4a65c_remove_915e3_20 rfl (lv_at hl 3 rfl) ?_
  refine a_vV (S0 := S) (As := [.ref arr, .int (nI x)]) (rest := []) hC hP hS hZ gr0.rfl hm0 (cE_7 hk0) (C := RJx4a65c) (T := TJx4a65c) (N := 3) rfl (i_Jx4a65c_fastRemove_b59b0 l G S z D a0 hm0 hk0 arr n x hn12 hx1 hr1 hr2 r1 r2 r3 r4 r5) (cwV 2 hts (gVA wa_129 wa_130 wa_131 (hWCA _ wc_7) wa_132 (fun w h => h)) rfl rfl rfl (by decide +kernel) ⟨Nat.le_of_ble_eq_true rfl, Nat.le_of_ble_eq_true rfl⟩) rfl hl.1 rfl (Nat.le_of_ble_eq_true rfl) ⟨Nat.zero_le _, Nat.zero_le _⟩ dJx4a65c_remove_915e3_21 (fun b S2 D2 H locs hb2 hRl hG hP hS hC => ?_)
  refine lv_aload_n hx hb dJx4a65c_remove_915e3_24 rfl (lv_at hl 0 rfl) ?_
  exact a_aret (S0 := S) (Rl := (fun _ _ S2 D2 => rRm S D a0 arr n x S2 D2)) hC (Or.inl ⟨_, rfl⟩) hP hS hRl hG dJx4a65c_remove_915e3_25 (Nat.le_refl _) (Nat.le_refl _)
set_option maxRecDepth 100000 in
set_option maxHeartbeats 4000000 in
theorem i_X6_remove (l : Launch) (G : cG) (F : Nat) (S : CS) (z : Nat × Nat) (D : CD) (a0 al arr n x : Nat) (hm0 : a0 ∈ S.1) (hk0 : S.2.1 a0 = 6) (hal : S.2.2.1 a0 0 = some al) (hma : al ∈ S.1) (hka : S.2.1 al = 7) (hn12 : n ≤ 12) (hx1 : x < n) (hr1 : S.2.2.1 al 1 = some arr) (hr2 : D.1 al 2 = nI n) (r1 : arr ∈ S.1) (r2 : S.2.1 arr = 10) (r3 : S.2.2.2 arr ≤ 15) (r4 : n ≤ S.2.2.2 arr) (r5 : ∀ i, i < n → ∀ y, D.2.2.2 arr i = some y → y ∈ S.1 ∧ S.2.1 y = 4) {v : Nat} (hv : D.2.2.2 arr x = some v)
    (e1 : f_X6_checkSegment F S D a0 (nI x) = some ()) (Rl : CS → CD → Prop) (hR : ∀ D2, rRm S D al arr n x S D2 → ∃ D3, f_X6_rebuild F S D2 a0 = some D3 ∧ D3.1 al 2 = nI (n - 1) ∧ Rl S D3) : cMKi l yX6_remove wX6_remove ({ frames := 8, cells := 0, slots := 0, locals := 200 }) G S z [.ref a0, .int (nI x)] D 0 0 (nI (n - 1)) (fun _ S2 D2 => Rl S2 D2) := by
  refine cBodyKz (cc := cX6_remove) (maxL := 2) (ret := (some .int)) (own := RX6) (by decide) rfl rfl ?_
  intro sz p e s m below meth c hC hP hZ hname
  have hC0 := hC
  obtain ⟨hx, hb, -, hts, hown, -, hml, -, -, hz0, -⟩ := hC0
  have hS : va_S (cA G S sz) s.heap s.heap [] := va_S.rf
  have hin_X6 : ∀ w ∈ wsX60, w ∈ wX6_remove := fun w h => List.mem_cons_of_mem _ (hWCA _ (hWC6 w h))
  refine m_entry (Nat.le_of_ble_eq_true rfl) (fun ls hl => ?_)
  have hl : lv_has ls 2 [(0, .ref a0), (1, .int (nI x))] := hl
  refine lv_aload_n hx hb dX6_remove_0 rfl (lv_at hl 0 rfl) ?_
  refine lv_iload_n hx hb dX6_remove_1 rfl (lv_at hl 1 rfl) ?_
  refine c_VV (As := [.int (nI x)]) (rest := []) hC hP hS hm0 (cE_6 hk0) (C := RX6) (T := TX6) (N := 8) rfl (m_X6_checkSegment l G F S D a0 (nI x) e1) (cwV 1 hts (gVA (hWCA _ wc_63) (hWCA _ wc_64) (hWCA _ wc_65) (hWCA _ wc_66) (hWCA _ wc_8) hWCA) rfl rfl rfl (by decide +kernel) ⟨Nat.le_of_ble_eq_true rfl, Nat.le_of_ble_eq_true rfl⟩) rfl hl.1 rfl (Nat.le_of_ble_eq_true rfl) dX6_remove_2 (fun H locs hP hS => ?_)
  refine lv_aload_n hx hb dX6_remove_5 rfl (lv_at hl 0 rfl) ?_
  refine n_get (C := RX6) (T := TX6) (N := 8) (ref := "SegmentMap") (ci := 7) (v := .ref al) hC hin_X6 hP hm0 (cE_6 hk0) rfl 0 (by decide) (hts _ (List.mem_cons_of_mem _ (hWCA _ wc_3))) rfl (by show some (va_rf _) = _; rw [hal]; rfl) dX6_remove_6 ?_
  refine lv_iload_n hx hb dX6_remove_9 rfl (lv_at hl 1 rfl) ?_
  refine a_rV (S0 := S) (As := [.int (nI x)]) (rest := []) hC hP hS hZ gr0.rfl hma (cE_7 hka) (C := RJx4a65c) (T := TJx4a65c) (N := 3) rfl (i_Jx4a65c_remove_915e3 l G F S z D al hma hka arr n x hn12 hx1 hr1 hr2 r1 r2 r3 r4 r5 hv) (cwV 1 hts (gVA wa_125 wa_126 wa_127 (hWCA _ wc_7) wa_128 (fun w h => h)) rfl rfl rfl (by decide +kernel) ⟨Nat.le_of_ble_eq_true rfl, Nat.le_of_ble_eq_true rfl⟩) rfl hl.1 rfl (Nat.le_of_ble_eq_true rfl) ⟨Nat.zero_le _, Nat.zero_le _⟩ dX6_remove_10 (fun b r S2 D2 H locs hb2 hRl hG hP hS hC => ?_)
  have hS2 := hRl.1
  rw [hS2] at hP hS hC hG hRl
  obtain ⟨D3, g1, g2, g3⟩ := hR D2 hRl
  refine lv_pop hx hb dX6_remove_13 rfl ?_
  refine lv_aload_n hx hb dX6_remove_14 rfl (lv_at hl 0 rfl) ?_
  refine n_VV (As := []) (rest := []) hC hP hS hm0 (cE_6 hk0) (C := RX6) (T := TX6) (N := 8) rfl (m_X6_rebuild l G F S D2 D3 a0 g1) (cwV 0 hts (gVA wa_64 wa_65 wa_66 (hWCA _ wc_66) (hWCA _ wc_310) hWCA) rfl rfl rfl (by decide +kernel) ⟨Nat.le_of_ble_eq_true rfl, Nat.le_of_ble_eq_true rfl⟩) rfl hl.1 rfl (Nat.le_of_ble_eq_true rfl) ⟨Nat.zero_le _, Nat.zero_le _⟩ dX6_remove_15 (fun H locs hP hS => ?_)
  refine lv_aload_n hx hb dX6_remove_18 rfl (lv_at hl 0 rfl) ?_
  refine n_get (C := RX6) (T := TX6) (N := 8) (ref := "SegmentMap") (ci := 7) (v := .ref al) hC hin_X6 hP hm0 (cE_6 hk0) rfl 0 (by decide) (hts _ (List.mem_cons_of_mem _ (hWCA _ wc_3))) rfl (by show some (va_rf _) = _; rw [hal]; rfl) dX6_remove_19 ?_
  have fs3 : f_Jx4a65c_size_8abf5 F S D3 al = some (nI (n - 1)) := by
    unfold f_Jx4a65c_size_8abf5
    rw [ck_ok ⟨hma, hka⟩, g2]
  refine n_VI (As := []) (rest := []) hC hP hS hma (cE_7 hka) (C := RJx4a65c) (T := TJx4a65c) (N := 3) rfl (m_Jx4a65c_size_8abf5 l G F S D3 al _ fs3) (cwV 0 hts (gVA (hWCA _ wc_4) (hWCA _ wc_5) (hWCA _ wc_6) (hWCA _ wc_7) (hWCA _ wc_0) hWCA) rfl rfl rfl (by decide +kernel) ⟨Nat.le_of_ble_eq_true rfl, Nat.le_of_ble_eq_true rfl⟩) rfl hl.1 rfl (Nat.le_of_ble_eq_true rfl) ⟨Nat.zero_le _, Nat.zero_le _⟩ dX6_remove_22 (fun H locs hP hS => ?_)
  exact a_iret (S0 := S) (Rl := (fun _ S2 D2 => Rl S2 D2)) hC hP hS g3 hG dX6_remove_25 (Nat.zero_le _) (Nat.zero_le _)
