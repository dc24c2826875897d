/-! ArrayList.add(e) -/
theorem dJx4a65c_add_9ea2d_0 : decode cJx4a65c_add_9ea2d 0 = .ok (.aload_n 0, 1) := by decide +kernel
theorem dJx4a65c_add_9ea2d_1 : decode cJx4a65c_add_9ea2d 1 = .ok (.dup, 1) := by decide +kernel
theorem dJx4a65c_add_9ea2d_2 : decode cJx4a65c_add_9ea2d 2 = .ok (.getfield 63, 3) := by decide +kernel
theorem dJx4a65c_add_9ea2d_5 : decode cJx4a65c_add_9ea2d 5 = .ok (.iconst 1, 1) := by decide +kernel
theorem dJx4a65c_add_9ea2d_6 : decode cJx4a65c_add_9ea2d 6 = .ok (.iadd, 1) := by decide +kernel
theorem dJx4a65c_add_9ea2d_7 : decode cJx4a65c_add_9ea2d 7 = .ok (.putfield 63, 3) := by decide +kernel
theorem dJx4a65c_add_9ea2d_10 : decode cJx4a65c_add_9ea2d 10 = .ok (.aload_n 0, 1) := by decide +kernel
theorem dJx4a65c_add_9ea2d_11 : decode cJx4a65c_add_9ea2d 11 = .ok (.aload_n 1, 1) := by decide +kernel
theorem dJx4a65c_add_9ea2d_12 : decode cJx4a65c_add_9ea2d 12 = .ok (.aload_n 0, 1) := by decide +kernel
theorem dJx4a65c_add_9ea2d_13 : decode cJx4a65c_add_9ea2d 13 = .ok (.getfield 9, 3) := by decide +kernel
theorem dJx4a65c_add_9ea2d_16 : decode cJx4a65c_add_9ea2d 16 = .ok (.aload_n 0, 1) := by decide +kernel
theorem dJx4a65c_add_9ea2d_17 : decode cJx4a65c_add_9ea2d 17 = .ok (.getfield 48, 3) := by decide +kernel
theorem dJx4a65c_add_9ea2d_20 : decode cJx4a65c_add_9ea2d 20 = .ok (.invokevirtual 131, 3) := by decide +kernel
theorem dJx4a65c_add_9ea2d_23 : decode cJx4a65c_add_9ea2d 23 = .ok (.iconst 1, 1) := by decide +kernel
theorem dJx4a65c_add_9ea2d_24 : decode cJx4a65c_add_9ea2d 24 = .ok (.ireturn, 1) := by decide +kernel
def wJx4a65c_add_9ea2d : List Cond := Cond.code yJx4a65c_add_9ea2d cJx4a65c_add_9ea2d 2 (some .boolean) :: WA
theorem rLs_F {S : CS} {D : CD} {z : Nat × Nat} {a0 arr n : Nat} {x : Int32} (h : rLs S D z a0 arr n) : rLs S (cpF D a0 0 x) z a0 arr n := by
  obtain ⟨h1, h2, h3⟩ := h
  refine ⟨h1, ?_, h3⟩
  show va_up D.1 a0 (va_up (D.1 a0) 0 x) a0 2 = _
  rw [va_up_self, va_up_ne _ _ (by decide)]
  exact h2
theorem rAd_F {S S2 : CS} {D D2 : CD} {a0 arr n v b : Nat} {x : Int32} (h : rAd S (cpF D a0 0 x) a0 arr n v b S2 D2) : rAd S D a0 arr n v b S2 D2 := by
  obtain ⟨r, h1, h2, h3, h4, h5⟩ := h
  refine ⟨r, h1, fun y hy hya => ?_, h3, h4, h5⟩
  obtain ⟨g1, g2, g3, g4⟩ := h2 y hy hya
  exact ⟨g1.trans (va_up_ne _ _ hya), g2, g3, g4⟩
theorem rRw_le {S S2 : CS} {a0 arr n b b2 r : Nat} (h : rRw S a0 arr n b r S2) (hb : b2 ≤ b) : rRw S a0 arr n b2 r S2 := by
  rcases h with h | ⟨h1, h2⟩
  · exact Or.inl h
  · exact Or.inr ⟨Nat.le_trans hb h1, h2⟩
theorem rAd_le {S S2 : CS} {D D2 : CD} {a0 arr n v b b2 : Nat} (h : rAd S D a0 arr n v b S2 D2) (hb : b2 ≤ b) : rAd S D a0 arr n v b2 S2 D2 := by
  obtain ⟨r, h1, h2⟩ := h
  exact ⟨r, rRw_le h1 hb, h2⟩
set_option maxRecDepth 100000 in
set_option maxHeartbeats 4000000 in
theorem i_Jx4a65c_add_9ea2d (l : Launch) (G : cG) (S : CS) (z : Nat × Nat) (D : CD) (a0 v : Nat) (hm0 : a0 ∈ S.1) (hk0 : S.2.1 a0 = 7) (hmv : v ∈ S.1) (hkv : S.2.1 v = 4) (arr n : Nat) (hn12 : n < 12) (hF : rLs S D z a0 arr n) : cMKi l yJx4a65c_add_9ea2d wJx4a65c_add_9ea2d ({ frames := 7, cells := 1, slots := 15, locals := 240 }) G S z [.ref a0, .ref v] D 1 15 1 (fun b S2 D2 => rAd S D a0 arr n v b S2 D2) := by
  have hr1 := hF.1
  have hr2 := hF.2.1
  refine cBodyKz (cc := cJx4a65c_add_9ea2d) (maxL := 2) (ret := (some .boolean)) (own := RJx4a65c) (by decide) rfl rfl ?_
  intro sz p e s m below meth c hC hP hZ hname
  have hC0 := hC
  obtain ⟨hx, hb, -, hts, hown, -, hml, -, -, hz, -⟩ := hC0
  have hS : va_S (cA G S sz) s.heap s.heap [] := va_S.rf
  have hin_Jx4a65c : ∀ w ∈ wsJx4a65c0, w ∈ wJx4a65c_add_9ea2d := fun w h => List.mem_cons_of_mem _ (hWCA _ (hWC7 w h))
  have hsf : ∀ x, s.fieldFound? "java/util/AbstractList" "modCount" "I" = some x → s.fieldFound? "java/util/ArrayList" "modCount" "I" = some x := fun x h => u_same (hts _ (List.mem_cons_of_mem _ wa_80)) x h
  refine m_entry (Nat.le_of_ble_eq_true rfl) (fun ls hl => ?_)
  have hl : lv_has ls 2 [(0, .ref a0), (1, .ref v)] := hl
  refine lv_aload_n hx hb dJx4a65c_add_9ea2d_0 rfl (lv_at hl 0 rfl) ?_
  refine lv_dup hx hb dJx4a65c_add_9ea2d_1 rfl ?_
  refine n_getU (C := RJx4a65c) (T := TJx4a65c) (N := 3) (ref := "java/util/ArrayList") (ci := 0) (v := .int (D.1 a0 0)) hC hin_Jx4a65c hP hm0 (cE_7 hk0) rfl 0 (by decide) (hts _ (List.mem_cons_of_mem _ wa_79)) hsf rfl dJx4a65c_add_9ea2d_2 ?_
  refine lv_iconst (v := 1) hx hb dJx4a65c_add_9ea2d_5 (by decide) ?_
  refine lv_iadd hx hb dJx4a65c_add_9ea2d_6 ?_
  refine n_putU (C := RJx4a65c) (T := TJx4a65c) (N := 3) (ref := "java/util/ArrayList") (ci := 0) (h := sz) (S2 := S) (D2 := cpF D a0 0 (D.1 a0 0 + 1)) hC hin_Jx4a65c tyJx4a65c tyJx4a65c_ok nmJx4a65c hP hS hz hm0 (cE_7 hk0) rfl 0 (by decide) (hts _ (List.mem_cons_of_mem _ wa_79)) hsf (Or.inl rfl) (ty := .int) (by decide +kernel) rfl rfl (Nat.le_of_ble_eq_true rfl) rfl (csi_7_0 G hk0 _) (cne_F G) dJx4a65c_add_9ea2d_7 (fun H locs hP hz hS hC => ?_)
  have hF1 := rLs_F (x := D.1 a0 0 + 1) hF
  have hr2 := hF1.2.1
  refine lv_aload_n hx hb dJx4a65c_add_9ea2d_10 rfl (lv_at hl 0 rfl) ?_
  refine lv_aload_n hx hb dJx4a65c_add_9ea2d_11 rfl (lv_at hl 1 rfl) ?_
  refine lv_aload_n hx hb dJx4a65c_add_9ea2d_12 rfl (lv_at hl 0 rfl) ?_
  refine n_get (C := RJx4a65c) (T := TJx4a65c) (N := 3) (ref := "java/util/ArrayList") (ci := 0) (v := .ref arr) hC hin_Jx4a65c hP hm0 (cE_7 hk0) rfl 1 (by decide) (hts _ (List.mem_cons_of_mem _ (hWCA _ wc_15))) rfl (by show some (va_rf _) = _; rw [hr1]; rfl) dJx4a65c_add_9ea2d_13 ?_
  refine lv_aload_n hx hb dJx4a65c_add_9ea2d_16 rfl (lv_at hl 0 rfl) ?_
  refine n_get (C := RJx4a65c) (T := TJx4a65c) (N := 3) (ref := "java/util/ArrayList") (ci := 0) (v := .int (nI n)) hC hin_Jx4a65c hP hm0 (cE_7 hk0) rfl 2 (by decide) (hts _ (List.mem_cons_of_mem _ (hWCA _ wc_1))) rfl (by show some (Value.int _) = _; rw [hr2]) dJx4a65c_add_9ea2d_17 ?_
  refine a_vV (S0 := S) (As := [.ref v, .ref arr, .int (nI n)]) (rest := []) hC hP hS hZ gr0.rfl hm0 (cE_7 hk0) (C := RJx4a65c) (T := TJx4a65c) (N := 3) rfl (i_Jx4a65c_add_72be8 l G S z _ a0 v hm0 hk0 hmv hkv arr n hn12 hF1) (cwV 3 hts (gVA wa_81 wa_82 wa_83 (hWCA _ wc_7) wa_84 (fun w h => h)) rfl rfl rfl (by decide +kernel) ⟨Nat.le_of_ble_eq_true rfl, Nat.le_of_ble_eq_true rfl⟩) rfl hl.1 rfl (Nat.le_of_ble_eq_true rfl) ⟨Nat.le_of_ble_eq_true rfl, Nat.le_of_ble_eq_true rfl⟩ dJx4a65c_add_9ea2d_20 (fun b S2 D2 H locs hb2 hRl hG hP hS hC => ?_)
  refine lv_iconst (v := 1) hx hb dJx4a65c_add_9ea2d_23 (by decide) ?_
  exact a_zret (S0 := S) (Rl := (fun b S2 D2 => rAd S D a0 arr n v b S2 D2)) hC (Or.inr rfl) hP hS (rAd_F (rAd_le hRl hb2)) hG dJx4a65c_add_9ea2d_24 (Nat.le_refl _) (Nat.le_refl _)
