/-! ArrayList.grow -/
/-- what a grown row is: r, of L places, holds what arr held -/
def rGr (S : CS) (D : CD) (a0 arr n b r : Nat) (S2 : CS) (D2 : CD) : Prop := b ≤ r ∧ ∃ L, (L = 10 ∨ L = 15) ∧ n + 1 ≤ L ∧ S2 = sRef (sAdd S r 10 L) a0 1 r ∧ (∀ x, x ≠ r → D2.1 x = D.1 x ∧ D2.2.1 x = D.2.1 x ∧ D2.2.2.1 x = D.2.2.1 x ∧ D2.2.2.2 x = D.2.2.2 x) ∧ ∀ i, i < n → D2.2.2.2 r i = D.2.2.2 arr i
/-- a list that is full: its row is the empty one, or has ten places, all used -/
def rFu (S : CS) (D : CD) (z : Nat × Nat) (a0 arr n : Nat) : Prop := S.2.2.1 a0 1 = some arr ∧ D.1 a0 2 = nI n ∧ ((arr = z.1 ∧ n = 0) ∨ (cRow10 S D arr ∧ n = 10))
theorem rGr_0 {S : CS} {D : CD} {a0 arr b r : Nat} (hb : b ≤ r) : rGr S D a0 arr 0 b r (sRef (sAdd S r 10 10) a0 1 r) (dNew D r) := ⟨hb, 10, Or.inl rfl, by decide, rfl, fun x hx => dNew_x D r x hx, fun i hi => absurd hi (Nat.not_lt_zero i)⟩
theorem rGr_10 {S : CS} {D : CD} {a0 arr b r : Nat} (hb : b ≤ r) (hne : arr ≠ r) : rGr S D a0 arr 10 b r (sRef (rCp S D arr r).1 a0 1 r) (rCp S D arr r).2 := by
  refine ⟨hb, 15, Or.inr rfl, by decide, rfl, fun x hx => ?_, fun i hi => ?_⟩
  · obtain ⟨h1, h2, h3, h4⟩ := dNew_x D r x hx
    exact ⟨h1, h2, h3, (va_up_ne _ _ hx).trans h4⟩
  · show va_up (dNew D r).2.2.2 r (va_cpy ((dNew D r).2.2.2 arr) ((dNew D r).2.2.2 r) 0 0 10) r i = _
    rw [va_up_self, pk_cpy_in (Nat.zero_le _) (by omega), (dNew_x D r arr hne).2.2.2, show 0 + (i - 0) = i from by omega]
theorem dJx4a65c_grow_92f84_0 : decode cJx4a65c_grow_92f84 0 = .ok (.aload_n 0, 1) := by decide +kernel
theorem dJx4a65c_grow_92f84_1 : decode cJx4a65c_grow_92f84 1 = .ok (.getfield 9, 3) := by decide +kernel
theorem dJx4a65c_grow_92f84_4 : decode cJx4a65c_grow_92f84 4 = .ok (.arraylength, 1) := by decide +kernel
theorem dJx4a65c_grow_92f84_5 : decode cJx4a65c_grow_92f84 5 = .ok (.istore_n 2, 1) := by decide +kernel
theorem dJx4a65c_grow_92f84_6 : decode cJx4a65c_grow_92f84 6 = .ok (.iload_n 2, 1) := by decide +kernel
theorem dJx4a65c_grow_92f84_7 : decode cJx4a65c_grow_92f84 7 = .ok (.ifCond .gt 13, 3) := by decide +kernel
theorem dJx4a65c_grow_92f84_10 : decode cJx4a65c_grow_92f84 10 = .ok (.aload_n 0, 1) := by decide +kernel
theorem dJx4a65c_grow_92f84_11 : decode cJx4a65c_grow_92f84 11 = .ok (.getfield 9, 3) := by decide +kernel
theorem dJx4a65c_grow_92f84_14 : decode cJx4a65c_grow_92f84 14 = .ok (.getstatic 39, 3) := by decide +kernel
theorem dJx4a65c_grow_92f84_17 : decode cJx4a65c_grow_92f84 17 = .ok (.if_acmp .eq 28, 3) := by decide +kernel
theorem dJx4a65c_grow_92f84_20 : decode cJx4a65c_grow_92f84 20 = .ok (.iload_n 2, 1) := by decide +kernel
theorem dJx4a65c_grow_92f84_21 : decode cJx4a65c_grow_92f84 21 = .ok (.iload_n 1, 1) := by decide +kernel
theorem dJx4a65c_grow_92f84_22 : decode cJx4a65c_grow_92f84 22 = .ok (.iload_n 2, 1) := by decide +kernel
theorem dJx4a65c_grow_92f84_23 : decode cJx4a65c_grow_92f84 23 = .ok (.isub, 1) := by decide +kernel
theorem dJx4a65c_grow_92f84_24 : decode cJx4a65c_grow_92f84 24 = .ok (.iload_n 2, 1) := by decide +kernel
theorem dJx4a65c_grow_92f84_25 : decode cJx4a65c_grow_92f84 25 = .ok (.iconst 1, 1) := by decide +kernel
theorem dJx4a65c_grow_92f84_26 : decode cJx4a65c_grow_92f84 26 = .ok (.ishr, 1) := by decide +kernel
theorem dJx4a65c_grow_92f84_27 : decode cJx4a65c_grow_92f84 27 = .ok (.invokestatic 73, 3) := by decide +kernel
theorem dJx4a65c_grow_92f84_30 : decode cJx4a65c_grow_92f84 30 = .ok (.istore_n 3, 1) := by decide +kernel
theorem dJx4a65c_grow_92f84_31 : decode cJx4a65c_grow_92f84 31 = .ok (.aload_n 0, 1) := by decide +kernel
theorem dJx4a65c_grow_92f84_32 : decode cJx4a65c_grow_92f84 32 = .ok (.aload_n 0, 1) := by decide +kernel
theorem dJx4a65c_grow_92f84_33 : decode cJx4a65c_grow_92f84 33 = .ok (.getfield 9, 3) := by decide +kernel
theorem dJx4a65c_grow_92f84_36 : decode cJx4a65c_grow_92f84 36 = .ok (.iload_n 3, 1) := by decide +kernel
theorem dJx4a65c_grow_92f84_37 : decode cJx4a65c_grow_92f84 37 = .ok (.invokestatic 66, 3) := by decide +kernel
theorem dJx4a65c_grow_92f84_40 : decode cJx4a65c_grow_92f84 40 = .ok (.dup_x1, 1) := by decide +kernel
theorem dJx4a65c_grow_92f84_41 : decode cJx4a65c_grow_92f84 41 = .ok (.putfield 9, 3) := by decide +kernel
theorem dJx4a65c_grow_92f84_44 : decode cJx4a65c_grow_92f84 44 = .ok (.areturn, 1) := by decide +kernel
theorem dJx4a65c_grow_92f84_45 : decode cJx4a65c_grow_92f84 45 = .ok (.aload_n 0, 1) := by decide +kernel
theorem dJx4a65c_grow_92f84_46 : decode cJx4a65c_grow_92f84 46 = .ok (.bipush 10, 2) := by decide +kernel
theorem dJx4a65c_grow_92f84_48 : decode cJx4a65c_grow_92f84 48 = .ok (.iload_n 1, 1) := by decide +kernel
theorem dJx4a65c_grow_92f84_49 : decode cJx4a65c_grow_92f84 49 = .ok (.invokestatic 79, 3) := by decide +kernel
theorem dJx4a65c_grow_92f84_52 : decode cJx4a65c_grow_92f84 52 = .ok (.anewarray 7, 3) := by decide +kernel
theorem dJx4a65c_grow_92f84_55 : decode cJx4a65c_grow_92f84 55 = .ok (.dup_x1, 1) := by decide +kernel
theorem dJx4a65c_grow_92f84_56 : decode cJx4a65c_grow_92f84 56 = .ok (.putfield 9, 3) := by decide +kernel
theorem dJx4a65c_grow_92f84_59 : decode cJx4a65c_grow_92f84 59 = .ok (.areturn, 1) := by decide +kernel
def wJx4a65c_grow_92f84 : List Cond := Cond.code yJx4a65c_grow_92f84 cJx4a65c_grow_92f84 4 (some (.array (.object "java/lang/Object"))) :: WA
set_option maxRecDepth 100000 in
set_option maxHeartbeats 4000000 in
theorem i_Jx4a65c_grow_92f84 (l : Launch) (G : cG) (S : CS) (z : Nat × Nat) (D : CD) (a0 : Nat) (hm0 : a0 ∈ S.1) (hk0 : S.2.1 a0 = 7) (arr n : Nat) (hF : rFu S D z a0 arr n) : cMKr l yJx4a65c_grow_92f84 wJx4a65c_grow_92f84 ({ frames := 4, cells := 1, slots := 15, locals := 140 }) G S z [.ref a0, .int (nI (n + 1))] D 1 15 (fun b r S2 D2 => rGr S D a0 arr n b r S2 D2) := by
  obtain ⟨hr1, hr2, ⟨rfl, rfl⟩ | ⟨hr3, rfl⟩⟩ := hF
  · refine cBodyKz (cc := cJx4a65c_grow_92f84) (maxL := 4) (ret := (some (.array (.object "java/lang/Object")))) (own := RJx4a65c) (by decide) rfl rfl ?_
    intro sz p e s m below meth c hC hP hZ hname
    have hC0 := hC
    obtain ⟨hx, hb, -, hts, hown, -, hml, -, -, hz, -⟩ := hC0
    have hS : va_S (cA G S sz) s.heap s.heap [] := va_S.rf
    have hlt : a0 < sz := by rw [← hz]; exact cW_lt hP hm0
    have hin_Jx4a65c : ∀ w ∈ wsJx4a65c0, w ∈ wJx4a65c_grow_92f84 := fun w h => List.mem_cons_of_mem _ (hWCA _ (hWC7 w h))
    refine m_entry (Nat.le_of_ble_eq_true rfl) (fun ls hl => ?_)
    have hl : lv_has ls 4 [(0, .ref a0), (1, .int 1)] := hl
    refine lv_aload_n hx hb dJx4a65c_grow_92f84_0 rfl (lv_at hl 0 rfl) ?_
    refine n_get (C := RJx4a65c) (T := TJx4a65c) (N := 3) (ref := "java/util/ArrayList") (ci := 0) (v := .ref z.1) hC hin_Jx4a65c hP hm0 (cE_7 hk0) rfl 1 (by decide) (hts _ (List.mem_cons_of_mem _ (hWCA _ wc_15))) rfl (by show some (va_rf _) = _; rw [hr1]; rfl) dJx4a65c_grow_92f84_1 ?_
    refine va_tlen hx hb hZ.2.1 hS (v := 0) (by decide) dJx4a65c_grow_92f84_4 ?_
    refine lv_istore_n (lv' := [(2, .int 0), (0, .ref a0), (1, .int 1)]) hx hb dJx4a65c_grow_92f84_5 rfl hl (by decide) rfl (fun ls hl => ?_)
    refine lv_iload_n hx hb dJx4a65c_grow_92f84_6 rfl (lv_at hl 0 rfl) ?_
    refine lv_if_gt (tgt := 20) hx hb dJx4a65c_grow_92f84_7 (by decide) (fun u => absurd u (by decide)) (fun _ => ?_)
    refine lv_aload_n hx hb dJx4a65c_grow_92f84_10 rfl (lv_at hl 1 rfl) ?_
    refine n_get (C := RJx4a65c) (T := TJx4a65c) (N := 3) (ref := "java/util/ArrayList") (ci := 0) (v := .ref z.1) hC hin_Jx4a65c hP hm0 (cE_7 hk0) rfl 1 (by decide) (hts _ (List.mem_cons_of_mem _ (hWCA _ wc_15))) rfl (by show some (va_rf _) = _; rw [hr1]; rfl) dJx4a65c_grow_92f84_11 ?_
    refine va_gets (A := cA G S sz) hx hb hZ.1 hS hown (hts _ (List.mem_cons_of_mem _ wa_44)) (fun _ h => h) dJx4a65c_grow_92f84_14 ?_
    refine lv_acmp_eq (rx := some z.1) (ry := some z.1) (tgt := 45) hx hb dJx4a65c_grow_92f84_17 (by decide) (fun _ => ?_) (fun u => absurd rfl u)
    refine lv_aload_n hx hb dJx4a65c_grow_92f84_45 rfl (lv_at hl 1 rfl) ?_
    refine lv_bipush (v := 10) hx hb dJx4a65c_grow_92f84_46 (by decide) ?_
    refine lv_iload_n hx hb dJx4a65c_grow_92f84_48 rfl (lv_at hl 2 rfl) ?_
    refine va_mmax (own := RJx4a65c) hx hb (hml.trans hl.1.symm) hown (hts _ (List.mem_cons_of_mem _ wa_93)) (hts _ (List.mem_cons_of_mem _ (hWCA _ wc_44))) (hts _ (List.mem_cons_of_mem _ (hWCA _ wc_41))) (hts _ (List.mem_cons_of_mem _ (hWCA _ wc_45))) (Nat.le_of_ble_eq_true rfl) (Nat.le_of_ble_eq_true rfl) (Nat.zero_le _) (Nat.zero_le _) dJx4a65c_grow_92f84_49 ?_
    refine n_qarr (C := "java/lang/Object") (t0 := 2) (kd := 10) (h := sz) hC hP hS hz (hts _ (List.mem_cons_of_mem _ wa_94)) (va_AO.use hZ.2.2.2.1) rfl (fun S D a h => cE_10 h) (N' := 10) (by decide) (by decide) (Nat.le_of_ble_eq_true rfl) (Nat.le_of_ble_eq_true rfl) (Nat.le_of_ble_eq_true rfl) dJx4a65c_grow_92f84_52 (fun H hP hz hS hC => ?_)
    refine lv_dup_x1 hx hb dJx4a65c_grow_92f84_55 rfl rfl ?_
    have hm0 : a0 ∈ (sAdd S sz 10 10).1 := List.mem_append_left _ hm0
    have hk0 : (sAdd S sz 10 10).2.1 a0 = 7 := (va_up_ne _ _ (Nat.ne_of_lt hlt)).trans hk0
    refine n_put (C := RJx4a65c) (T := TJx4a65c) (N := 3) (ref := "java/util/ArrayList") (ci := 0) (v := .ref sz) (S2 := sRef (sAdd S sz 10 10) a0 1 sz) (D2 := dNew D sz) hC hin_Jx4a65c tyJx4a65c tyJx4a65c_ok nmJx4a65c hP hS hz hm0 (cE_7 hk0) rfl 1 (by decide) (hts _ (List.mem_cons_of_mem _ (hWCA _ wc_15))) rfl (Or.inl rfl) (ty := (.array (.object "java/lang/Object"))) (by decide +kernel) rfl rfl (Nat.le_of_ble_eq_true rfl) rfl (csi_7_1 G hk0 _) (cne_R G) dJx4a65c_grow_92f84_56 (fun H locs hP hz hS hC => ?_)
    exact a_aret (S0 := S) (Rl := fun b r S2 D2 => rGr S D a0 z.1 0 b r S2 D2) hC (Or.inr ⟨_, rfl⟩) hP hS (rGr_0 (Nat.le_refl _)) (gr0.add (kd := 10) (len := 10) gr0.rfl (Nat.le_refl _)) dJx4a65c_grow_92f84_59 (Nat.le_refl _) (Nat.le_of_ble_eq_true rfl)
  · refine cBodyKz (cc := cJx4a65c_grow_92f84) (maxL := 4) (ret := (some (.array (.object "java/lang/Object")))) (own := RJx4a65c) (by decide) rfl rfl ?_
    intro sz p e s m below meth c hC hP hZ hname
    have hC0 := hC
    obtain ⟨hx, hb, -, hts, hown, -, hml, -, -, hz, -⟩ := hC0
    have hS : va_S (cA G S sz) s.heap s.heap [] := va_S.rf
    have hlt : a0 < sz := by rw [← hz]; exact cW_lt hP hm0
    have hin_Jx4a65c : ∀ w ∈ wsJx4a65c0, w ∈ wJx4a65c_grow_92f84 := fun w h => List.mem_cons_of_mem _ (hWCA _ (hWC7 w h))
    refine m_entry (Nat.le_of_ble_eq_true rfl) (fun ls hl => ?_)
    have hl : lv_has ls 4 [(0, .ref a0), (1, .int 11)] := hl
    have hP0 := hP
    have hz0 := hz
    obtain ⟨r1, r2, r3, r4⟩ := id hr3
    refine lv_aload_n hx hb dJx4a65c_grow_92f84_0 rfl (lv_at hl 0 rfl) ?_
    refine n_get (C := RJx4a65c) (T := TJx4a65c) (N := 3) (ref := "java/util/ArrayList") (ci := 0) (v := .ref arr) hC hin_Jx4a65c hP hm0 (cE_7 hk0) rfl 1 (by decide) (hts _ (List.mem_cons_of_mem _ (hWCA _ wc_15))) rfl (by show some (va_rf _) = _; rw [hr1]; rfl) dJx4a65c_grow_92f84_1 ?_
    refine n_alen hC hP r1 (by rw [r2]; decide) (by rw [r2]; decide) dJx4a65c_grow_92f84_4 ?_
    rw [r3, show Int32.ofNat 10 = 10 from rfl]
    refine lv_istore_n (lv' := [(2, .int 10), (0, .ref a0), (1, .int 11)]) hx hb dJx4a65c_grow_92f84_5 rfl hl (by decide) rfl (fun ls hl => ?_)
    refine lv_iload_n hx hb dJx4a65c_grow_92f84_6 rfl (lv_at hl 0 rfl) ?_
    refine lv_if_gt (tgt := 20) hx hb dJx4a65c_grow_92f84_7 (by decide) (fun _ => ?_) (fun u => absurd (by decide) u)
    refine lv_iload_n hx hb dJx4a65c_grow_92f84_20 rfl (lv_at hl 0 rfl) ?_
    refine lv_iload_n hx hb dJx4a65c_grow_92f84_21 rfl (lv_at hl 2 rfl) ?_
    refine lv_iload_n hx hb dJx4a65c_grow_92f84_22 rfl (lv_at hl 0 rfl) ?_
    refine lv_isub hx hb dJx4a65c_grow_92f84_23 ?_
    rw [show (11 : Int32) - 10 = 1 from by decide]
    refine lv_iload_n hx hb dJx4a65c_grow_92f84_24 rfl (lv_at hl 0 rfl) ?_
    refine lv_iconst (v := 1) hx hb dJx4a65c_grow_92f84_25 (by decide) ?_
    refine lv_ishr hx hb dJx4a65c_grow_92f84_26 ?_
    rw [show (10 : Int32) >>> ((1 : Int32) &&& 31) = 5 from by decide]
    refine c_SI (As := [.int 10, .int 1, .int 5]) (rest := []) hC hP hS (m_J8_newLength_cabcc l G S D) (va_cwS 3 hts (gSA wa_95 wa_96 wa_97 wa_98 (fun w h => h)) rfl rfl rfl (by decide +kernel) ⟨Nat.le_of_ble_eq_true rfl, Nat.le_of_ble_eq_true rfl⟩) rfl hl.1 rfl (Nat.le_of_ble_eq_true rfl) dJx4a65c_grow_92f84_27 (fun H locs hP hS => ?_)
    refine lv_istore_n (lv' := [(3, .int 15), (2, .int 10), (0, .ref a0), (1, .int 11)]) hx hb dJx4a65c_grow_92f84_30 rfl hl (by decide) rfl (fun ls hl => ?_)
    refine lv_aload_n hx hb dJx4a65c_grow_92f84_31 rfl (lv_at hl 2 rfl) ?_
    refine lv_aload_n hx hb dJx4a65c_grow_92f84_32 rfl (lv_at hl 2 rfl) ?_
    refine n_get (C := RJx4a65c) (T := TJx4a65c) (N := 3) (ref := "java/util/ArrayList") (ci := 0) (v := .ref arr) hC hin_Jx4a65c hP hm0 (cE_7 hk0) rfl 1 (by decide) (hts _ (List.mem_cons_of_mem _ (hWCA _ wc_15))) rfl (by show some (va_rf _) = _; rw [hr1]; rfl) dJx4a65c_grow_92f84_33 ?_
    refine lv_iload_n hx hb dJx4a65c_grow_92f84_36 rfl (lv_at hl 0 rfl) ?_
    refine a_rS (S0 := S) (As := [.ref arr, .int 15]) (rest := [.ref a0]) hC hP hS hZ gr0.rfl (i_J7_copyOf_1904c l G S z D arr hr3) (va_cwS 2 hts (gSA wa_104 wa_105 wa_106 wa_107 (fun w h => h)) rfl rfl rfl (by decide +kernel) ⟨Nat.le_of_ble_eq_true rfl, Nat.le_of_ble_eq_true rfl⟩) rfl hl.1 rfl (Nat.le_of_ble_eq_true rfl) ⟨Nat.le_of_ble_eq_true rfl, Nat.le_of_ble_eq_true rfl⟩ dJx4a65c_grow_92f84_37 (fun b r S2 D2 H locs hb2 hRl hG hP hS hC => ?_)
    have hbr := hRl.1
    have hS2 := hRl.2.1
    have hD2 := hRl.2.2
    rw [hS2, hD2] at hP
    rw [hS2] at hS hC hG
    refine lv_dup_x1 hx hb dJx4a65c_grow_92f84_40 rfl rfl ?_
    have hz : H.size = H.size := rfl
    have hsr : sz ≤ r := Nat.le_trans hb2 hbr
    have hm0 : a0 ∈ (rCp S D arr r).1.1 := List.mem_append_left _ hm0
    have hk0 : (rCp S D arr r).1.2.1 a0 = 7 := (va_up_ne _ _ (Nat.ne_of_lt (Nat.lt_of_lt_of_le hlt hsr))).trans hk0
    refine n_put (C := RJx4a65c) (T := TJx4a65c) (N := 3) (ref := "java/util/ArrayList") (ci := 0) (v := .ref r) (S2 := sRef ((rCp S D arr r).1) a0 1 r) (D2 := (rCp S D arr r).2) hC hin_Jx4a65c tyJx4a65c tyJx4a65c_ok nmJx4a65c hP hS hz hm0 (cE_7 hk0) rfl 1 (by decide) (hts _ (List.mem_cons_of_mem _ (hWCA _ wc_15))) rfl (Or.inl rfl) (ty := (.array (.object "java/lang/Object"))) (by decide +kernel) rfl rfl (Nat.le_of_ble_eq_true rfl) rfl (csi_7_1 G hk0 _) (cne_R G) dJx4a65c_grow_92f84_41 (fun H locs hP hz hS hC => ?_)
    have hne : arr ≠ r := Nat.ne_of_lt (Nat.lt_of_lt_of_le (by rw [← hz0]; exact cW_lt hP0 r1) hsr)
    exact a_aret (S0 := S) (Rl := fun b r S2 D2 => rGr S D a0 arr 10 b r S2 D2) hC (Or.inr ⟨_, rfl⟩) hP hS (rGr_10 hsr hne) hG dJx4a65c_grow_92f84_44 (Nat.le_refl _) (Nat.le_refl _)
theorem dJx4a65c_grow_d5877_0 : decode cJx4a65c_grow_d5877 0 = .ok (.aload_n 0, 1) := by decide +kernel
theorem dJx4a65c_grow_d5877_1 : decode cJx4a65c_grow_d5877 1 = .ok (.aload_n 0, 1) := by decide +kernel
theorem dJx4a65c_grow_d5877_2 : decode cJx4a65c_grow_d5877 2 = .ok (.getfield 48, 3) := by decide +kernel
theorem dJx4a65c_grow_d5877_5 : decode cJx4a65c_grow_d5877 5 = .ok (.iconst 1, 1) := by decide +kernel
theorem dJx4a65c_grow_d5877_6 : decode cJx4a65c_grow_d5877 6 = .ok (.iadd, 1) := by decide +kernel
theorem dJx4a65c_grow_d5877_7 : decode cJx4a65c_grow_d5877 7 = .ok (.invokevirtual 69, 3) := by decide +kernel
theorem dJx4a65c_grow_d5877_10 : decode cJx4a65c_grow_d5877 10 = .ok (.areturn, 1) := by decide +kernel
def wJx4a65c_grow_d5877 : List Cond := Cond.code yJx4a65c_grow_d5877 cJx4a65c_grow_d5877 1 (some (.array (.object "java/lang/Object"))) :: WA
set_option maxRecDepth 100000 in
set_option maxHeartbeats 4000000 in
theorem i_Jx4a65c_grow_d5877 (l : Launch) (G : cG) (S : CS) (z : Nat × Nat) (D : CD) (a0 : Nat) (hm0 : a0 ∈ S.1) (hk0 : S.2.1 a0 = 7) (arr n : Nat) (hF : rFu S D z a0 arr n) : cMKr l yJx4a65c_grow_d5877 wJx4a65c_grow_d5877 ({ frames := 5, cells := 1, slots := 15, locals := 170 }) G S z [.ref a0] D 1 15 (fun b r S2 D2 => rGr S D a0 arr n b r S2 D2) := by
  have hr2 := hF.2.1
  refine cBodyKz (cc := cJx4a65c_grow_d5877) (maxL := 1) (ret := (some (.array (.object "java/lang/Object")))) (own := RJx4a65c) (by decide) rfl rfl ?_
  intro sz p e s m below meth c hC hP hZ hname
  have hC0 := hC
  obtain ⟨hx, hb, -, hts, hown, -, hml, -, -, hz, -⟩ := hC0
  have hS : va_S (cA G S sz) s.heap s.heap [] := va_S.rf
  have hlt : a0 < sz := by rw [← hz]; exact cW_lt hP hm0
  have hin_Jx4a65c : ∀ w ∈ wsJx4a65c0, w ∈ wJx4a65c_grow_d5877 := fun w h => List.mem_cons_of_mem _ (hWCA _ (hWC7 w h))
  refine m_entry (Nat.le_of_ble_eq_true rfl) (fun ls hl => ?_)
  have hl : lv_has ls 1 [(0, .ref a0)] := hl
  refine lv_aload_n hx hb dJx4a65c_grow_d5877_0 rfl (lv_at hl 0 rfl) ?_
  refine lv_aload_n hx hb dJx4a65c_grow_d5877_1 rfl (lv_at hl 0 rfl) ?_
  refine n_get (C := RJx4a65c) (T := TJx4a65c) (N := 3) (ref := "java/util/ArrayList") (ci := 0) (v := .int (nI n)) hC hin_Jx4a65c hP hm0 (cE_7 hk0) rfl 2 (by decide) (hts _ (List.mem_cons_of_mem _ (hWCA _ wc_1))) rfl (by show some (Value.int _) = _; rw [hr2]) dJx4a65c_grow_d5877_2 ?_
  refine lv_iconst (v := 1) hx hb dJx4a65c_grow_d5877_5 (by decide) ?_
  refine lv_iadd hx hb dJx4a65c_grow_d5877_6 ?_
  rw [show nI n + 1 = nI (n + 1) from nI_add n 1]
  refine a_rV (S0 := S) (As := [.int (nI (n + 1))]) (rest := []) hC hP hS hZ gr0.rfl hm0 (cE_7 hk0) (C := RJx4a65c) (T := TJx4a65c) (N := 3) rfl (i_Jx4a65c_grow_92f84 l G S z D a0 hm0 hk0 arr n hF) (cwV 1 hts (gVA wa_89 wa_90 wa_91 (hWCA _ wc_7) wa_92 (fun w h => h)) rfl rfl rfl (by decide +kernel) ⟨Nat.le_of_ble_eq_true rfl, Nat.le_of_ble_eq_true rfl⟩) rfl hl.1 rfl (Nat.le_of_ble_eq_true rfl) ⟨Nat.le_of_ble_eq_true rfl, Nat.le_of_ble_eq_true rfl⟩ dJx4a65c_grow_d5877_7 (fun b r S2 D2 H locs hb2 hRl hG hP hS hC => ?_)
  exact a_aret (S0 := S) (Rl := (fun b r S2 D2 => rGr S D a0 arr n b r S2 D2)) hC (Or.inr ⟨_, rfl⟩) hP hS ⟨Nat.le_trans hb2 hRl.1, hRl.2⟩ hG dJx4a65c_grow_d5877_10 (Nat.le_refl _) (Nat.le_refl _)
