/-! The law from its entry. -/
theorem gIW {y : MethodName} {b : ByteArray} {n : Nat} {ret : Option FieldType} {ws : List Cond} (h : Cond.code y b n ret ∈ WA) (hw : ∀ w ∈ ws, w ∈ WA) : GoodIn WA (Cond.code y b n ret :: ws) := fun w hw1 => by
  have h1 : w ∈ WA := by
    rcases List.mem_cons.mp hw1 with rfl | h2
    · exact h
    · exact hw w h2
  exact ⟨h1, WA_good w h1⟩
theorem cA_all {G : cG} {S : CS} {sz : Nat} (h : ∀ q ∈ S.1, sz ≤ q) : cA G S sz = fun q => sz ≤ q := by
  funext q
  refine propext (cA_mem.trans ⟨fun w => ?_, Or.inr⟩)
  rcases w with w | w
  · exact h q w
  · exact w
theorem sAdd_ne {G : cG} {S : CS} {D : CD} {q kd len a : Nat} (h : a ≠ q) : cE G (sAdd S q kd len) (dNew D q) a = cE G S D a :=
  cE_cong (va_up_ne _ _ h) (va_up_ne _ _ h) (va_up_ne _ _ h) (va_up_ne _ _ h) (va_up_ne _ _ h) (va_up_ne _ _ h) (va_up_ne _ _ h)
/-- two rows made beside the pool -/
theorem gm_new {G : cG} {S : CS} {D : CD} {gA mA : Nat} {H : Heap} (g1 : gA ∉ S.1) (g2 : mA ∉ S.1) (g3 : gA ≠ mA) (hP : va_P G.1 vwCl (cW G (sAdd (sAdd S gA 8 52) mA 8 1) (dNew (dNew D gA) mA)) H) : va_P G.1 vwCl (cW G (sGM S gA mA) (dGM D gA mA (fun _ => 0) (fun _ => 0))) H := by
  refine cW_forget hP (fun x hx => ?_)
  have m1 : (sAdd (sAdd S gA 8 52) mA 8 1).1 = (S.1 ++ [gA]) ++ [mA] := rfl
  have kg : (sGM S gA mA).2.1 gA = 8 := if_pos (Or.inl rfl)
  have km : (sGM S gA mA).2.1 mA = 8 := if_pos (Or.inr rfl)
  have lg : (sGM S gA mA).2.2.2 gA = 52 := if_pos rfl
  have lm : (sGM S gA mA).2.2.2 mA = 1 := (if_neg (fun w => g3 w.symm)).trans (if_pos rfl)
  have k8 : ∀ (S : CS) (q kd len : Nat), (sAdd S q kd len).2.1 q = kd := fun S q kd len => va_up_self _ _ _
  have l8 : ∀ (S : CS) (q kd len : Nat), (sAdd S q kd len).2.2.2 q = len := fun S q kd len => va_up_self _ _ _
  have d8 : ∀ (D : CD) (q : Nat), (dNew D q).2.2.1 q = fun _ => 0 := fun D q => va_up_self _ _ _
  rcases List.mem_cons.mp hx with rfl | hx
  · refine ⟨by rw [m1]; simp, ?_⟩
    rw [sAdd_ne g3, cE_8 (k8 _ _ _ _), cE_8 kg, l8, d8, lg, dGM_g]
  · rcases List.mem_cons.mp hx with rfl | hx
    · refine ⟨by rw [m1]; simp, ?_⟩
      rw [cE_8 (k8 _ _ _ _), cE_8 km, l8, d8, lm, dGM_m g3]
    · have n1 : x ≠ gA := fun w => g1 (w ▸ hx)
      have n2 : x ≠ mA := fun w => g2 (w ▸ hx)
      refine ⟨by rw [m1]; simp [hx], ?_⟩
      rw [sAdd_ne n2, sAdd_ne n1]
      have h3 : (dGM D gA mA (fun _ => 0) (fun _ => 0)).2.2.1 x = D.2.2.1 x := by
        show (if x = gA then (fun _ => (0 : Int32)) else if x = mA then (fun _ => 0) else D.2.2.1 x) = _
        rw [if_neg n1, if_neg n2]
      exact (cE_sg (D := dGM D gA mA (fun _ => 0) (fun _ => 0)) (D2 := D) n1 n2 rfl rfl h3 rfl).symm
set_option maxHeartbeats 4000000 in
set_option maxRecDepth 100000 in
/-- from the entry, for every script of at most 260 ints, the law comes to its end with true -/
theorem whole_start {p : Program} {e : Env} {s : State} {m : MethodId} {below : List Frame} {meth : Method} {c : Code} (l : Launch) (hflags : l.flags = flags0) {b L : Nat} {xs : Nat → Int32} (hL : L ≤ 260) (C0 : lw_At p s m meth c b L xs) : W p l e room_1 s m #[Value.ref b] below meth c s.heap [] 0 0 (lw_Z below #[Value.ref b] s) (entryFrame m ([Value.ref b] : List Value).toArray 15) := by
  have hfl : l.stackTraces = false := by
    unfold Launch.stackTraces
    rw [hflags]
    decide +kernel
  obtain ⟨hx, hb, hr, hml, hown, hts, hX, hbl, hlocks, hgv⟩ := id C0
  have hW : ∀ w ∈ WA, w.before #[Value.ref b] s = true := fun w h => hts w (tb_WA w h)
  obtain ⟨D0, cI, cP, cO, hK⟩ := st_K hts
  obtain ⟨z, hZ⟩ := st_Z hts hgv
  have hXP := st_X hts hgv
  have hNc := st_W (args := #[Value.ref b]) hgv
  have hN := st_N hts
  obtain ⟨G, hG⟩ : ∃ G : cG, G = (D0, cI, cP, cO) := ⟨_, rfl⟩
  have hKc : va_K G.1 vwCl (cTy G) s := by rw [hG]; exact hK
  obtain ⟨S0, hS0⟩ : ∃ S0 : CS, S0 = ([], fun _ => 0, fun _ _ => none, fun _ => 0) := ⟨_, rfl⟩
  have hA0 : cA G S0 s.heap.size = fun q => s.heap.size ≤ q := cA_all (fun q h => by rw [hS0] at h; cases h)
  have hW0 : ∀ D : CD, cW G S0 D = [] := fun D => by rw [hS0]; rfl
  have hC : cC RL p s m #[Value.ref b] meth c WA code 15 ret G S0 s.heap.size := ⟨hx, hb, hr, hW, hown, hlocks, hml, hKc, fun D => by rw [hW0 D]; exact ⟨fun i j p q h1 => by simp at h1, fun k q h1 => by simp at h1⟩, rfl, hN⟩
  have hP0 : va_P G.1 vwCl (cW G S0 cD0) s.heap := by
    rw [hW0]
    intro k q h
    simp at h
  refine m_entry (vs := [.ref b]) (n := 15) (Nat.le_of_ble_eq_true rfl) (fun ls hl => ?_)
  have hl : lv_has ls 15 [(0, .ref b)] := hl
  refine n_obj (C := RX6) (T := TX6) (N := 8) (ci := 7) (kd := 6) (h := s.heap.size) hC hP0 va_S.rf rfl (fun w h => hWCA _ (hWC6 w h)) tyX6 tyX6_ok (hW _ wa_269) (hW _ wa_270) (hW _ (hWCA _ wc_66)) rfl (cnew_6 G _ _ _) cdef_6 (Nat.le_of_ble_eq_true rfl) (Nat.le_of_ble_eq_true rfl) dL_law_0 (fun H1 hP1 hz1 hS1 hC1 => ?_)
  obtain ⟨a0, ha0⟩ : ∃ a0 : Nat, a0 = s.heap.size := ⟨_, rfl⟩
  obtain ⟨S1, eS1⟩ : ∃ S1 : CS, S1 = sAdd S0 s.heap.size 6 0 := ⟨_, rfl⟩
  obtain ⟨D1, eD1⟩ : ∃ D1 : CD, D1 = dNew cD0 s.heap.size := ⟨_, rfl⟩
  rw [← eS1, ← eD1] at hP1
  rw [← eS1] at hS1 hC1
  have hz1 : s.heap.size ≤ H1.size := hS1.1
  have e1 : S1.1 = [s.heap.size] := by rw [eS1, hS0]; rfl
  have hm0 : a0 ∈ S1.1 := by rw [e1, ha0]; exact List.mem_singleton.mpr rfl
  have hk0 : S1.2.1 a0 = 6 := by rw [eS1, ha0]; exact va_up_self _ _ _
  have hlen : S1.2.2.2 z.1 < 2147483648 := by
    rw [eS1, hS0]
    show va_up (fun _ => 0) s.heap.size 0 z.1 < 2147483648
    unfold va_up
    split <;> exact (show (0 : Nat) < 2147483648 by decide)
  have h2 : ∀ q ∈ S1.1, q ∈ S0.1 ∨ s.heap.size ≤ q := fun q h => by
    rw [e1] at h
    rw [List.mem_singleton.mp h]
    exact Or.inr (Nat.le_refl _)
  rw [← ha0]
  refine lv_dup hx hb dL_law_3 rfl ?_
  have hg0 : gOk 0 (fun _ => ((0, 0, 0, 0) : Sg)) := ⟨fun i hi => absurd hi (Nat.not_lt_zero _), fun i j hi _ => absurd hi (Nat.not_lt_zero _)⟩
  obtain ⟨root, rd, c9, lo, ou, hFH⟩ := FH_ex hg0 (Nat.zero_le _)
  refine va_callv (va_runI (As := []) (rest := [.ref a0]) (c_fix hC1) (i_X6n l G 1000001 (by decide) S1 z D1 a0 hm0 hk0 hlen hFH H1.size) (cwI 0 hW (gIW wa_27 (fun _ h => h)) rfl rfl rfl (hW _ (hWCA _ wc_66)) (hW _ wa_271) (hW _ wa_272) rfl (by decide +kernel) ⟨Nat.le_of_ble_eq_true rfl, Nat.le_of_ble_eq_true rfl⟩) ⟨zBlind, fun U hU hWm => z_pre (av := [.ref a0]) hC1 hP1 hS1 (S0 := S0) (by rw [hA0]; exact hZ) h2 U hU hWm⟩ rfl rfl hl.1 rfl (lv_room (Nat.le_of_ble_eq_true rfl)) dL_law_4 ⟨Nat.le_of_ble_eq_true rfl, Nat.le_of_ble_eq_true rfl⟩) hS1 (fun q _ h => c_sub hC1 hS1 q h) (c_sub hC1 hS1) (fun u t H2 locs2 ht hvm hw hB hz2 hk2 hS2 => ?_)
  obtain ⟨S2, D2⟩ := u
  obtain ⟨hA2, hGr⟩ := hw
  have hP2 : va_P G.1 vwCl (cW G S2 D2) H2 := by rw [← ht]; exact hB.1
  have hsub1 : ∀ q ∈ S1.1, s.heap.size ≤ q := fun q h => by
    rw [e1] at h; rw [List.mem_singleton.mp h]; exact Nat.le_refl _
  have hsub2 : ∀ q ∈ S2.1, s.heap.size ≤ q := fun q h => by
    rcases hGr.2.1 q h with h | h
    · exact hsub1 q h
    · exact Nat.le_trans hz1 h
  rw [cA_all hsub1] at hS2
  have hC2 : cC RL p s m #[Value.ref b] meth c WA code 15 ret G S2 s.heap.size := cC_to hC1 hGr.2.2
  refine lv_astore_n (lv' := [(1, .ref a0), (0, .ref b)]) hx hb dL_law_7 rfl hl (by decide) rfl (fun ls hl => ?_)
  refine lv_bipush (v := 52) hx hb dL_law_8 (by decide) ?_
  refine n_iarr (n := 52) (N' := 52) (h := H2.size) hC2 hP2 (by rw [cA_all hsub2]; exact hS2) rfl (hW _ wa_4) (by decide) (by decide) (Nat.le_of_ble_eq_true rfl) (Nat.le_of_ble_eq_true rfl) (Nat.le_of_ble_eq_true rfl) dL_law_10 (fun H3 hP3 hz3 hS3 hC3 => ?_)
  obtain ⟨gA, egA⟩ : ∃ gA : Nat, gA = H2.size := ⟨_, rfl⟩
  rw [← egA] at hP3 hS3 hC3 hz3 ⊢
  refine lv_astore_n (lv' := [(2, .ref gA), (1, .ref a0), (0, .ref b)]) hx hb dL_law_12 rfl hl (by decide) rfl (fun ls hl => ?_)
  refine lv_iconst (v := 1) hx hb dL_law_13 (by decide) ?_
  refine n_iarr (n := 1) (N' := 1) (h := H3.size) hC3 hP3 hS3 rfl (hW _ wa_4) (by decide) (by decide) (Nat.le_of_ble_eq_true rfl) (Nat.le_of_ble_eq_true rfl) (Nat.le_of_ble_eq_true rfl) dL_law_14 (fun H4 hP4 hz4 hS4 hC4 => ?_)
  obtain ⟨mA, emA⟩ : ∃ mA : Nat, mA = H3.size := ⟨_, rfl⟩
  rw [← emA] at hP4 hS4 hC4 ⊢
  refine lv_astore_n (lv' := [(3, .ref mA), (2, .ref gA), (1, .ref a0), (0, .ref b)]) hx hb dL_law_16 rfl hl (by decide) rfl (fun ls hl => ?_)
  have hsz2 : s.heap.size ≤ H2.size := hS2.1
  have hzl : z.1 < s.heap.size := by
    obtain ⟨cell, -, -, -, -, -, -, hh⟩ := hZ.2.1
    exact Nat.lt_of_not_le hh
  have g1 : gA ∉ S2.1 := fun w => by have := cW_lt hP2 w; omega
  have g2 : mA ∉ S2.1 := fun w => by have := cW_lt hP2 w; omega
  have g3 : gA ≠ mA := by omega
  have hap : apGM S2 z gA mA := ⟨g1, g2, g3, by omega, by omega⟩
  have hsubT : ∀ q ∈ (sGM S2 gA mA).1, s.heap.size ≤ q := fun q h => by
    rcases List.mem_cons.mp h with rfl | h
    · omega
    · rcases List.mem_cons.mp h with rfl | h
      · omega
      · exact hsub2 q h
  have hsub4 : ∀ q ∈ (sAdd (sAdd S2 gA 8 52) mA 8 1).1, s.heap.size ≤ q := fun q h => by
    rcases List.mem_append.mp h with h | h
    · rcases List.mem_append.mp h with h | h
      · exact hsub2 q h
      · rw [List.mem_singleton.mp h]; omega
    · rw [List.mem_singleton.mp h]; omega
  have hPT := gm_new g1 g2 g3 hP4
  have hCT0 : cC RL p s m #[Value.ref b] meth c WA code 15 ret G (sGM S2 gA mA) s.heap.size := cC_to hC2 (dis_gm g1 g2 g3 hGr.2.2)
  have hCT : cC RL p s m #[Value.ref b] meth c (Cond.initialized RL :: WA) code 15 ret G (sGM S2 gA mA) s.heap.size := by
    obtain ⟨i1, i2, i3, i4, i5⟩ := hCT0
    exact ⟨i1, i2, i3, fun w h => by
      rcases List.mem_cons.mp h with rfl | h
      · exact hW _ wa_233
      · exact i4 w h, i5⟩
  have hcA := cA_all (G := G) hsubT
  rw [cA_all hsub4] at hS4
  have hv : lPr z (fun q => s.heap.size ≤ q) s := ⟨hZ, hXP, hNc⟩
  have hst : lSt S2 (dGM D2 gA mA (fun _ => 0) (fun _ => 0)) z a0 gA mA 0 (fun _ => ((0, 0, 0, 0) : Sg)) := ⟨hg0, Nat.zero_le _, ⟨root, rd, c9, lo, ou, cAll_dgm _ _ hA2 hap⟩, hap, fun i hi => absurd hi (Nat.not_lt_zero _), by rw [dGM_m g3]; rfl⟩
  have hmz : (dGM D2 gA mA (fun _ => 0) (fun _ => 0)).2.2.1 mA 0 = nI 0 := by rw [dGM_m g3]; rfl
  have hS5 : f_L_law_S 4000001 (sGM S2 gA mA) (dGM D2 gA mA (fun _ => 0) (fun _ => 0)) b a0 gA mA = some (dGM D2 gA mA (fun _ => 0) (fun _ => 0), 0, [1, 0], []) := by
    obtain ⟨A, sg, w, rfl, hz9, P⟩ := cAll_gm (cAll_dgm (fun _ => 0) (fun _ => 0) hA2 hap) hap
    exact e_Llaw_S P (Nat.le_refl _) (gm_m g3) hmz b
  refine r_L_law_S hfl 4000001 b a0 gA mA hCT (by rw [hcA]; exact hv) (Nat.le_of_ble_eq_true rfl) (Nat.le_of_ble_eq_true rfl) _ _ 0 [1, 0] [] hPT (by rw [hcA]; exact hS4) (lv_sub hl [3, 2, 1, 0] rfl) hS5 ?_
  intro H5 locs5 ls5 x4 x5 _ e5 _ hP5 hS5 hl5
  cases e5
  rw [hcA] at hS5
  refine W.widen (k := 1000 + 30 * 0) (n := 10000 + 200 * 0) (Nat.le_of_ble_eq_true rfl) (Nat.le_of_ble_eq_true rfl) ?_
  exact law_loop l hfl (dc := dcF L xs) (dcF_pos L xs) hv ⟨L, xs, hX, hbl, Nat.not_le.mpr hbl, fun k hk => m_dice l b L xs hL k hk⟩ 45 0 rfl S2 _ 0 _ H5 locs5 ls5 hst hCT hcA hP5 hS5 hl5
