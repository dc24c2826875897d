/-! The law's loop. -/
set_option maxHeartbeats 4000000 in
set_option maxRecDepth 100000 in
theorem law_loop {p : Program} {e : Env} {s : State} {m : MethodId} {below : List Frame} {meth : Method} {c : Code} (l : Launch) (hfl : l.stackTraces = false) {b o gA mA : Nat} {dc : Int32 → Int32} (hdp : ∀ v, 0 ≤ dc v) {G : cG} {z : Nat × Nat} {k0 : Cond} (hv : lPr z (fun q => s.heap.size ≤ q) s) (hd : dcOk l s b dc (fun q => s.heap.size ≤ q)) :
    ∀ (d k : Nat), k + d = 45 → ∀ (S : CS) (D : CD) (n : Nat) (g : Nat → Sg) (H : Heap) (locs : List Loc) (ls : Array Slot), lSt S D z o gA mA n g → cC RL p s m #[Value.ref b] meth c (k0 :: WA) code 15 ret G (sGM S gA mA) s.heap.size → cA G (sGM S gA mA) s.heap.size = (fun q => s.heap.size ≤ q) → va_P G.1 vwCl (cW G (sGM S gA mA) D) H → va_S (fun q => s.heap.size ≤ q) s.heap H locs → lv_has ls 15 [(0, .ref b), (1, .ref o), (2, .ref gA), (3, .ref mA), (4, .int 1), (5, .int (nI k))] → W p l e room_1 s m #[Value.ref b] below meth c H locs (1000 + 30 * k) (10000 + 200 * k) (lw_Z below #[Value.ref b] s) (F0 m 53 ls []) := by
  intro d
  induction d with
  | zero =>
    intro k hk S D n g H locs ls hst hC hcA hP hS hl
    obtain ⟨hx, hb, hr, hts, hown, hlocks, hml, hK, hD, hsz, hN⟩ := id hC
    have e45 : k = 45 := by omega
    subst e45
    refine r_L_law_A hfl 1000 b o gA mA dc (by rw [hcA]; exact hd) hC (by rw [hcA]; exact hv) (by omega) (by omega) D D 1 (nI 45) 0 [1] [] hP (by rw [hcA]; exact hS) hl (by unfold f_L_law_A; rw [if_pos (by decide)]) ?_ (fun _ _ _ _ _ _ h => absurd h (by decide)) (fun _ _ _ _ _ _ _ _ _ _ h => absurd h (by decide))
    intro H1 locs1 ls1 x4 _ e1 _ hP1 hS1 hl1
    cases e1
    rw [hcA] at hS1
    refine lv_iload hx hb dL_law_524 (lv_at hl1 0 rfl) ?_
    refine va_forget (fun q hq => hS1.2.2 q hq) ?_
    refine W.widen (k := 600104) (n := 7301314) (by omega) (by omega) ?_
    exact lw_ret hx hb hr hlocks dL_law_526
  | succ d ih =>
    intro k hk S D n g H locs ls hst hC hcA hP hS hl
    obtain ⟨hx, hb, hr, hts, hown, hlocks, hml, hK, hD, hsz, hN⟩ := id hC
    have tail : ∀ (S2 : CS) (D2 : CD) (n2 : Nat) (g2 : Nat → Sg) (H2 : Heap) (locs2 : List Loc) (ls2 : Array Slot) (t y ce sl : Nat), t < 2147483648 → y < 2147483648 → ce ≤ 1000 + 30 * k + 2 → sl ≤ 10000 + 200 * k + 21 → lSt S2 D2 z o gA mA n2 g2 → cGr G (sGM S gA mA) (sGM S2 gA mA) s.heap.size → va_P G.1 vwCl (cW G (sGM S2 gA mA) D2) H2 → va_S (fun q => s.heap.size ≤ q) s.heap H2 locs2 → lv_has ls2 15 [(0, .ref b), (1, .ref o), (2, .ref gA), (3, .ref mA), (4, .int 1), (5, .int (nI k)), (6, .int (nI t)), (7, .int (nI y))] → W p l e room_1 s m #[Value.ref b] below meth c H2 locs2 ce sl (lw_Z below #[Value.ref b] s) (F0 m 324 ls2 []) := by
      intro S2 D2 n2 g2 H2 locs2 ls2 t y ce sl ht hy hce hsl hst2 hG hP2 hS2 hl2
      have hC2 := cC_to hC hG.2.2
      have hcA2 := (cA_gr hG).trans hcA
      obtain ⟨hgo, hn, ⟨root, rd, cc0, lo, ou, hA⟩, hap, hrow, hm0⟩ := hst2
      obtain ⟨A, sg, w, h0, hz, P⟩ := hA
      have PT := cPic_gm hz P hap
      obtain ⟨D3, q1, q2, q3⟩ := e_Llaw_B (F := 4000001) PT (Nat.le_refl _) gm_g (gm_m hap.2.2.1) hrow hm0 b (k := k) (x := t) (y := y) (by omega) ht hy
      rw [h0] at q1
      refine r_L_law_B hfl 4000001 b o gA mA hC2 (by rw [hcA2]; exact hv) (by omega) (by omega) D2 D3 1 (nI k) (nI t) (nI y) 0 [1, nI (k + 1)] [] hP2 (by rw [hcA2]; exact hS2) hl2 q1 ?_
      intro H3 locs3 ls3 x4 x5 _ e1 _ hP3 hS3 hl3
      cases e1
      rw [hcA2] at hS3
      refine W.widen (k := 1000 + 30 * (k + 1)) (n := 10000 + 200 * (k + 1)) (by omega) (by omega) ?_
      exact ih (k + 1) (by omega) S2 D3 n2 g2 H3 locs3 ls3 (lSt_nx hz h0 hap P q3 (fun i hi => by unfold rowG; rw [q2]; exact hrow i hi) (by rw [q2]; exact hm0)) hC2 hcA2 hP3 hS3 hl3
    have hst0 := hst
    obtain ⟨hgo, hn, -, hap, hrow, hm0⟩ := hst
    have hmo := gm_m (S := S) hap.2.2.1
    rcases e_Llaw_A (F := 1000) hdp gm_g hmo hn hgo.1 hrow hm0 b o (k := k) (by omega) with ⟨t, y, ht, hy, hn0, hf⟩ | ⟨t, y, p1, q1, p2, q2, ht, hy, b1, b2, b3, b4, hf⟩
    · refine r_L_law_A hfl 1000 b o gA mA dc (by rw [hcA]; exact hd) hC (by rw [hcA]; exact hv) (by omega) (by omega) D D 1 (nI k) 1 [nI k, nI t, nI y] [] hP (by rw [hcA]; exact hS) hl hf (fun _ _ _ _ h => absurd h (by decide)) ?_ (fun _ _ _ _ _ _ _ _ _ _ h => absurd h (by decide))
      intro H1 locs1 ls1 x5 x6 x7 _ e1 _ hP1 hS1 hl1
      cases e1
      have hz0 : ¬ nI n = 0 := fun w => by have := (nI_eq (b := 0) (by omega) (by omega)).mp w; omega
      have hyn : nI y - nI y / nI n * nI n = nI (y % n) := pk_rem (by omega) (by omega) (by omega)
      refine lv_aload_n hx hb dL_law_111 rfl (lv_at hl1 1 rfl) ?_
      refine lv_aload_n hx hb dL_law_112 rfl (lv_at hl1 2 rfl) ?_
      refine lv_aload_n hx hb dL_law_113 rfl (lv_at hl1 3 rfl) ?_
      refine lv_iload hx hb dL_law_114 (lv_at hl1 6 rfl) ?_
      refine lv_aload_n hx hb dL_law_116 rfl (lv_at hl1 3 rfl) ?_
      refine lv_iconst (v := 0) hx hb dL_law_117 (by decide) ?_
      refine g_ild (t := nI n) hC hP1 hmo.1.1 hmo.1.2 (show vp_in (nI 0) ((sGM S gA mA).2.2.2 mA) by rw [hmo.2]; exact vp_in_nI (by omega) (by omega)) (show nI n = D.2.2.1 mA 0 from hm0.symm) dL_law_118 ?_
      refine lv_irem hx hb dL_law_119 hz0 ?_
      rw [hyn]
      refine g_SL2 (As := [.ref o, .ref gA, .ref mA, .int (nI (y % n))]) (rest := []) (mc := 0) (ms := 0) hC (by rw [hcA]; exact hv) hP1 hS1 (x_isRemoved l hfl G S z D o gA mA n (y % n) g hst0 (Nat.mod_lt _ hn0)) (va_cwS 4 hts (gSA wa_277 wa_278 wa_233 wa_268 (fun w h => h)) rfl rfl rfl (by decide +kernel) ⟨Nat.le_of_ble_eq_true rfl, Nat.le_of_ble_eq_true rfl⟩) rfl hl1.1 rfl (Nat.le_of_ble_eq_true rfl) dL_law_120 ⟨show 1000 + 30 * k + 0 + 0 ≤ 600104 by omega, show 10000 + 200 * k + 0 + 0 ≤ 7301314 by omega⟩ ?_
      intro S2 D2 H2 locs2 hst2 hG hP2 hS2
      rw [hcA] at hS2
      refine lv_istore (lv' := [(4, .int 1), (0, .ref b), (1, .ref o), (2, .ref gA), (3, .ref mA), (5, .int (nI k)), (6, .int (nI t)), (7, .int (nI y))]) hx hb dL_law_123 hl1 (by decide) rfl (fun ls hl => ?_)
      refine lv_goto (tgt := 324) hx hb dL_law_125 (by decide) ?_
      exact tail S2 D2 _ _ H2 locs2 ls t y _ _ ht hy (by omega) (by omega) hst2 hG hP2 hS2 (lv_sub hl [1, 2, 3, 4, 0, 5, 6, 7] rfl)
    · refine r_L_law_A hfl 1000 b o gA mA dc (by rw [hcA]; exact hd) hC (by rw [hcA]; exact hv) (by omega) (by omega) D D 1 (nI k) 2 [nI k, nI t, nI y, zI p1, zI q1, zI p2, zI q2] [] hP (by rw [hcA]; exact hS) hl hf (fun _ _ _ _ h => absurd h (by decide)) (fun _ _ _ _ _ _ h => absurd h (by decide)) ?_
      intro H1 locs1 ls1 x5 x6 x7 x11 x12 x13 x14 _ e1 _ hP1 hS1 hl1
      cases e1
      refine lv_aload_n hx hb dL_law_308 rfl (lv_at hl1 1 rfl) ?_
      refine lv_aload_n hx hb dL_law_309 rfl (lv_at hl1 2 rfl) ?_
      refine lv_aload_n hx hb dL_law_310 rfl (lv_at hl1 3 rfl) ?_
      refine lv_iload hx hb dL_law_311 (lv_at hl1 7 rfl) ?_
      refine lv_iload hx hb dL_law_313 (lv_at hl1 8 rfl) ?_
      refine lv_iload hx hb dL_law_315 (lv_at hl1 9 rfl) ?_
      refine lv_iload hx hb dL_law_317 (lv_at hl1 10 rfl) ?_
      refine g_SL2 (As := [.ref o, .ref gA, .ref mA, .int (zI p1), .int (zI q1), .int (zI p2), .int (zI q2)]) (rest := []) (mc := 2) (ms := 21) hC (by rw [hcA]; exact hv) hP1 hS1 (x_isAdded l hfl G S z D o gA mA n g hst0 b1 b2 b3 b4) (va_cwS 7 hts (gSA wa_279 wa_280 wa_233 wa_267 (fun w h => h)) rfl rfl rfl (by decide +kernel) ⟨Nat.le_of_ble_eq_true rfl, Nat.le_of_ble_eq_true rfl⟩) rfl hl1.1 rfl (Nat.le_of_ble_eq_true rfl) dL_law_319 ⟨show 1000 + 30 * k + 0 + 2 ≤ 600104 by omega, show 10000 + 200 * k + 0 + 21 ≤ 7301314 by omega⟩ ?_
      intro S2 D2 H2 locs2 hst2 hG hP2 hS2
      obtain ⟨n2, g2, hst2⟩ := hst2
      rw [hcA] at hS2
      refine lv_istore (lv' := [(4, .int 1), (0, .ref b), (1, .ref o), (2, .ref gA), (3, .ref mA), (5, .int (nI k)), (6, .int (nI t)), (7, .int (nI y)), (11, .int (zI p1)), (12, .int (zI q1)), (13, .int (zI p2)), (14, .int (zI q2))]) hx hb dL_law_322 hl1 (by decide) rfl (fun ls hl => ?_)
      exact tail S2 D2 n2 g2 H2 locs2 ls t y _ _ ht hy (by omega) (by omega) hst2 hG hP2 hS2 (lv_sub hl [1, 2, 3, 4, 0, 5, 6, 7] rfl)
