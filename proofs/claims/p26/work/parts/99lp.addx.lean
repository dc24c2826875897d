/-! The contract of the law's isAdded. -/
section ADX
variable {S : CS} {D : CD} {n : Nat} {g : Nat → Sg} {root rd : Nat → Nat} {c : Nat} {lo ou : Nat → Nat} {gA mA o : Nat} {z : Nat × Nat}
theorem e_adS (hA : cAll S D z o n g root rd c lo ou) (ha : apGM S z gA mA) (hgo : gOk n g) (hn : n ≤ 12) (hr : ∀ i, i < n → rowG D gA i (g i)) (hm0 : D.2.2.1 mA 0 = nI n) {x y x2 y2 : Int} (h1 : inR x) (h2 : inR y) (h3 : inR x2) (h4 : inR y2) (h5 : ¬ (x = x2 ∧ y = y2)) (hc : canA n g (nrm x y x2 y2) n = false) :
    ∃ D3, f_L_isAdded_B 1000 (sGM S gA mA) D o gA mA (zI x) (zI y) (zI x2) (zI y2) (bI (ltP x y x2 y2)) (nI n) (allV n g root rd c lo ou) (-603) = some (D3, 0, [1], []) ∧ lSt S D3 z o gA mA n g := by
  have hg := gm_g (S := S) (gA := gA) (mA := mA)
  have hmo := gm_m (S := S) ha.2.2.1
  have pic : ∀ f' mf', ∃ A sg w, A 0 = o ∧ cPic (sGM S gA mA) (dGM D gA mA f' mf') A sg w n g root rd c lo ou := fun f' mf' => by
    obtain ⟨A, sg, w, h0, -, P⟩ := cAll_gm (cAll_dgm f' mf' hA ha) ha
    exact ⟨A, sg, w, h0, P⟩
  obtain ⟨mf', q1, q2⟩ := e_adB (F := 1000) (T := sGM S gA mA) (D := D) (o := o) (g := g) hg hmo ha.2.2.1 hn hgo.1 (f0 := D.2.2.1 gA) (mf := D.2.2.1 mA) hr hm0 h1 h2 h3 h4 h5 (allV n g root rd c lo ou) (Nat.le_refl _) (fun q => by
      obtain ⟨A, sg, w, rfl, P⟩ := pic (D.2.2.1 gA) (D.2.2.1 mA)
      exact ly_k P.1 0 (by decide) (by decide)) (fun f' mf' => by
      obtain ⟨A, sg, w, rfl, P⟩ := pic f' mf'
      rw [hc, if_neg (by decide)]
      exact k_segments P) (fun _ f' mf' => by
      obtain ⟨A, sg, w, rfl, P⟩ := pic f' mf'
      exact e_Lall P (Nat.le_refl _))
  rw [hc, if_neg (by decide), dGM_eta ha.2.2.1] at q1
  rw [hc, if_neg (by decide)] at q2
  refine ⟨_, q1, hgo, hn, ⟨root, rd, c, lo, ou, cAll_dgm _ _ hA ha⟩, ha, fun i hi => ?_, by rw [dGM_m ha.2.2.1]; exact q2⟩
  rw [dGM_g, wr4_old _ _ _ (show 4 * i < 4 * n by omega), wr4_old _ _ _ (show 4 * i + 1 < 4 * n by omega), wr4_old _ _ _ (show 4 * i + 2 < 4 * n by omega), wr4_old _ _ _ (show 4 * i + 3 < 4 * n by omega)]
  exact hr i hi
theorem e_adT {D0 : CD} {x y x2 y2 : Int} (hA : cAll S D z o (n + 1) (adG n g (nrm x y x2 y2)) root rd c lo ou) (ha : apGM S z gA mA) (hgo : gOk n g) (hn : n < 12) (hr : ∀ i, i < n → rowG D0 gA i (g i)) (hm0 : D0.2.2.1 mA 0 = nI n) (h1 : inR x) (h2 : inR y) (h3 : inR x2) (h4 : inR y2) (h5 : ¬ (x = x2 ∧ y = y2)) (hc : adC n g (nrm x y x2 y2) = true) (was : Int64) :
    ∃ D3, f_L_isAdded_B 1000 (sGM S gA mA) (dGM D gA mA (D0.2.2.1 gA) (D0.2.2.1 mA)) o gA mA (zI x) (zI y) (zI x2) (zI y2) (bI (ltP x y x2 y2)) (nI n) was (nI n) = some (D3, 0, [1], []) ∧ lSt S D3 z o gA mA (n + 1) (adG n g (nrm x y x2 y2)) := by
  have hg := gm_g (S := S) (gA := gA) (mA := mA)
  have hmo := gm_m (S := S) ha.2.2.1
  have hca : canA n g (nrm x y x2 y2) n = true := by
    show (decide (n < 12) && adC n g (nrm x y x2 y2)) = true
    rw [hc, decide_eq_true hn]; rfl
  have pic : ∀ f' mf', ∃ A sg w, A 0 = o ∧ cPic (sGM S gA mA) (dGM D gA mA f' mf') A sg w (n + 1) (adG n g (nrm x y x2 y2)) root rd c lo ou := fun f' mf' => by
    obtain ⟨A, sg, w, h0, -, P⟩ := cAll_gm (cAll_dgm f' mf' hA ha) ha
    exact ⟨A, sg, w, h0, P⟩
  obtain ⟨mf', q1, q2⟩ := e_adB (F := 1000) (T := sGM S gA mA) (D := D) (o := o) (g := g) hg hmo ha.2.2.1 (Nat.le_of_lt hn) hgo.1 (f0 := D0.2.2.1 gA) (mf := D0.2.2.1 mA) hr hm0 h1 h2 h3 h4 h5 was (Nat.le_refl _) (fun q => by
      obtain ⟨A, sg, w, rfl, P⟩ := pic (D.2.2.1 gA) (D.2.2.1 mA)
      exact ly_k P.1 0 (by decide) (by decide)) (fun f' mf' => by
      obtain ⟨A, sg, w, rfl, P⟩ := pic f' mf'
      rw [hca, if_pos rfl]
      exact k_segments P) (fun w => by rw [hca] at w; cases w)
  rw [hca, if_pos rfl] at q1
  rw [hca, if_pos rfl] at q2
  refine ⟨_, q1, gOk_ad hgo (nrm_ok h1 h2 h3 h4 h5) hc, hn, ⟨root, rd, c, lo, ou, cAll_dgm _ _ hA ha⟩, ha, fun i hi => ?_, by rw [dGM_m ha.2.2.1]; exact q2⟩
  rw [dGM_g]
  by_cases e : i = n
  · subst e
    have : adG i g (nrm x y x2 y2) i = nrm x y x2 y2 := if_pos rfl
    rw [this]; exact wr4_new _ _ _
  · have : adG n g (nrm x y x2 y2) i = g i := if_neg e
    rw [this, wr4_old _ _ _ (show 4 * i < 4 * n by omega), wr4_old _ _ _ (show 4 * i + 1 < 4 * n by omega), wr4_old _ _ _ (show 4 * i + 2 < 4 * n by omega), wr4_old _ _ _ (show 4 * i + 3 < 4 * n by omega)]
    exact hr i (by omega)
end ADX
set_option maxRecDepth 100000 in
set_option maxHeartbeats 4000000 in
theorem x_isAdded (l : Launch) (hfl : l.stackTraces = false) (G : cG) (S : CS) (z : Nat × Nat) (D : CD) (o gA mA n : Nat) (g : Nat → Sg) (h : lSt S D z o gA mA n g) {x y x2 y2 : Int} (h1 : inR x) (h2 : inR y) (h3 : inR x2) (h4 : inR y2) : lKI l yL_isAdded wL_isAdded ({ frames := 11, cells := 2, slots := 21, locals := 430 }) G S gA mA z [.ref o, .ref gA, .ref mA, .int (zI x), .int (zI y), .int (zI x2), .int (zI y2)] D 2 21 1 (fun S2 D2 => ∃ n' g', lSt S2 D2 z o gA mA n' g') := by
  have hst := h
  obtain ⟨hgo, hn, ⟨root, rd, cc0, lo, ou, hA⟩, hap, hrow, hm0⟩ := h
  have hA0 := hA
  have hAT := cAll_gm hA hap
  obtain ⟨A, sg, w, rfl, hz, P⟩ := hA
  have ho := P.1.1 0 (by decide) (by decide)
  have PT := cPic_gm hz P hap
  have hoT := PT.1.1 0 (by decide) (by decide)
  have hmo := gm_m (S := S) hap.2.2.1
  refine kBody (cc := cL_isAdded) (maxL := 14) (ret := some .boolean) (by decide) rfl rfl ?_
  intro sz p e s m below meth c hC hv
  have hx0 := hC.1
  have hb := hC.2.1
  have hts := hC.2.2.2.1
  have hvr := lPr_of hv
  have hGr : cGr G (sGM S gA mA) (sGM S gA mA) sz := cGr.self (fun D2 => cD_any D2 hv.1.1.2.2.2.1)
  refine g_entry (Nat.le_of_ble_eq_true rfl) (fun ls hl => ?_)
  have hl : lv_has ls 14 [(0, .ref (A 0)), (1, .ref gA), (2, .ref mA), (3, .int (zI x)), (4, .int (zI y)), (5, .int (zI x2)), (6, .int (zI y2))] := hl
  refine r_L_isAdded_A hfl 1000 (A 0) gA mA hC hvr (Nat.le_of_ble_eq_true rfl) (Nat.le_of_ble_eq_true rfl) D D (zI x) (zI y) (zI x2) (zI y2) 0 [zI x, zI y, zI x2, zI y2, bI (ltP x y x2 y2), nI n] [allV n g root rd cc0 lo ou] hv.1.1.2.1 va_S.rf hl (e_LisAdded_A PT (Nat.le_refl _) hmo hm0 h1 h2 h3 h4) ?_
  intro H locs ls y3 y4 y5 y6 y7 y8 y9 _ e1 e9 hP hS hl
  cases e1
  cases e9
  refine lv_aload_n hx0 hb dL_isAdded_50 rfl (lv_at hl 0 rfl) ?_
  refine lv_iload_n hx0 hb dL_isAdded_51 rfl (lv_at hl 3 rfl) ?_
  refine lv_iload hx0 hb dL_isAdded_52 (lv_at hl 4 rfl) ?_
  refine lv_iload hx0 hb dL_isAdded_54 (lv_at hl 5 rfl) ?_
  refine lv_iload hx0 hb dL_isAdded_56 (lv_at hl 6 rfl) ?_
  by_cases h5 : x = x2 ∧ y = y2
  · have hf := r_add (F := 1000) PT (inR_32 h1) (inR_32 h2) (inR_32 h3) (inR_32 h4) (show adP x y x2 y2 = false by unfold adP; rw [decide_eq_true h5.1, decide_eq_true h5.2, Bool.and_true, Bool.not_true, Bool.and_false])
    refine g_SX (As := [.ref (A 0), .int (zI x), .int (zI y), .int (zI x2), .int (zI y2)]) (rest := []) (mc := 1) (ms := 6) hC hvr hP hS (m_L_add l hfl G 1000 (sGM S gA mA) z D D (A 0) (zI x) (zI y) (zI x2) (zI y2) (-602) hf) (vx_cwSW 5 hts (gSX wa_265 wa_266 wa_233 wa_141) rfl rfl rfl (by decide +kernel) ⟨Nat.le_of_ble_eq_true rfl, Nat.le_of_ble_eq_true rfl⟩) rfl hl.1 rfl (Nat.le_of_ble_eq_true rfl) dL_isAdded_58 ⟨Nat.le_of_ble_eq_true rfl, Nat.le_of_ble_eq_true rfl⟩ ?_
    intro H1 locs1 hP1 hS1
    refine r_L_isAdded_B hfl 1000 (A 0) gA mA hC hvr (Nat.le_of_ble_eq_true rfl) (Nat.le_of_ble_eq_true rfl) D D (zI x) (zI y) (zI x2) (zI y2) (bI (ltP x y x2 y2)) (nI n) (allV n g root rd cc0 lo ou) (-602) 0 [1] [] hP1 hS1 hl (by
      unfold f_L_isAdded_B
      rw [if_pos (by rw [h5.1]), if_pos (by rw [h5.2]), if_pos rfl]
      rfl) ?_
    intro pc H3 locs3 ls3 s0 hdg _ e3 _ hP3 hS3 h01
    obtain ⟨rfl, -⟩ := List.cons.inj e3
    exact g_zretK (r := 1) (mc := 2) (ms := 21) (Rl := fun S2 D2 => ∃ n' g', lSt S2 D2 z (A 0) gA mA n' g') hC hP3 hS3 h01 rfl ⟨n, g, hst⟩ hGr (Nat.le_of_ble_eq_true rfl) (Nat.le_of_ble_eq_true rfl) hdg
  · have hpt : adP x y x2 y2 = true := by
      unfold adP
      rw [show inP x = true from decide_eq_true h1, show inP y = true from decide_eq_true h2, show inP x2 = true from decide_eq_true h3, show inP y2 = true from decide_eq_true h4]
      simp only [Bool.true_and, Bool.not_eq_true', Bool.and_eq_false_iff, decide_eq_false_iff_not]
      omega
    by_cases h12 : n = 12
    · have hf := r_addS (F := 1000) PT hpt h12
      obtain ⟨D3, q1, q2⟩ := e_adS hA0 hap hgo hn hrow hm0 h1 h2 h3 h4 h5 (show (decide (n < 12) && adC n g (nrm x y x2 y2)) = false by rw [decide_eq_false (show ¬ n < 12 by omega), Bool.false_and])
      refine g_SX (As := [.ref (A 0), .int (zI x), .int (zI y), .int (zI x2), .int (zI y2)]) (rest := []) (mc := 1) (ms := 6) hC hvr hP hS (m_L_add l hfl G 1000 (sGM S gA mA) z D D (A 0) (zI x) (zI y) (zI x2) (zI y2) (-603) hf) (vx_cwSW 5 hts (gSX wa_265 wa_266 wa_233 wa_141) rfl rfl rfl (by decide +kernel) ⟨Nat.le_of_ble_eq_true rfl, Nat.le_of_ble_eq_true rfl⟩) rfl hl.1 rfl (Nat.le_of_ble_eq_true rfl) dL_isAdded_58 ⟨Nat.le_of_ble_eq_true rfl, Nat.le_of_ble_eq_true rfl⟩ ?_
      intro H1 locs1 hP1 hS1
      refine r_L_isAdded_B hfl 1000 (A 0) gA mA hC hvr (Nat.le_of_ble_eq_true rfl) (Nat.le_of_ble_eq_true rfl) D D3 (zI x) (zI y) (zI x2) (zI y2) (bI (ltP x y x2 y2)) (nI n) (allV n g root rd cc0 lo ou) (-603) 0 [1] [] hP1 hS1 hl q1 ?_
      intro pc H3 locs3 ls3 s0 hdg _ e3 _ hP3 hS3 h01
      obtain ⟨rfl, -⟩ := List.cons.inj e3
      exact g_zretK (r := 1) (mc := 2) (ms := 21) (Rl := fun S2 D2 => ∃ n' g', lSt S2 D2 z (A 0) gA mA n' g') hC hP3 hS3 h01 rfl ⟨n, g, q2⟩ hGr (Nat.le_of_ble_eq_true rfl) (Nat.le_of_ble_eq_true rfl) hdg
    · cases hc : adC n g (nrm x y x2 y2)
      · obtain ⟨D3, q1, q2⟩ := e_adS hA0 hap hgo hn hrow hm0 h1 h2 h3 h4 h5 (show (decide (n < 12) && adC n g (nrm x y x2 y2)) = false by rw [hc, Bool.and_false])
        refine g_SX (As := [.ref (A 0), .int (zI x), .int (zI y), .int (zI x2), .int (zI y2)]) (rest := []) (mc := 2) (ms := 12) hC hvr hP hS (x_addO l G (sGM S gA mA) z D (A 0) (zI x) (zI y) (zI x2) (zI y2) hoT.1 hoT.2 (i_addO l hfl G 1000 (Nat.le_refl _) (sGM S gA mA) z D (A 0) n hAT (by omega) hpt hc)) (vx_cwSW 5 hts (gSX wa_265 wa_266 wa_233 wa_141) rfl rfl rfl (by decide +kernel) ⟨Nat.le_of_ble_eq_true rfl, Nat.le_of_ble_eq_true rfl⟩) rfl hl.1 rfl (Nat.le_of_ble_eq_true rfl) dL_isAdded_58 ⟨Nat.le_of_ble_eq_true rfl, Nat.le_of_ble_eq_true rfl⟩ ?_
        intro H1 locs1 hP1 hS1
        refine r_L_isAdded_B hfl 1000 (A 0) gA mA hC hvr (Nat.le_of_ble_eq_true rfl) (Nat.le_of_ble_eq_true rfl) D D3 (zI x) (zI y) (zI x2) (zI y2) (bI (ltP x y x2 y2)) (nI n) (allV n g root rd cc0 lo ou) (-603) 0 [1] [] hP1 hS1 hl q1 ?_
        intro pc H3 locs3 ls3 s0 hdg _ e3 _ hP3 hS3 h01
        obtain ⟨rfl, -⟩ := List.cons.inj e3
        exact g_zretK (r := 1) (mc := 2) (ms := 21) (Rl := fun S2 D2 => ∃ n' g', lSt S2 D2 z (A 0) gA mA n' g') hC hP3 hS3 h01 rfl ⟨n, g, q2⟩ hGr (Nat.le_of_ble_eq_true rfl) (Nat.le_of_ble_eq_true rfl) hdg
      · obtain ⟨r2, rd2, c2, lo2, ou2, hFH⟩ := FH_ex (gOk_ad hgo (nrm_ok h1 h2 h3 h4 h5) hc) (show n + 1 ≤ 12 by omega)
        have hadd := i_add l G 1000 (Nat.le_refl _) S z D (A 0) n hA0 (by omega) hpt hc hFH
        refine g_SK (As := [.ref (A 0), .int (zI x), .int (zI y), .int (zI x2), .int (zI y2)]) (rest := []) (mc := 2) (ms := 21) hC ⟨hap.1, hap.2.1, hap.2.2.1⟩ hvr hP hS (x_add l G S z D (A 0) (zI x) (zI y) (zI x2) (zI y2) (nI n) _ ho.1 ho.2 hadd) (vx_cwSW 5 hts (gSX wa_265 wa_266 wa_233 wa_141) rfl rfl rfl (by decide +kernel) ⟨Nat.le_of_ble_eq_true rfl, Nat.le_of_ble_eq_true rfl⟩) rfl hl.1 rfl (Nat.le_of_ble_eq_true rfl) dL_isAdded_58 ⟨Nat.le_of_ble_eq_true rfl, Nat.le_of_ble_eq_true rfl⟩ ?_
        intro S2 D2 H1 locs1 hA2 g2 m2 hG hP2 hS2
        have hap2 := apGM_gr (G := G) hap g2 m2
        obtain ⟨D3, q1, q2⟩ := e_adT (D0 := D) hA2 hap2 hgo (by omega) hrow hm0 h1 h2 h3 h4 h5 hc (allV n g root rd cc0 lo ou)
        have hC2 := cC_to hC hG.2.2
        rw [← cA_gr hG] at hS2
        refine r_L_isAdded_B hfl 1000 (A 0) gA mA hC2 (by rw [cA_gr hG]; exact hvr) (Nat.le_of_ble_eq_true rfl) (Nat.le_of_ble_eq_true rfl) _ D3 (zI x) (zI y) (zI x2) (zI y2) (bI (ltP x y x2 y2)) (nI n) (allV n g root rd cc0 lo ou) (nI n) 0 [1] [] hP2 hS2 hl q1 ?_
        intro pc H3 locs3 ls3 s0 hdg _ e3 _ hP3 hS3 h01
        obtain ⟨rfl, -⟩ := List.cons.inj e3
        rw [cA_gr hG] at hS3
        exact g_zretK (r := 1) (mc := 2) (ms := 21) (Rl := fun S2 D2 => ∃ n' g', lSt S2 D2 z (A 0) gA mA n' g') hC hP3 hS3 h01 rfl ⟨n + 1, _, q2⟩ hG (Nat.le_of_ble_eq_true rfl) (Nat.le_of_ble_eq_true rfl) hdg
