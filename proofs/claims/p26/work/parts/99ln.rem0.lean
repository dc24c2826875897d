/-! What the law's isRemoved comes to; its contract. -/
theorem nI4 (i : Nat) : nI i + 4 = nI (i + 4) := ixk i 4
section RM0
variable {F : Nat} {S : CS} {D : CD} {n : Nat} {g : Nat → Sg} {root rd : Nat → Nat} {c : Nat} {lo ou : Nat → Nat} {gA mA o : Nat} {z : Nat × Nat}
theorem dGM_g {gf mf : Nat → Int32} : (dGM D gA mA gf mf).2.2.1 gA = gf := if_pos rfl
theorem dGM_m {gf mf : Nat → Int32} (h : gA ≠ mA) : (dGM D gA mA gf mf).2.2.1 mA = mf := (if_neg (fun w => h w.symm)).trans (if_pos rfl)
theorem cpA_g {gf mf f : Nat → Int32} : cpA (dGM D gA mA gf mf) gA f = dGM D gA mA f mf := by
  unfold cpA dGM
  refine congrArg (fun q => (D.1, D.2.1, q, D.2.2.2)) (funext fun a => ?_)
  by_cases h : a = gA
  · rw [h, va_up_self, if_pos rfl]
  · rw [va_up_ne _ _ h]
    show (if a = gA then gf else if a = mA then mf else D.2.2.1 a) = _
    rw [if_neg h, if_neg h]
theorem cpA_m {gf mf f : Nat → Int32} (h : gA ≠ mA) : cpA (dGM D gA mA gf mf) mA f = dGM D gA mA gf f := by
  unfold cpA dGM
  refine congrArg (fun q => (D.1, D.2.1, q, D.2.2.2)) (funext fun a => ?_)
  by_cases h2 : a = mA
  · rw [h2, va_up_self, if_neg (fun w => h w.symm), if_pos rfl]
  · rw [va_up_ne _ _ h2]
    show (if a = gA then gf else if a = mA then mf else D.2.2.1 a) = _
    rw [if_neg h2, if_neg h2]
theorem e_rmB (hA : cAll S D z o n g root rd c lo ou) (ha : apGM S z gA mA) {x Eo : Nat} (hx : x ≤ n) (hn : n < 12) (hE : (EE g n).1 < Eo) (hEo : Eo ≤ 144) {f0 mf : Nat → Int32} (hm : mf 0 = nI (n + 1)) (hF : 1000 ≤ F) :
    ∃ f' mf', f_L_isRemoved_B F (sGM S gA mA) (dGM D gA mA f0 mf) o gA mA (nI x) (nI Eo) (nI n) = some (dGM D gA mA f' mf', 0, [1], []) ∧ mf' 0 = nI n ∧ ∀ j, j < 48 → f' j = if 4 * x ≤ j ∧ j < 4 * n then f0 (j + 4) else f0 j := by
  have hg := gm_g (S := S) (gA := gA) (mA := mA)
  have hmo := gm_m (S := S) ha.2.2.1
  have hne := ha.2.2.1
  have loop : ∀ (mf : Nat → Int32), mf 0 = nI n → ∀ (d m i : Nat) (f : Nat → Int32), i + d = 4 * n → d < m → 4 * x ≤ i → (∀ j, j < 52 → f j = if 4 * x ≤ j ∧ j < i then f0 (j + 4) else f0 j) →
      ∃ f', f_L_isRemoved_B_L26 F (sGM S gA mA) o gA mA m (dGM D gA mA f mf) (nI Eo) (nI n) (nI i) = some (dGM D gA mA f' mf, 0, [1], []) ∧ ∀ j, j < 48 → f' j = if 4 * x ≤ j ∧ j < 4 * n then f0 (j + 4) else f0 j := by
    intro mf hm d
    induction d with
    | zero =>
      intro m i f hi hd hx hf
      obtain ⟨m, rfl⟩ : ∃ q, m = q + 1 := ⟨m - 1, by omega⟩
      refine ⟨f, ?_, fun j hj => by rw [hf j (by omega), show i = 4 * n by omega]⟩
      obtain ⟨A, sg, w, rfl, hz, P⟩ := cAll_gm (cAll_dgm f mf hA ha) ha
      obtain ⟨c1, c2, c3, c4⟩ := k_counts (F := F) P
      obtain ⟨bV1, bE1⟩ := pic_V P
      have rm : ∀ {α : Type} {q : Int32 → Option α}, rdI ((sGM S gA mA).2.2.2 mA) ((dGM D gA mA f mf).2.2.1 mA) 0 q = q (nI n) := fun {α} {q} => by rw [m_rd hmo, dGM_m hne, hm]
      have e4 : 4 * nI n ≤ nI i ↔ 4 * n ≤ i := by rw [ix0]; exact nI_leI (by omega) (by omega)
      rw [f_L_isRemoved_B_L26, ck_ok hmo.1, rm, if_pos (e4.mpr (by omega)), rm, if_pos rfl, ly_k P.1 0 (by decide) (by decide), k_segments P, cal_some, rm, if_pos rfl, c2, cal_some, if_neg (fun w => by have := (nI_leI (a := Eo) (b := (EE g n).1) (by omega) (by omega)).mp w; omega)]
      rfl
    | succ d ih =>
      intro m i f hi hd hx hf
      obtain ⟨m, rfl⟩ : ∃ q, m = q + 1 := ⟨m - 1, by omega⟩
      have e4 : ¬ 4 * nI n ≤ nI i := by rw [ix0, nI_leI (by omega) (by omega)]; omega
      obtain ⟨f', h1, h2⟩ := ih m (i + 1) (upd f i (f (i + 4))) (by omega) (by omega) (by omega) (fun j hj => by
        unfold upd
        by_cases hj2 : j = i
        · rw [if_pos hj2, if_pos (by omega), hf (i + 4) (by omega), if_neg (show ¬ (4 * x ≤ i + 4 ∧ i + 4 < i) by omega), hj2]
        · rw [if_neg hj2, hf j hj]
          by_cases h3 : 4 * x ≤ j ∧ j < i
          · rw [if_pos h3, if_pos (show 4 * x ≤ j ∧ j < i + 1 by omega)]
          · rw [if_neg h3, if_neg (show ¬ (4 * x ≤ j ∧ j < i + 1) by omega)])
      refine ⟨f', ?_, h2⟩
      rw [f_L_isRemoved_B_L26, ck_ok hmo.1, m_rd hmo, dGM_m hne, hm, if_neg e4, ck_ok hg.1, nI4, g_rd hg (by omega), dGM_g, ciW_at (by rw [hg.2]; omega) (by rw [hg.2]; decide), dGM_g, cpA_g, nI_1]
      exact h1
  have hm2 : (upd mf 0 (nI n)) 0 = nI n := if_pos rfl
  obtain ⟨f', h1, h2⟩ := loop (upd mf 0 (nI n)) hm2 (4 * n - 4 * x) F (4 * x) f0 (by omega) (by omega) (Nat.le_refl _) (fun j hj => by rw [if_neg (by omega)])
  refine ⟨f', _, ?_, hm2, h2⟩
  unfold f_L_isRemoved_B
  rw [ck_ok hmo.1, m_rd hmo, dGM_m hne, hm, show (0 : Int32) = nI 0 from rfl, ciW_at (by rw [hmo.2]; omega) (by rw [hmo.2]; decide), dGM_m hne, cpA_m hne, nI_sb (by omega), ix0, Nat.add_sub_cancel]
  exact h1
end RM0
set_option maxRecDepth 100000 in
set_option maxHeartbeats 4000000 in
theorem x_isRemoved (l : Launch) (hfl : l.stackTraces = false) (G : cG) (S : CS) (z : Nat × Nat) (D : CD) (o gA mA n x : Nat) (g : Nat → Sg) (h : lSt S D z o gA mA n g) (hx : x < n) : lKI l yL_isRemoved wL_isRemoved ({ frames := 11, cells := 0, slots := 0, locals := 430 }) G S gA mA z [.ref o, .ref gA, .ref mA, .int (nI x)] D 0 0 1 (fun S2 D2 => lSt S2 D2 z o gA mA (n - 1) (rmG x g)) := by
  obtain ⟨hgo, hn, ⟨root, rd, cc0, lo, ou, hA⟩, hap, hrow, hm0⟩ := h
  have hA0 := hA
  obtain ⟨r2, rd2, c2, lo2, ou2, hFH⟩ := FH_ex (gOk_rm (x := x) hgo) (show n - 1 ≤ 12 by omega)
  have hrem := i_remove l G 1000 (Nat.le_refl _) S z D o n x hA hx hFH
  obtain ⟨A, sg, w, rfl, hz, P⟩ := hA
  have ho := P.1.1 0 (by decide) (by decide)
  have PT := cPic_gm hz P hap
  obtain ⟨k1, k2, k3, k4⟩ := k_counts (F := 1000) PT
  obtain ⟨bV1, bE1⟩ := pic_V PT
  have hlt := rm_edges hgo hx
  refine kBody (cc := cL_isRemoved) (maxL := 7) (ret := some .boolean) (by decide) rfl rfl ?_
  intro sz p e s m below meth c hC hv
  have hx0 := hC.1
  have hb := hC.2.1
  have hts := hC.2.2.2.1
  have hvr := lPr_of hv
  refine g_entry (Nat.le_of_ble_eq_true rfl) (fun ls hl => ?_)
  have hl : lv_has ls 7 [(0, .ref (A 0)), (1, .ref gA), (2, .ref mA), (3, .int (nI x))] := hl
  refine r_L_isRemoved_A hfl 1000 (A 0) gA mA hC hvr (Nat.le_of_ble_eq_true rfl) (Nat.le_of_ble_eq_true rfl) D D (nI x) 0 [nI x, nI (EE g n).1] [] hv.1.1.2.1 va_S.rf hl (by
    unfold f_L_isRemoved_A
    rw [ly_k PT.1 0 (by decide) (by decide), k2, cal_some]) ?_
  intro H locs ls x3 x4 _ e1 _ hP hS hl
  obtain ⟨rfl, e2⟩ := List.cons.inj e1
  obtain ⟨rfl, -⟩ := List.cons.inj e2
  refine lv_aload_n hx0 hb dL_isRemoved_6 rfl (lv_at hl 0 rfl) ?_
  refine lv_iconst (v := 0) hx0 hb dL_isRemoved_7 (by decide) ?_
  refine lv_iload_n hx0 hb dL_isRemoved_8 rfl (lv_at hl 3 rfl) ?_
  refine g_SK (As := [.ref (A 0), .int 0, .int (nI x)]) (rest := []) (mc := 0) (ms := 0) hC ⟨hap.1, hap.2.1, hap.2.2.1⟩ hvr hP hS (x_rem l G S z D (A 0) (nI x) (nI (n - 1)) _ ho.1 ho.2 hrem) (vx_cwSW 3 hts (gSX wa_237 wa_238 wa_233 wa_147) rfl rfl rfl (by decide +kernel) ⟨Nat.le_of_ble_eq_true rfl, Nat.le_of_ble_eq_true rfl⟩) rfl hl.1 rfl (Nat.le_of_ble_eq_true rfl) dL_isRemoved_9 ⟨Nat.le_of_ble_eq_true rfl, Nat.le_of_ble_eq_true rfl⟩ ?_
  intro S2 D2 H1 locs1 hA2 g2 m2 hG hP2 hS2
  have hap2 := apGM_gr (G := G) hap g2 m2
  obtain ⟨f', mf', q1, q2, q3⟩ := e_rmB (F := 1000) hA2 hap2 (x := x) (Eo := (EE g n).1) (f0 := D.2.2.1 gA) (mf := D.2.2.1 mA) (by omega) (by omega) hlt (by omega) (by rw [hm0]; congr 1; omega) (Nat.le_refl _)
  have hC2 := cC_to hC hG.2.2
  rw [← cA_gr hG] at hS2
  refine r_L_isRemoved_B hfl 1000 (A 0) gA mA hC2 (by rw [cA_gr hG]; exact hvr) (Nat.le_of_ble_eq_true rfl) (Nat.le_of_ble_eq_true rfl) _ _ (nI x) (nI (EE g n).1) (nI (n - 1)) 0 [1] [] hP2 hS2 hl q1 ?_
  intro pc H3 locs3 ls3 s0 hdg _ e3 _ hP3 hS3 h01
  obtain ⟨rfl, -⟩ := List.cons.inj e3
  rw [cA_gr hG] at hS3
  refine g_zretK (r := 1) (mc := 0) (ms := 0) (Rl := fun S2 D2 => lSt S2 D2 z (A 0) gA mA (n - 1) (rmG x g)) hC hP3 hS3 h01 rfl ?_ hG (Nat.le_of_ble_eq_true rfl) (Nat.le_of_ble_eq_true rfl) hdg
  refine ⟨gOk_rm hgo, by omega, ⟨r2, rd2, c2, lo2, ou2, cAll_dgm _ _ hA2 hap2⟩, hap2, fun i hi => ?_, by rw [dGM_m hap2.2.2.1]; exact q2⟩
  rw [dGM_g, q3 (4 * i) (by omega), q3 (4 * i + 1) (by omega), q3 (4 * i + 2) (by omega), q3 (4 * i + 3) (by omega)]
  unfold rmG
  by_cases hi2 : i < x
  · rw [if_neg (show ¬ (4 * x ≤ 4 * i ∧ 4 * i < 4 * (n - 1)) by omega), if_neg (show ¬ (4 * x ≤ 4 * i + 1 ∧ 4 * i + 1 < 4 * (n - 1)) by omega), if_neg (show ¬ (4 * x ≤ 4 * i + 2 ∧ 4 * i + 2 < 4 * (n - 1)) by omega), if_neg (show ¬ (4 * x ≤ 4 * i + 3 ∧ 4 * i + 3 < 4 * (n - 1)) by omega), if_pos hi2]
    exact hrow i (by omega)
  · rw [if_pos (show 4 * x ≤ 4 * i ∧ 4 * i < 4 * (n - 1) by omega), if_pos (show 4 * x ≤ 4 * i + 1 ∧ 4 * i + 1 < 4 * (n - 1) by omega), if_pos (show 4 * x ≤ 4 * i + 2 ∧ 4 * i + 2 < 4 * (n - 1) by omega), if_pos (show 4 * x ≤ 4 * i + 3 ∧ 4 * i + 3 < 4 * (n - 1) by omega), if_neg hi2]
    exact hrow (i + 1) (by omega)
