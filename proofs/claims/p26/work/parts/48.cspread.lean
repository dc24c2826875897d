/-! ### the class lays sides around vertices: one step -/
section CSP
variable {F : Nat} {S : CS} {D : CD} {A : Nat → Nat} {nV : Nat}
theorem k_rs2 (hL : cLay S A) (h6 : D.1 (A 4) 6 = nI nV) (hnV : nV ≤ 90) :
    ∀ (d m v : Nat) (D1 : CD), v + d = nV → d < m → cFrR A [16, 17, 18, 19] D D1 → (∀ u, u < v → D1.2.2.1 (A 16) u = 0 ∧ D1.2.2.1 (A 17) u = -1 ∧ D1.2.2.1 (A 18) u = -1 ∧ D1.2.2.1 (A 19) u = nI u) → ∃ D2, f_X5_resetSides_L2 F S (A 4) m D1 (nI v) = some D2 ∧ cFrR A [16, 17, 18, 19] D D2 ∧ ∀ u, u < nV → D2.2.2.1 (A 16) u = 0 ∧ D2.2.2.1 (A 17) u = -1 ∧ D2.2.2.1 (A 18) u = -1 ∧ D2.2.2.1 (A 19) u = nI u := by
  intro d
  induction d with
  | zero =>
    intro m v D1 hj hm hf hr
    obtain ⟨m, rfl⟩ : ∃ q, m = q + 1 := ⟨m - 1, by omega⟩
    have e : v = nV := by omega
    subst e
    rw [f_X5_resetSides_L2, ly_k hL 4 (by decide) (by decide), hf.1, h6, if_pos (Int32.le_refl _)]
    exact ⟨D1, rfl, hf, hr⟩
  | succ d ih =>
    intro m v D1 hj hm hf hr
    obtain ⟨m, rfl⟩ : ∃ q, m = q + 1 := ⟨m - 1, by omega⟩
    have n1 : ∀ i j, i < 124 → j < 124 → i ≠ j → A i ≠ A j := fun i j => ly_ne hL i j
    rw [f_X5_resetSides_L2, ly_k hL 4 (by decide) (by decide), hf.1, h6, if_neg (by rw [nI_leI (by omega) (by omega)]; omega), ly_r hL 4 2 12 (by decide), ly_k hL 12 (by decide) (by decide), k_set (rw_out hL) (by omega), cal_some, ly_r hL 4 3 13 (by decide), ly_k hL 13 (by decide) (by decide), k_set (rw_low hL) (by omega), cal_some, ly_r hL 4 4 14 (by decide), ly_k hL 14 (by decide) (by decide), k_set (rw_top hL) (by omega), cal_some, ly_r hL 4 5 15 (by decide), ly_k hL 15 (by decide) (by decide), k_set (rw_root hL) (by omega), cal_some, nI_1]
    have cp : ∀ {D : CD} {r : Nat} {f : Nat → Int32}, r ∈ [16, 17, 18, 19] → cFrR A [16, 17, 18, 19] D (cpA D (A r) f) := fun h => cFrR.cp h
    refine ih m (v + 1) _ (by omega) (by omega) (hf.trans ((cp (r := 16) (by simp)).trans ((cp (r := 17) (by simp)).trans ((cp (r := 18) (by simp)).trans (cp (r := 19) (by simp)))))) (fun u hu => ?_)
    rw [cpA_n _ _ (n1 16 19 (by omega) (by omega) (by omega)), cpA_n _ _ (n1 16 18 (by omega) (by omega) (by omega)), cpA_n _ _ (n1 16 17 (by omega) (by omega) (by omega)), cpA_s,
      cpA_n _ _ (n1 17 19 (by omega) (by omega) (by omega)), cpA_n _ _ (n1 17 18 (by omega) (by omega) (by omega)), cpA_s,
      cpA_n _ _ (n1 18 19 (by omega) (by omega) (by omega)), cpA_s, cpA_s,
      cpA_n _ _ (n1 17 16 (by omega) (by omega) (by omega)), cpA_n _ _ (n1 18 17 (by omega) (by omega) (by omega)), cpA_n _ _ (n1 18 16 (by omega) (by omega) (by omega)), cpA_n _ _ (n1 19 18 (by omega) (by omega) (by omega)), cpA_n _ _ (n1 19 17 (by omega) (by omega) (by omega)), cpA_n _ _ (n1 19 16 (by omega) (by omega) (by omega))]
    by_cases z : u = v
    · subst z
      rw [upI_s, upI_s, upI_s, upI_s]
      exact ⟨rfl, rfl, rfl, rfl⟩
    · rw [upI_n z, upI_n z, upI_n z, upI_n z]
      exact hr u (by omega)
theorem k_reset (hF : 1000 ≤ F) (hL : cLay S A) (h6 : D.1 (A 4) 6 = nI nV) (hnV : nV ≤ 90) : ∃ D2, f_X5_resetSides F S D (A 4) = some D2 ∧ cFrR A [16, 17, 18, 19] D D2 ∧ ∀ u, u < nV → D2.2.2.1 (A 16) u = 0 ∧ D2.2.2.1 (A 17) u = -1 ∧ D2.2.2.1 (A 18) u = -1 ∧ D2.2.2.1 (A 19) u = nI u :=
  k_rs2 (F := F) (D := D) hL h6 hnV nV F 0 D (by omega) (by omega) cFrR.rf (fun u hu => by omega)
/-- one side more around a vertex -/
theorem k_spreadSide (hL : cLay S A) {v s c t : Nat} (hv : v < 90) (hs : s < 288) (hc : c < 1000) (h16 : D.2.2.1 (A 16) v = nI c) (h18 : c ≠ 0 → D.2.2.1 (A 18) v = nI t ∧ t < 288) :
    ∃ D2, f_X6_spreadSide F S D (A 0) (nI v) (nI s) = some D2 ∧ cFrR A [16, 17, 18, 28] D D2 ∧ D2.2.2.1 (A 16) = upd (D.2.2.1 (A 16)) v (nI (c + 1)) ∧ D2.2.2.1 (A 18) = upd (D.2.2.1 (A 18)) v (nI s) ∧ D2.2.2.1 (A 17) = (if c = 0 then upd (D.2.2.1 (A 17)) v (nI s) else D.2.2.1 (A 17)) ∧ D2.2.2.1 (A 28) = (if c = 0 then upd (D.2.2.1 (A 28)) s (nI s) else upd (upd (D.2.2.1 (A 28)) t (nI s)) s (D.2.2.1 (A 17) v)) := by
  have n1 : ∀ i j, i < 124 → j < 124 → i ≠ j → A i ≠ A j := fun i j => ly_ne hL i j
  have cp : ∀ {D : CD} {r : Nat} {f : Nat → Int32}, r ∈ [16, 17, 18, 28] → cFrR A [16, 17, 18, 28] D (cpA D (A r) f) := fun h => cFrR.cp h
  have b51 : ∀ D1 : CD, D1.2.2.1 (A 16) v = nI c → ∃ D2, f_X6_spreadSide_b51 F S (A 0) D1 (nI v) (nI s) = some D2 ∧ cFrR A [16, 17, 18, 28] D1 D2 ∧ D2.2.2.1 (A 16) = upd (D1.2.2.1 (A 16)) v (nI (c + 1)) ∧ D2.2.2.1 (A 18) = upd (D1.2.2.1 (A 18)) v (nI s) ∧ D2.2.2.1 (A 17) = D1.2.2.1 (A 17) ∧ D2.2.2.1 (A 28) = upd (D1.2.2.1 (A 28)) s (D1.2.2.1 (A 17) v) := by
    intro D1 h1
    refine ⟨cpA (cpA (cpA D1 (A 28) (upd (D1.2.2.1 (A 28)) s (D1.2.2.1 (A 17) v))) (A 18) (upd (D1.2.2.1 (A 18)) v (nI s))) (A 16) (upd (D1.2.2.1 (A 16)) v (nI (c + 1))), ?_, (cp (r := 28) (by simp)).trans ((cp (r := 18) (by simp)).trans (cp (r := 16) (by simp))), ?_, ?_, ?_, ?_⟩
    · unfold f_X6_spreadSide_b51
      rw [ly_k hL 0 (by decide) (by decide), ly_r hL 0 3 5 (by decide), ly_k hL 5 (by decide) (by decide), ly_r hL 5 3 23 (by decide), ly_r hL 0 2 4 (by decide), ly_k hL 4 (by decide) (by decide), ly_r hL 4 3 13 (by decide), ly_k hL 13 (by decide) (by decide), k_get (rw_low hL) hv, cal_some, ly_k hL 23 (by decide) (by decide), k_set (rw_above hL) hs, cal_some, ly_r hL 0 2 4 (by decide), ly_k hL 4 (by decide) (by decide), ly_r hL 4 4 14 (by decide), ly_k hL 14 (by decide) (by decide), k_set (rw_top hL) hv, cal_some, ly_r hL 0 2 4 (by decide), ly_k hL 4 (by decide) (by decide), ly_r hL 4 2 12 (by decide), ly_r hL 0 2 4 (by decide), ly_k hL 4 (by decide) (by decide), ly_r hL 4 2 12 (by decide), ly_k hL 12 (by decide) (by decide), k_get (rw_out hL) hv, cal_some, ly_k hL 12 (by decide) (by decide), k_set (rw_out hL) hv, cal_some]
      rw [cpA_n _ _ (n1 18 28 (by omega) (by omega) (by omega)), cpA_n _ _ (n1 16 18 (by omega) (by omega) (by omega)), cpA_n _ _ (n1 16 28 (by omega) (by omega) (by omega)), h1, nI_1]
    · rw [cpA_s]
    · rw [cpA_n _ _ (n1 18 16 (by omega) (by omega) (by omega)), cpA_s]
    · rw [cpA_n _ _ (n1 17 16 (by omega) (by omega) (by omega)), cpA_n _ _ (n1 17 18 (by omega) (by omega) (by omega)), cpA_n _ _ (n1 17 28 (by omega) (by omega) (by omega))]
    · rw [cpA_n _ _ (n1 28 16 (by omega) (by omega) (by omega)), cpA_n _ _ (n1 28 18 (by omega) (by omega) (by omega)), cpA_s]
  unfold f_X6_spreadSide
  rw [ly_k hL 0 (by decide) (by decide), ly_r hL 0 2 4 (by decide), ly_k hL 4 (by decide) (by decide), ly_r hL 4 2 12 (by decide), ly_k hL 12 (by decide) (by decide), k_get (rw_out hL) hv, cal_some, h16]
  have hz : nI c = 0 ↔ c = 0 := nI_eq (a := c) (b := 0) (by omega) (by decide)
  by_cases z : c = 0
  · obtain ⟨D2, e1, e2, e3, e4, e5, e6⟩ := b51 (cpA D (A 17) (upd (D.2.2.1 (A 17)) v (nI s))) (by rw [cpA_n _ _ (n1 16 17 (by omega) (by omega) (by omega))]; exact h16)
    rw [if_pos (hz.mpr z), ly_r hL 0 2 4 (by decide), ly_k hL 4 (by decide) (by decide), ly_r hL 4 3 13 (by decide), ly_k hL 13 (by decide) (by decide), k_set (rw_low hL) hv, cal_some, if_pos z, if_pos z]
    refine ⟨D2, e1, (cp (r := 17) (by simp)).trans e2, ?_, ?_, ?_, ?_⟩
    · rw [e3, cpA_n _ _ (n1 16 17 (by omega) (by omega) (by omega))]
    · rw [e4, cpA_n _ _ (n1 18 17 (by omega) (by omega) (by omega))]
    · rw [e5, cpA_s]
    · rw [e6, cpA_n _ _ (n1 28 17 (by omega) (by omega) (by omega)), cpA_s, upI_s]
  · obtain ⟨t1, t2⟩ := h18 z
    obtain ⟨D2, e1, e2, e3, e4, e5, e6⟩ := b51 (cpA D (A 28) (upd (D.2.2.1 (A 28)) t (nI s))) (by rw [cpA_n _ _ (n1 16 28 (by omega) (by omega) (by omega))]; exact h16)
    rw [if_neg (fun w => z (hz.mp w)), ly_r hL 0 3 5 (by decide), ly_k hL 5 (by decide) (by decide), ly_r hL 5 3 23 (by decide), ly_r hL 0 2 4 (by decide), ly_k hL 4 (by decide) (by decide), ly_r hL 4 4 14 (by decide), ly_k hL 14 (by decide) (by decide), k_get (rw_top hL) hv, cal_some, t1, ly_k hL 23 (by decide) (by decide), k_set (rw_above hL) t2, cal_some, if_neg z, if_neg z]
    refine ⟨D2, e1, (cp (r := 28) (by simp)).trans e2, ?_, ?_, ?_, ?_⟩
    · rw [e3, cpA_n _ _ (n1 16 28 (by omega) (by omega) (by omega))]
    · rw [e4, cpA_n _ _ (n1 18 28 (by omega) (by omega) (by omega))]
    · rw [e5, cpA_n _ _ (n1 17 28 (by omega) (by omega) (by omega))]
    · rw [e6, cpA_s, cpA_n _ _ (n1 17 28 (by omega) (by omega) (by omega))]
end CSP
