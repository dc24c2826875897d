/-! ### the class joins all components -/
def cFrJ (A : Nat → Nat) (D D2 : CD) : Prop := D2.2.1 = D.2.1 ∧ D2.2.2.2 = D.2.2.2 ∧ (∀ b k, b ≠ A 0 ∨ k ≠ 7 → D2.1 b k = D.1 b k) ∧ ∀ b, b ≠ A 19 → D2.2.2.1 b = D.2.2.1 b
theorem cFrJ.trans {A : Nat → Nat} {D D2 D3 : CD} (h : cFrJ A D D2) (h2 : cFrJ A D2 D3) : cFrJ A D D3 := ⟨h2.1.trans h.1, h2.2.1.trans h.2.1, fun b k hb => (h2.2.2.1 b k hb).trans (h.2.2.1 b k hb), fun b hb => (h2.2.2.2 b hb).trans (h.2.2.2 b hb)⟩
theorem cFrJ.rf {A : Nat → Nat} {D : CD} : cFrJ A D D := ⟨rfl, rfl, fun _ _ _ => rfl, fun _ _ => rfl⟩
theorem cFrJ.ofR {A : Nat → Nat} {D D2 : CD} (h : cFrR A [19] D D2) : cFrJ A D D2 := ⟨h.2.1, h.2.2.1, fun b k _ => by rw [h.1], fun b hb => h.2.2.2 b (fun r hr => by
  have : r = 19 := by simpa using hr
  subst this; exact hb)⟩
theorem cFrJ.ofF {A : Nat → Nat} {D : CD} {v : Int32} : cFrJ A D (cpF D (A 0) 7 v) := ⟨rfl, rfl, fun b k hb => cpF_n _ _ hb, fun _ _ => rfl⟩
section CJP
variable {F : Nat} {S : CS} {D : CD} {A : Nat → Nat} {nV : Nat} {q : ES}
theorem k_jc13 (hF : 1000 ≤ F) (hL : cLay S A) (h6 : D.1 (A 4) 6 = nI nV) (hnV : nV ≤ 90) (hE : cE3 D A q) (hq : q.1 ≤ 144) (hw : eW q nV) :
    ∀ (d m e : Nat) (D1 : CD) (p : Nat → Nat), e + d = q.1 → d < m → cFrJ A D D1 → jInv q nV e p → (∀ u, u < nV → D1.2.2.1 (A 19) u = nI (p u)) → D1.1 (A 0) 7 = nI (cnt (fun v => decide (p v = v)) nV) → ∃ D2 p2, f_X6_joinComponents_L13 F S (A 0) m D1 (nI e) = some D2 ∧ cFrJ A D D2 ∧ jInv q nV q.1 p2 ∧ (∀ u, u < nV → D2.2.2.1 (A 19) u = nI (p2 u)) ∧ D2.1 (A 0) 7 = nI (cnt (fun v => decide (p2 v = v)) nV) := by
  intro d
  induction d with
  | zero =>
    intro m e D1 p hj hm hf hi hr hc
    obtain ⟨m, rfl⟩ : ∃ q, m = q + 1 := ⟨m - 1, by omega⟩
    have e0 : e = q.1 := by omega
    subst e0
    have h5 : D1.1 (A 5) 5 = nI q.1 := by rw [hf.2.2.1 _ _ (Or.inl (ly_ne hL 5 0 (by omega) (by omega) (by omega)))]; exact hE.1
    rw [f_X6_joinComponents_L13, ly_k hL 0 (by decide) (by decide), ly_r hL 0 3 5 (by decide), ly_k hL 5 (by decide) (by decide), h5, if_pos (Int32.le_refl _)]
    exact ⟨D1, p, rfl, hf, hi, hr, hc⟩
  | succ d ih =>
    intro m e D1 p hj hm hf hi hr hc
    obtain ⟨m, rfl⟩ : ∃ q, m = q + 1 := ⟨m - 1, by omega⟩
    have hen : e < q.1 := by omega
    obtain ⟨w1, w2⟩ := hw e hen
    have h5 : D1.1 (A 5) 5 = nI q.1 := by rw [hf.2.2.1 _ _ (Or.inl (ly_ne hL 5 0 (by omega) (by omega) (by omega)))]; exact hE.1
    have h64 : D1.1 (A 4) 6 = nI nV := by rw [hf.2.2.1 _ _ (Or.inl (ly_ne hL 4 0 (by omega) (by omega) (by omega)))]; exact h6
    have x2 : D1.2.2.1 (A 26) e = nI (eF q e) := by rw [hf.2.2.2 _ (ly_ne hL 26 19 (by omega) (by omega) (by omega))]; exact (hE.2 e hen).2.1
    have x3 : D1.2.2.1 (A 27) e = nI (eT q e) := by rw [hf.2.2.2 _ (ly_ne hL 27 19 (by omega) (by omega) (by omega))]; exact (hE.2 e hen).2.2
    have pa := hi.1 _ w1
    have pb := hi.1 _ w2
    have he : nI (p (eF q e)) = nI (p (eT q e)) ↔ p (eF q e) = p (eT q e) := nI_eq (by omega) (by omega)
    have l1 : nI (p (eT q e)) < nI (p (eF q e)) ↔ p (eT q e) < p (eF q e) := nI_ltI (by omega) (by omega)
    have l2 : nI (p (eF q e)) < nI (p (eT q e)) ↔ p (eF q e) < p (eT q e) := nI_ltI (by omega) (by omega)
    rw [f_X6_joinComponents_L13, ly_k hL 0 (by decide) (by decide), ly_r hL 0 3 5 (by decide), ly_k hL 5 (by decide) (by decide), h5, if_neg (by rw [nI_leI (by omega) (by omega)]; omega), ly_r hL 0 2 4 (by decide), ly_k hL 4 (by decide) (by decide), ly_r hL 4 5 15 (by decide), ly_r hL 0 3 5 (by decide), ly_k hL 5 (by decide) (by decide), ly_r hL 5 1 21 (by decide), ly_k hL 21 (by decide) (by decide), k_get (rw_start hL) (by omega), cal_some, ly_k hL 15 (by decide) (by decide), x2, k_get (rw_root hL) (by omega), cal_some, ly_r hL 0 2 4 (by decide), ly_k hL 4 (by decide) (by decide), ly_r hL 4 5 15 (by decide), ly_r hL 0 3 5 (by decide), ly_k hL 5 (by decide) (by decide), ly_r hL 5 2 22 (by decide), ly_k hL 22 (by decide) (by decide), k_get (rw_end hL) (by omega), cal_some, ly_k hL 15 (by decide) (by decide), x3, k_get (rw_root hL) (by omega), cal_some, hr _ w1, hr _ w2]
    unfold f_X6_joinComponents_b100
    by_cases z : p (eF q e) = p (eT q e)
    · rw [if_pos (he.mpr z), nI_1]
      refine ih m (e + 1) D1 p (by omega) (by omega) hf ⟨hi.1, hi.2.1, hi.2.2.1, fun i hi2 => ?_⟩ hr hc
      rcases Nat.lt_or_ge i e with y | y
      · exact hi.2.2.2 i y
      · have : i = e := by omega
        subst this; exact z
    · have step : ∀ lo hi' : Nat, ((lo = p (eF q e) ∧ hi' = p (eT q e)) ∨ (lo = p (eT q e) ∧ hi' = p (eF q e))) → lo < hi' → ∃ D2 p2, (cal (f_X5_join F S D1 (A 4) (nI lo) (nI hi')) fun D43 => cfW D43 (A 0) 7 ((D43.1 (A 0) 7) - 1) fun D44 => f_X6_joinComponents_L13 F S (A 0) m D44 (nI e + 1)) = some D2 ∧ cFrJ A D D2 ∧ jInv q nV q.1 p2 ∧ (∀ u, u < nV → D2.2.2.1 (A 19) u = nI (p2 u)) ∧ D2.1 (A 0) 7 = nI (cnt (fun v => decide (p2 v = v)) nV) := by
        intro lo hi' hab hlt
        obtain ⟨j1, j2⟩ := jInv_step hi hen w1 w2 hab hlt
        obtain ⟨D2, b1, b2, b3⟩ := k_join (F := F) (D := D1) hF hL h64 hnV (p := p) (fun v hv => by have := hi.1 v hv; omega) hr (lo := lo) (hi := hi') (by omega)
        rw [b1, cal_some, nI_1]
        refine ih m (e + 1) (cpF D2 (A 0) 7 _) (jn p lo hi') (by omega) (by omega) (hf.trans ((cFrJ.ofR b2).trans cFrJ.ofF)) j1 b3 ?_
        rw [cpF_s, b2.1, hc, j2, nI_zI, show (1 : Int32) = zI 1 from rfl, zI_sub, nI_zI]
        congr 1; omega
      rw [if_neg (fun w => z (he.mp w)), ly_r hL 0 2 4 (by decide), ly_k hL 4 (by decide) (by decide)]
      rcases Nat.lt_or_ge (p (eF q e)) (p (eT q e)) with y | y
      · rw [if_neg (fun w => by have := l1.mp w; omega), if_pos (l2.mpr y)]
        exact step _ _ (Or.inl ⟨rfl, rfl⟩) y
      · rw [if_pos (l1.mpr (by omega)), if_neg (fun w => by have := l2.mp w; omega)]
        exact step _ _ (Or.inr ⟨rfl, rfl⟩) (by omega)
theorem k_joinAll (hF : 1000 ≤ F) (hL : cLay S A) (h6 : D.1 (A 4) 6 = nI nV) (hnV : nV ≤ 90) (hE : cE3 D A q) (hq : q.1 ≤ 144) (hw : eW q nV) (hr : ∀ v, v < nV → D.2.2.1 (A 19) v = nI v) :
    ∃ D2 p, f_X6_joinComponents F S D (A 0) = some D2 ∧ cFrJ A D D2 ∧ rootOk q nV p ∧ (∀ u, u < nV → D2.2.2.1 (A 19) u = nI (p u)) ∧ D2.1 (A 0) 7 = nI (cnt (fun v => decide (p v = v)) nV) := by
  have hc : cnt (fun v => decide ((fun v : Nat => v) v = v)) nV = nV := by
    rw [cnt_congr (Q := fun _ => true) (fun i _ => decide_eq_true rfl), cnt_true]
  obtain ⟨D2, p, b1, b2, b3, b4, b5⟩ := k_jc13 (F := F) (D := D) hF hL h6 hnV hE hq hw q.1 F 0 (cpF D (A 0) 7 (nI nV)) (fun v => v) (by omega) (by omega) cFrJ.ofF ⟨fun v _ => Nat.le_refl _, fun _ _ => rfl, fun v _ => conn_r q v, fun i hi => by omega⟩ hr (by rw [cpF_s, hc])
  refine ⟨D2, p, ?_, b2, ⟨b3.1, b3.2.2.1, b3.2.2.2⟩, b4, b5⟩
  unfold f_X6_joinComponents cfW
  rw [ly_k hL 0 (by decide) (by decide), ly_r hL 0 2 4 (by decide), ly_k hL 4 (by decide) (by decide), h6]
  exact b1
end CJP
