/-! ### the class paints one border -/
theorem xor_tw : ∀ t, t < 288 → nI t ^^^ 1 = nI (tw t) := by decide +kernel
section CPB
variable {F : Nat} {S : CS} {D : CD} {A : Nat → Nat} {N : Nat} {f : Nat → Nat}
/-- the rows that a border is painted by -/
def cPrv (D : CD) (A : Nat → Nat) (N : Nat) (f : Nat → Nat) : Prop := ∀ s, s < N → ∃ t, t < N ∧ D.2.2.1 (A 28) s = nI t ∧ f s = tw t
theorem k_count (hL : cLay S A) {fc c : Nat} (hfc : fc < 56) (hc : D.2.2.1 (A 33) fc = nI c) : f_X1_countSide F S D (A 6) (nI fc) = some (cpA D (A 33) (upd (D.2.2.1 (A 33)) fc (nI (c + 1)))) := by
  unfold f_X1_countSide
  rw [ly_k hL 6 (by decide) (by decide), ly_r hL 6 1 31 (by decide), ly_r hL 6 1 31 (by decide), ly_k hL 31 (by decide) (by decide), k_get (rw_side hL) hfc, cal_some, ly_k hL 31 (by decide) (by decide), hc, nI_1, k_set (rw_side hL) hfc, cal_some]
theorem k_pb5 (hL : cLay S A) (hN : N ≤ 288) (hpr : cPrv D A N f) (hm : ∀ x, x < N → f x < N) {a L fc c0 : Nat} (ha : a < N) (hfc : fc < 56) (hL0 : 0 < L) (hLN : L ≤ N) (hLa : itf f L a = a) (hLd : ∀ i j, i < j → j < L → itf f i a ≠ itf f j a) {r : Nat → Option Nat} (hr : ∀ i, i < L → r (itf f i a) = none) (hrv : ∀ s u, s < N → r s = some u → u < 56) (hc0 : c0 ≤ 1000000) :
    ∀ (d m i : Nat) (D1 : CD), i + d = L → d < m → cFrR A [29, 33] D D1 → (∀ s, s < N → D1.2.2.1 (A 29) s = oI (mrk f a fc i r s)) → D1.2.2.1 (A 33) fc = nI (c0 + i) → (∀ u, u ≠ fc → D1.2.2.1 (A 33) u = D.2.2.1 (A 33) u) → ∃ D2, f_X6_paintBorder_L5 F S (A 0) m D1 (nI fc) (nI (itf f i a)) (nI i) = some D2 ∧ cFrR A [29, 33] D D2 ∧ (∀ s, s < N → D2.2.2.1 (A 29) s = oI (mrk f a fc L r s)) ∧ D2.2.2.1 (A 33) fc = nI (c0 + L) ∧ ∀ u, u ≠ fc → D2.2.2.1 (A 33) u = D.2.2.1 (A 33) u := by
  intro d
  induction d with
  | zero =>
    intro m i D1 hj hm2 hf h29 h33 h33u
    obtain ⟨m, rfl⟩ : ∃ q, m = q + 1 := ⟨m - 1, by omega⟩
    have e : i = L := by omega
    subst e
    rw [f_X6_paintBorder_L5]
    by_cases z : 288 ≤ i
    · rw [if_pos (show (288 : Int32) ≤ nI i from (nI_leI (a := 288) (b := i) (by omega) (by omega)).mpr z)]
      exact ⟨D1, rfl, hf, h29, h33, h33u⟩
    · have hv : mrk f a fc i r a = some fc := by
        unfold mrk
        rw [if_pos ((vis_iff f a i a).mpr ⟨0, hL0, rfl⟩)]
      rw [if_neg (show ¬ (288 : Int32) ≤ nI i from fun w => z ((nI_leI (a := 288) (b := i) (by omega) (by omega)).mp w)), ly_k hL 0 (by decide) (by decide), ly_r hL 0 3 5 (by decide), ly_k hL 5 (by decide) (by decide), ly_r hL 5 4 24 (by decide), ly_k hL 24 (by decide) (by decide), hLa, k_get (rw_face hL) (by omega), cal_some, h29 a ha, hv, if_neg (fun w => by have := (oI_m1 (o := some fc) (fun x hx => by cases hx; omega)).mp w; cases this)]
      exact ⟨D1, rfl, hf, h29, h33, h33u⟩
  | succ d ih =>
    intro m i D1 hj hm2 hf h29 h33 h33u
    obtain ⟨m, rfl⟩ : ∃ q, m = q + 1 := ⟨m - 1, by omega⟩
    have hiL : i < L := by omega
    have hsN := itf_lt hm ha i
    have hv : mrk f a fc i r (itf f i a) = none := by
      unfold mrk
      rw [if_neg (fun w => by
        obtain ⟨j, j1, j2⟩ := (vis_iff f a i _).mp w
        exact hLd j i j1 hiL j2)]
      exact hr i hiL
    obtain ⟨t, t1, t2, t3⟩ := hpr _ hsN
    have n1 : ∀ i j, i < 124 → j < 124 → i ≠ j → A i ≠ A j := fun i j => ly_ne hL i j
    rw [f_X6_paintBorder_L5, if_neg (show ¬ (288 : Int32) ≤ nI i from fun w => by have := (nI_leI (a := 288) (b := i) (by omega) (by omega)).mp w; omega), ly_k hL 0 (by decide) (by decide), ly_r hL 0 3 5 (by decide), ly_k hL 5 (by decide) (by decide), ly_r hL 5 4 24 (by decide), ly_k hL 24 (by decide) (by decide), k_get (rw_face hL) (by omega), cal_some, h29 _ hsN, hv, if_pos (show oI none = -1 from rfl), ly_r hL 0 3 5 (by decide), ly_k hL 5 (by decide) (by decide), ly_r hL 5 4 24 (by decide), ly_k hL 24 (by decide) (by decide), k_set (rw_face hL) (by omega), cal_some, ly_r hL 0 4 6 (by decide), ly_k hL 6 (by decide) (by decide), k_count hL hfc (c := c0 + i) (by rw [cpA_n _ _ (n1 33 29 (by omega) (by omega) (by omega))]; exact h33), cal_some, ly_r hL 0 3 5 (by decide), ly_k hL 5 (by decide) (by decide), ly_r hL 5 3 23 (by decide), ly_k hL 23 (by decide) (by decide), k_get (rw_above hL) (by omega), cal_some, cpA_n _ _ (n1 28 33 (by omega) (by omega) (by omega)), cpA_n _ _ (n1 28 29 (by omega) (by omega) (by omega)), hf.row hL (j := 28) (by omega) (by decide), t2, xor_tw t (by omega), ← t3, nI_1]
    refine ih m (i + 1) _ (by omega) (by omega) (hf.trans ((cFrR.cp (r := 29) (by simp)).trans (cFrR.cp (r := 33) (by simp)))) (fun s hs => ?_) ?_ (fun u hu => ?_)
    · rw [cpA_n _ _ (n1 29 33 (by omega) (by omega) (by omega)), cpA_s]
      by_cases z : s = itf f i a
      · subst z
        rw [upI_s]
        unfold mrk
        rw [if_pos ((vis_iff f a (i + 1) _).mpr ⟨i, by omega, rfl⟩)]
        rfl
      · rw [upI_n z, h29 s hs]
        unfold mrk
        rw [vis, decide_eq_false (fun w => z w.symm), Bool.or_false]
    · rw [cpA_s, upI_s]; rfl
    · rw [cpA_s, upI_n hu, cpA_n _ _ (n1 33 29 (by omega) (by omega) (by omega))]; exact h33u u hu
end CPB
