/-! ### the class joins components -/
def jn (p : Nat → Nat) (lo hi : Nat) : Nat → Nat := fun v => if p v = hi then lo else p v
section CJO
variable {F : Nat} {S : CS} {D : CD} {A : Nat → Nat} {nV : Nat} {p : Nat → Nat}
theorem k_jn2 (hL : cLay S A) (h6 : D.1 (A 4) 6 = nI nV) (hnV : nV ≤ 90) (hp : ∀ v, v < nV → p v < 1000) {lo hi : Nat} (hhi : hi < 1000) :
    ∀ (d m v : Nat) (D1 : CD), v + d = nV → d < m → cFrR A [19] D D1 → (∀ u, u < v → D1.2.2.1 (A 19) u = nI (jn p lo hi u)) → (∀ u, v ≤ u → u < nV → D1.2.2.1 (A 19) u = nI (p u)) → ∃ D2, f_X5_join_L2 F S (A 4) m D1 (nI lo) (nI hi) (nI v) = some D2 ∧ cFrR A [19] D D2 ∧ ∀ u, u < nV → D2.2.2.1 (A 19) u = nI (jn p lo hi u) := by
  intro d
  induction d with
  | zero =>
    intro m v D1 hj hm hf r1 r2
    obtain ⟨m, rfl⟩ : ∃ q, m = q + 1 := ⟨m - 1, by omega⟩
    have e : v = nV := by omega
    subst e
    rw [f_X5_join_L2, ly_k hL 4 (by decide) (by decide), hf.1, h6, if_pos (Int32.le_refl _)]
    exact ⟨D1, rfl, hf, r1⟩
  | succ d ih =>
    intro m v D1 hj hm hf r1 r2
    obtain ⟨m, rfl⟩ : ∃ q, m = q + 1 := ⟨m - 1, by omega⟩
    have hpv := hp v (by omega)
    have he : nI (p v) = nI hi ↔ p v = hi := nI_eq (by omega) (by omega)
    rw [f_X5_join_L2, ly_k hL 4 (by decide) (by decide), hf.1, h6, if_neg (by rw [nI_leI (by omega) (by omega)]; omega), ly_r hL 4 5 15 (by decide), ly_k hL 15 (by decide) (by decide), k_get (rw_root hL) (by omega), cal_some, r2 v (Nat.le_refl _) (by omega)]
    unfold f_X5_join_b31
    by_cases z : p v = hi
    · rw [if_pos (he.mpr z), ly_r hL 4 5 15 (by decide), ly_k hL 15 (by decide) (by decide), k_set (rw_root hL) (by omega), cal_some, nI_1]
      refine ih m (v + 1) _ (by omega) (by omega) (hf.trans (cFrR.cp (r := 19) (by simp))) (fun u hu => ?_) (fun u hu hu2 => ?_)
      · rw [cpA_s]
        by_cases y : u = v
        · subst y; rw [upI_s]; unfold jn; rw [if_pos z]
        · rw [upI_n y]; exact r1 u (by omega)
      · rw [cpA_s, upI_n (by omega)]; exact r2 u (by omega) hu2
    · rw [if_neg (fun w => z (he.mp w)), nI_1]
      refine ih m (v + 1) D1 (by omega) (by omega) hf (fun u hu => ?_) (fun u hu hu2 => r2 u (by omega) hu2)
      by_cases y : u = v
      · subst y; rw [r2 u (Nat.le_refl _) (by omega)]; unfold jn; rw [if_neg z]
      · exact r1 u (by omega)
theorem k_join (hF : 1000 ≤ F) (hL : cLay S A) (h6 : D.1 (A 4) 6 = nI nV) (hnV : nV ≤ 90) (hp : ∀ v, v < nV → p v < 1000) (hr : ∀ u, u < nV → D.2.2.1 (A 19) u = nI (p u)) {lo hi : Nat} (hhi : hi < 1000) :
    ∃ D2, f_X5_join F S D (A 4) (nI lo) (nI hi) = some D2 ∧ cFrR A [19] D D2 ∧ ∀ u, u < nV → D2.2.2.1 (A 19) u = nI (jn p lo hi u) :=
  k_jn2 (F := F) (D := D) hL h6 hnV hp hhi nV F 0 D (by omega) (by omega) cFrR.rf (fun u hu => by omega) (fun u _ hu => hr u hu)
end CJO
