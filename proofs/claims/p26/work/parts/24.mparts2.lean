/-! ### the reference's components, to their end -/
theorem mpF_s (M : MS) (k : Nat) (v : Int32) : (mpF M k v).1 k = v := va_up_self _ _ _
section MPB
variable {F : Nat} {M0 : MS} {q : ES} {nV : Nat}
theorem e_lp144 (h5 : M0.1 5 = nI nV) (hnV : nV ≤ 99) {p : Nat → Nat} (hb : ∀ v, v < nV → p v ≤ v) :
    ∀ (d m v : Nat) (M : MS), v + d = nV → d < m → mPar M nV p → mFrP M0 M → M.1 22 = nI (cnt (fun v => decide (p v = v)) v) → ∃ M2, f_laysParts_L144 F m M (nI v) = some M2 ∧ mPar M2 nV p ∧ mFrP M0 M2 ∧ M2.1 22 = nI (cnt (fun v => decide (p v = v)) nV) := by
  intro d
  induction d with
  | zero =>
    intro m v M hv hm hM hf hc
    obtain ⟨m, rfl⟩ : ∃ x, m = x + 1 := ⟨m - 1, by omega⟩
    have e : v = nV := by omega
    subst e
    refine ⟨M, ?_, hM, hf, hc⟩
    rw [f_laysParts_L144, hf.2.1 5 (by decide), h5, if_pos (Int32.le_refl _)]
  | succ d ih =>
    intro m v M hv hm hM hf hc
    obtain ⟨m, rfl⟩ : ∃ x, m = x + 1 := ⟨m - 1, by omega⟩
    have hvn : v < nV := by omega
    have hbv := hb v hvn
    rw [f_laysParts_L144, hf.2.1 5 (by decide), h5, if_neg (by rw [nI_leI (by omega) (by omega)]; omega), rdI_at (by omega) (by decide), hM v hvn]
    have step : ∀ x : Nat, x = (if p v = v then 1 else 0) → ∃ M2, f_laysParts_b172 F (f_laysParts_L144 F m) M (nI v) (nI x) (M.1 22) = some M2 ∧ mPar M2 nV p ∧ mFrP M0 M2 ∧ M2.1 22 = nI (cnt (fun v => decide (p v = v)) nV) := by
      intro x hx
      unfold f_laysParts_b172 wrF
      rw [nI_1]
      refine ih m (v + 1) (mpF M 22 (M.1 22 + nI x)) (by omega) (by omega) hM (hf.trans ⟨rfl, fun j hj => va_up_ne _ _ hj, fun _ _ => rfl⟩) ?_
      have e : cnt (fun v => decide (p v = v)) (v + 1) = cnt (fun v => decide (p v = v)) v + x := by
        rw [cnt, hx]
        by_cases z : p v = v
        · rw [if_pos z, if_pos (decide_eq_true z)]
        · rw [if_neg z, if_neg (by rw [decide_eq_false z]; decide)]
      rw [mpF_s, hc, nI_add, e]
    have hz : nI (p v) = nI v ↔ p v = v := nI_eq (by omega) (by omega)
    by_cases z : p v = v
    · rw [if_pos (hz.mpr z)]; exact step 1 (by rw [if_pos z])
    · rw [if_neg (fun y => z (hz.mp y))]; exact step 0 (by rw [if_neg z])
theorem e_lp25 (hF : 20000 ≤ F) (hE : mEdg M0 q) (hw : eW q nV) (hq : q.1 ≤ 158) (hnV : nV ≤ 99) (h5 : M0.1 5 = nI nV) :
    ∀ (S m : Nat) (M : MS) (p : Nat → Nat), sm p nV ≤ S → S + 1 < m → mPar M nV p → mFrP M0 M → pInv q nV p → ∃ M2 p2, f_laysParts_L25 F m M 1 = some M2 ∧ rootOk q nV p2 ∧ mPar M2 nV p2 ∧ mFrP M0 M2 ∧ M2.1 22 = nI (cnt (fun v => decide (p2 v = v)) nV) := by
  intro S
  induction S using Nat.strongRecOn with
  | _ S ih =>
    intro m M p hS hm hM hf hp
    obtain ⟨m, rfl⟩ : ∃ x, m = x + 1 := ⟨m - 1, by omega⟩
    rw [f_laysParts_L25, if_neg (by decide)]
    obtain ⟨M2, g1, g2, g3⟩ := e_lp33 (F := F) hE hw hq hnV (f_laysParts_L25 F m) hp q.1 F 0 M (by omega) (by omega) hM hf
    have g3 : f_laysParts_L33 F (f_laysParts_L25 F m) F M 0 0 = f_laysParts_L25 F m M2 (bI (pP q p q.1).2) := g3
    rw [g3]
    obtain ⟨i1, i2, i3, i4⟩ := pP_facts hw hp q.1 (Nat.le_refl _)
    cases hfl : (pP q p q.1).2
    · obtain ⟨j1, j2⟩ := i4 hfl
      rw [j1] at g1
      obtain ⟨m, rfl⟩ : ∃ x, m = x + 1 := ⟨m - 1, by omega⟩
      rw [show bI false = 0 from rfl, f_laysParts_L25, if_pos rfl]
      unfold wrF
      have hf2 : mFrP M0 (mpF M2 22 0) := g2.trans ⟨rfl, fun j hj => va_up_ne _ _ hj, fun _ _ => rfl⟩
      obtain ⟨M3, k1, k2, k3, k4⟩ := e_lp144 (F := F) h5 hnV hp.1 nV F 0 (mpF M2 22 0) (by omega) (by omega) g1 hf2 (by show va_up M2.1 22 0 22 = _; rw [va_up_self]; rfl)
      exact ⟨M3, p, k1, ⟨hp.1, hp.2, j2⟩, k2, k3, k4⟩
    · rw [show bI true = 1 from rfl]
      have hlt := i3 hfl
      exact ih (S - 1) (by omega) m M2 _ (by omega) (by omega) g1 g2 i1
theorem e_lp2 (hF : 20000 ≤ F) (hE : mEdg M0 q) (hw : eW q nV) (hq : q.1 ≤ 158) (hnV : nV ≤ 99) (h5 : M0.1 5 = nI nV) :
    ∀ (d m v : Nat) (M : MS), v + d = nV → d < m → mPar M v (fun v => v) → mFrP M0 M → ∃ M2 p2, f_laysParts_L2 F m M (nI v) = some M2 ∧ rootOk q nV p2 ∧ mPar M2 nV p2 ∧ mFrP M0 M2 ∧ M2.1 22 = nI (cnt (fun v => decide (p2 v = v)) nV) := by
  intro d
  induction d with
  | zero =>
    intro m v M hv hm hM hf
    obtain ⟨m, rfl⟩ : ∃ x, m = x + 1 := ⟨m - 1, by omega⟩
    have e : v = nV := by omega
    subst e
    rw [f_laysParts_L2, hf.2.1 5 (by decide), h5, if_pos (Int32.le_refl _)]
    have hs := sm_id v
    have hs2 : v * v ≤ 99 * 99 := Nat.mul_le_mul hnV hnV
    exact e_lp25 hF hE hw hq hnV h5 (sm (fun v => v) v) F M _ (Nat.le_refl _) (by omega) hM hf ⟨fun v _ => Nat.le_refl _, fun v _ => conn_r q v⟩
  | succ d ih =>
    intro m v M hv hm hM hf
    obtain ⟨m, rfl⟩ : ∃ x, m = x + 1 := ⟨m - 1, by omega⟩
    rw [f_laysParts_L2, hf.2.1 5 (by decide), h5, if_neg (by rw [nI_leI (by omega) (by omega)]; omega), wrI_at (by omega) (by decide), nI_1]
    refine ih m (v + 1) _ (by omega) (by omega) (fun w hw2 => ?_) (hf.trans ⟨rfl, fun _ _ => rfl, fun j hj => va_up_ne _ _ hj⟩)
    rw [mpA_10]
    by_cases z : w = v
    · rw [z]; exact upI_s
    · rw [upI_n z]; exact hM w (by omega)
theorem e_laysParts (hF : 20000 ≤ F) (hE : mEdg M0 q) (hw : eW q nV) (hq : q.1 ≤ 158) (hnV : nV ≤ 99) (h5 : M0.1 5 = nI nV) :
    ∃ M2 p2, f_laysParts F M0 = some M2 ∧ rootOk q nV p2 ∧ mPar M2 nV p2 ∧ mFrP M0 M2 ∧ M2.1 22 = nI (cnt (fun v => decide (p2 v = v)) nV) := by
  unfold f_laysParts
  exact e_lp2 hF hE hw hq hnV h5 nV F 0 M0 (by omega) (by omega) (fun v hv => by omega) ⟨rfl, fun _ _ => rfl, fun _ _ => rfl⟩
end MPB
