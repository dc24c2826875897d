/-! ### Components: the least vertex of each; the reference finds them -/
abbrev eF (q : ES) (e : Nat) : Nat := (q.2 e).2.1
abbrev eT (q : ES) (e : Nat) : Nat := (q.2 e).2.2
def conn (q : ES) (v w : Nat) : Prop := ∀ R : Nat → Nat → Prop, (∀ a, R a a) → (∀ a b, R a b → R b a) → (∀ a b c, R a b → R b c → R a c) → (∀ e, e < q.1 → R (eF q e) (eT q e)) → R v w
theorem conn_r (q : ES) (v : Nat) : conn q v v := fun R h _ _ _ => h v
theorem conn_s {q : ES} {v w : Nat} (h : conn q v w) : conn q w v := fun R a b c d => b _ _ (h R a b c d)
theorem conn_t {q : ES} {u v w : Nat} (h : conn q u v) (h2 : conn q v w) : conn q u w := fun R a b c d => c _ _ _ (h R a b c d) (h2 R a b c d)
theorem conn_e {q : ES} {e : Nat} (h : e < q.1) : conn q (eF q e) (eT q e) := fun R _ _ _ d => d e h
/-- each vertex' root: the least vertex of its component -/
def rootOk (q : ES) (nV : Nat) (p : Nat → Nat) : Prop := (∀ v, v < nV → p v ≤ v) ∧ (∀ v, v < nV → conn q v (p v)) ∧ ∀ e, e < q.1 → p (eF q e) = p (eT q e)
theorem root_conn {q : ES} {nV : Nat} {p : Nat → Nat} (h : rootOk q nV p) {v w : Nat} (hc : conn q v w) : p v = p w :=
  hc (fun a b => p a = p b) (fun _ => rfl) (fun _ _ h => h.symm) (fun _ _ _ h1 h2 => h1.trans h2) h.2.2
theorem root_unique {q : ES} {nV : Nat} {p p' : Nat → Nat} (h : rootOk q nV p) (h' : rootOk q nV p') {v : Nat} (hv : v < nV) : p v = p' v := by
  have a1 := root_conn h (h'.2.1 v hv)
  have a2 := root_conn h' (h.2.1 v hv)
  have b1 := h.1 (p' v) (by have := h'.1 v hv; omega)
  have b2 := h'.1 (p v) (by have := h.1 v hv; omega)
  omega
def sm (p : Nat → Nat) : Nat → Nat
  | 0 => 0
  | n + 1 => sm p n + p n
theorem sm_le {p p' : Nat → Nat} {n : Nat} (h : ∀ v, v < n → p v ≤ p' v) : sm p n ≤ sm p' n := by
  induction n with
  | zero => exact Nat.le_refl _
  | succ n ih => rw [sm, sm]; have := ih (fun v hv => h v (by omega)); have := h n (by omega); omega
theorem sm_lt {p p' : Nat → Nat} {n : Nat} (h : ∀ v, v < n → p v ≤ p' v) {v0 : Nat} (h0 : v0 < n) (h1 : p v0 < p' v0) : sm p n < sm p' n := by
  induction n with
  | zero => omega
  | succ n ih =>
    rw [sm, sm]
    rcases Nat.lt_or_ge v0 n with q | q
    · have := ih (fun v hv => h v (by omega)) q; have := h n (by omega); omega
    · have e : v0 = n := by omega
      subst e
      have := sm_le (n := v0) (fun v hv => h v (by omega)); omega
theorem sm_id (n : Nat) : sm (fun v => v) n ≤ n * n := by
  induction n with
  | zero => exact Nat.le_refl _
  | succ n ih => rw [sm, Nat.mul_succ, Nat.succ_mul]; omega
def pst (p : Nat → Nat) (u w : Nat) : Nat → Nat := fun v => if v = u ∨ v = w then min (p u) (p w) else p v
theorem pst_id {p : Nat → Nat} {u w : Nat} (h : p u = p w) : pst p u w = p := by
  funext v; unfold pst; split
  · next hv => rcases hv with rfl | rfl <;> omega
  · rfl
def pP (q : ES) (p : Nat → Nat) : Nat → (Nat → Nat) × Bool
  | 0 => (p, false)
  | e + 1 => (pst (pP q p e).1 (eF q e) (eT q e), (pP q p e).2 || decide ((pP q p e).1 (eF q e) ≠ (pP q p e).1 (eT q e)))
def eW (q : ES) (nV : Nat) : Prop := ∀ e, e < q.1 → eF q e < nV ∧ eT q e < nV
def pInv (q : ES) (nV : Nat) (p : Nat → Nat) : Prop := (∀ v, v < nV → p v ≤ v) ∧ ∀ v, v < nV → conn q v (p v)
theorem pst_le (p : Nat → Nat) (u w v : Nat) : pst p u w v ≤ p v := by
  unfold pst; split
  · next hv => rcases hv with rfl | rfl <;> omega
  · exact Nat.le_refl _
theorem pP_facts {q : ES} {nV : Nat} (hw : eW q nV) {p : Nat → Nat} (hp : pInv q nV p) : ∀ e, e ≤ q.1 → pInv q nV (pP q p e).1 ∧ (∀ v, (pP q p e).1 v ≤ p v) ∧ ((pP q p e).2 = true → sm (pP q p e).1 nV < sm p nV) ∧ ((pP q p e).2 = false → (pP q p e).1 = p ∧ ∀ e', e' < e → p (eF q e') = p (eT q e')) := by
  intro e
  induction e with
  | zero =>
    intro _
    refine ⟨hp, fun _ => Nat.le_refl _, ?_, ?_⟩
    · intro h; cases h
    · intro _; exact ⟨rfl, fun e' h => by omega⟩
  | succ e ih =>
    intro he
    obtain ⟨⟨i1, i2⟩, i3, i4, i5⟩ := ih (by omega)
    obtain ⟨w1, w2⟩ := hw e (by omega)
    have hce := conn_e (q := q) (e := e) (by omega)
    rw [pP]
    refine ⟨⟨fun v hv => Nat.le_trans (pst_le _ _ _ _) (i1 v hv), fun v hv => ?_⟩, fun v => Nat.le_trans (pst_le _ _ _ _) (i3 v), fun h => ?_, fun h => ?_⟩
    · show conn q v (pst (pP q p e).1 (eF q e) (eT q e) v)
      unfold pst
      split
      · next hv2 =>
        have c1 : conn q (eF q e) (min ((pP q p e).1 (eF q e)) ((pP q p e).1 (eT q e))) := by
          rcases Nat.le_total ((pP q p e).1 (eF q e)) ((pP q p e).1 (eT q e)) with z | z
          · rw [Nat.min_eq_left z]; exact i2 _ w1
          · rw [Nat.min_eq_right z]; exact conn_t hce (i2 _ w2)
        rcases hv2 with rfl | rfl
        · exact c1
        · exact conn_t (conn_s hce) c1
      · exact i2 v hv
    · show sm (pst (pP q p e).1 (eF q e) (eT q e)) nV < sm p nV
      by_cases z : (pP q p e).1 (eF q e) = (pP q p e).1 (eT q e)
      · rw [pst_id z]
        rw [decide_eq_false (fun w => w z), Bool.or_false] at h
        exact i4 h
      · have h1 : sm (pst (pP q p e).1 (eF q e) (eT q e)) nV < sm (pP q p e).1 nV := by
          rcases Nat.lt_or_gt_of_ne z with y | y
          · refine sm_lt (fun v _ => pst_le _ _ _ _) w2 ?_
            unfold pst; rw [if_pos (Or.inr rfl)]; omega
          · refine sm_lt (fun v _ => pst_le _ _ _ _) w1 ?_
            unfold pst; rw [if_pos (Or.inl rfl)]; omega
        have h2 := sm_le (n := nV) (fun v _ => i3 v)
        omega
    · have h := Bool.or_eq_false_iff.mp h
      obtain ⟨j1, j2⟩ := i5 h.1
      have z : (pP q p e).1 (eF q e) = (pP q p e).1 (eT q e) := by
        have := of_decide_eq_false h.2
        exact Decidable.not_not.mp this
      refine ⟨?_, fun e' he' => ?_⟩
      · show pst (pP q p e).1 (eF q e) (eT q e) = p
        rw [pst_id z, j1]
      · rcases Nat.lt_or_ge e' e with y | y
        · exact j2 e' y
        · have e2 : e' = e := by omega
          subst e2; rw [j1] at z; exact z
def mPar (M : MS) (nV : Nat) (p : Nat → Nat) : Prop := ∀ v, v < nV → M.2.1 10 v = nI (p v)
def mFrP (M M2 : MS) : Prop := M2.2.2 = M.2.2 ∧ (∀ j, j ≠ 22 → M2.1 j = M.1 j) ∧ ∀ j, j ≠ 10 → M2.2.1 j = M.2.1 j
theorem mFrP.trans {M M2 M3 : MS} (h : mFrP M M2) (h2 : mFrP M2 M3) : mFrP M M3 := ⟨h2.1.trans h.1, fun j hj => (h2.2.1 j hj).trans (h.2.1 j hj), fun j a => (h2.2.2 j a).trans (h.2.2 j a)⟩
theorem mEdg_frP {M M0 : MS} {q : ES} (h : mEdg M0 q) (hf : mFrP M0 M) : mEdg M q := ⟨(hf.2.1 11 (by decide)).trans h.1, fun i hi => by unfold mE3; rw [hf.2.2 12 (by decide), hf.2.2 13 (by decide), hf.2.2 14 (by decide)]; exact h.2 i hi⟩
theorem mpA_10 (M : MS) (f : Nat → Int32) : (mpA M 10 f).2.1 10 = f := by show va_up M.2.1 10 f 10 = _; exact va_up_self _ _ _
section MPA
variable {F : Nat} {M0 : MS} {q : ES} {nV : Nat}
theorem e_lp33 (hE : mEdg M0 q) (hw : eW q nV) (hq : q.1 ≤ 158) (hnV : nV ≤ 99) (k25 : MS → Int32 → Option MS) {p0 : Nat → Nat} (hp : pInv q nV p0) :
    ∀ (d m e : Nat) (M : MS), e + d = q.1 → d < m → mPar M nV (pP q p0 e).1 → mFrP M0 M → ∃ M2, mPar M2 nV (pP q p0 q.1).1 ∧ mFrP M0 M2 ∧ f_laysParts_L33 F k25 m M (bI (pP q p0 e).2) (nI e) = k25 M2 (bI (pP q p0 q.1).2) := by
  intro d
  induction d with
  | zero =>
    intro m e M he hm hM hf
    obtain ⟨m, rfl⟩ : ∃ x, m = x + 1 := ⟨m - 1, by omega⟩
    have e1 : e = q.1 := by omega
    subst e1
    refine ⟨M, hM, hf, ?_⟩
    rw [f_laysParts_L33, (mEdg_frP hE hf).1, if_pos (Int32.le_refl _)]
  | succ d ih =>
    intro m e M he hm hM hf
    obtain ⟨m, rfl⟩ : ∃ x, m = x + 1 := ⟨m - 1, by omega⟩
    have heq : e < q.1 := by omega
    have hEM := mEdg_frP hE hf
    obtain ⟨-, a2, a3⟩ := hEM.2 e heq
    obtain ⟨w1, w2⟩ := hw e heq
    obtain ⟨⟨i1, -⟩, -⟩ := pP_facts hw hp e (by omega)
    have b1 := hM _ w1
    have b2 := hM _ w2
    have l1 := i1 _ w1
    have l2 := i1 _ w2
    generalize hr : pP q p0 e = r at *
    have re : ∀ {M : MS} {f : Nat → Int32} {G : Int32 → Option MS}, rdI 160 f (nI e) G = G (f e) := rdI_at (by omega) (by decide)
    have tail : ∀ fl : Bool, f_laysParts_b81 F k25 (f_laysParts_L33 F k25 m) M (nI e) (nI (r.1 (eF q e))) (nI (r.1 (eT q e))) (bI fl) = f_laysParts_L33 F k25 m (mpA (mpA M 10 (upd (M.2.1 10) (eF q e) (nI (min (r.1 (eF q e)) (r.1 (eT q e)))))) 10 (upd (upd (M.2.1 10) (eF q e) (nI (min (r.1 (eF q e)) (r.1 (eT q e))))) (eT q e) (nI (min (r.1 (eF q e)) (r.1 (eT q e)))))) (bI fl) (nI (e + 1)) := by
      intro fl
      unfold f_laysParts_b81 f_laysParts_b104 f_laysParts_b127
      have t14 : ∀ f, (mpA M 10 f).2.1 14 = M.2.1 14 := fun f => by show va_up M.2.1 10 f 14 = _; exact va_up_ne _ _ (by decide)
      have t10 : ∀ f, (mpA M 10 f).2.1 10 = f := fun f => by show va_up M.2.1 10 f 10 = _; exact va_up_self _ _ _
      simp only [re (M := M), a2, a3, wrI_at (show eF q e < 100 by omega) (show 100 < 2147483648 by decide), wrI_at (show eT q e < 100 by omega) (show 100 < 2147483648 by decide), t14, t10, nI_1]
      have hle : nI (r.1 (eT q e)) ≤ nI (r.1 (eF q e)) ↔ r.1 (eT q e) ≤ r.1 (eF q e) := nI_leI (by omega) (by omega)
      by_cases z : r.1 (eT q e) ≤ r.1 (eF q e)
      · simp only [if_pos (hle.mpr z), Nat.min_eq_right z]
      · simp only [if_neg (fun y => z (hle.mp y)), Nat.min_eq_left (show r.1 (eF q e) ≤ r.1 (eT q e) by omega)]
    have hM2 : ∀ M2, M2 = mpA (mpA M 10 (upd (M.2.1 10) (eF q e) (nI (min (r.1 (eF q e)) (r.1 (eT q e)))))) 10 (upd (upd (M.2.1 10) (eF q e) (nI (min (r.1 (eF q e)) (r.1 (eT q e))))) (eT q e) (nI (min (r.1 (eF q e)) (r.1 (eT q e))))) → mPar M2 nV (pst r.1 (eF q e) (eT q e)) ∧ mFrP M M2 := by
      intro M2 hM2
      subst hM2
      refine ⟨fun v hv => ?_, rfl, fun _ _ => rfl, fun j hj => ?_⟩
      · rw [mpA_10]
        unfold pst
        by_cases z1 : v = eT q e
        · rw [if_pos (Or.inr z1), z1]; exact upI_s
        · rw [upI_n z1]
          by_cases z2 : v = eF q e
          · rw [if_pos (Or.inl z2), z2]; exact upI_s
          · rw [upI_n z2, if_neg (fun y => y.elim z2 z1)]; exact hM v hv
      · show va_up (va_up M.2.1 10 _) 10 _ j = _
        rw [va_up_ne _ _ hj, va_up_ne _ _ hj]
    obtain ⟨k1, k2⟩ := hM2 _ rfl
    have er1 : (pP q p0 (e + 1)).1 = pst r.1 (eF q e) (eT q e) := by rw [pP, hr]
    have er2 : (pP q p0 (e + 1)).2 = (r.2 || decide (r.1 (eF q e) ≠ r.1 (eT q e))) := by rw [pP, hr]
    have go := ih m (e + 1) _ (by omega) (by omega) (by rw [er1]; exact k1) (hf.trans k2)
    rw [er2] at go
    rw [f_laysParts_L33, hEM.1, if_neg (by rw [nI_leI (by omega) (by omega)]; omega)]
    simp only [re (M := M), a2, a3, rdI_at (show eF q e < 100 by omega) (show 100 < 2147483648 by decide), rdI_at (show eT q e < 100 by omega) (show 100 < 2147483648 by decide), b1, b2]
    have heq2 : nI (r.1 (eF q e)) = nI (r.1 (eT q e)) ↔ r.1 (eF q e) = r.1 (eT q e) := nI_eq (by omega) (by omega)
    cases hfl : r.2
    · rw [if_pos (show bI false = 0 from rfl)]
      rw [hfl, Bool.false_or] at go
      by_cases z : r.1 (eF q e) = r.1 (eT q e)
      · rw [if_pos (heq2.mpr z)]
        rw [decide_eq_false (fun y => y z)] at go
        have := tail false
        rw [show (0 : Int32) = bI false from rfl, this]; exact go
      · rw [if_neg (fun y => z (heq2.mp y))]
        rw [decide_eq_true z] at go
        have := tail true
        rw [show (1 : Int32) = bI true from rfl, this]; exact go
    · rw [if_neg (show ¬ bI true = 0 by decide)]
      rw [hfl, Bool.true_or] at go
      have := tail true
      rw [show (1 : Int32) = bI true from rfl, this]; exact go
end MPA
