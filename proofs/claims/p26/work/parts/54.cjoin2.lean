/-! ### one join keeps what roots are -/
def jInv (q : ES) (nV e : Nat) (p : Nat → Nat) : Prop := (∀ v, v < nV → p v ≤ v) ∧ (∀ v, v < nV → p (p v) = p v) ∧ (∀ v, v < nV → conn q v (p v)) ∧ ∀ i, i < e → p (eF q i) = p (eT q i)
theorem jInv_step {q : ES} {nV e : Nat} {p : Nat → Nat} (h : jInv q nV e p) (he : e < q.1) (hF : eF q e < nV) (hT : eT q e < nV) {lo hi : Nat} (hab : (lo = p (eF q e) ∧ hi = p (eT q e)) ∨ (lo = p (eT q e) ∧ hi = p (eF q e))) (hlt : lo < hi) :
    jInv q nV (e + 1) (jn p lo hi) ∧ cnt (fun v => decide (p v = v)) nV = cnt (fun v => decide (jn p lo hi v = v)) nV + 1 := by
  obtain ⟨h1, h2, h3, h4⟩ := h
  have plo : p lo = lo := by rcases hab with ⟨a, b⟩ | ⟨a, b⟩ <;> rw [a] <;> exact h2 _ (by assumption)
  have phi : p hi = hi := by rcases hab with ⟨a, b⟩ | ⟨a, b⟩ <;> rw [b] <;> exact h2 _ (by assumption)
  have hin : hi < nV := by
    have a1 := h1 _ hF
    have a2 := h1 _ hT
    omega
  have chl : conn q hi lo := by
    have c1 := conn_e he
    have c2 := h3 _ hF
    have c3 := h3 _ hT
    rcases hab with ⟨a, b⟩ | ⟨a, b⟩
    · rw [a, b]; exact conn_t (conn_s c3) (conn_t (conn_s c1) c2)
    · rw [a, b]; exact conn_t (conn_s c2) (conn_t c1 c3)
  refine ⟨⟨fun v hv => ?_, fun v hv => ?_, fun v hv => ?_, fun i hi2 => ?_⟩, ?_⟩
  · have := h1 v hv
    unfold jn; split <;> omega
  · have e1 := h2 v hv
    unfold jn
    by_cases z : p v = hi
    · rw [if_pos z, plo, if_neg (by omega)]
    · rw [if_neg z, e1, if_neg z]
  · unfold jn
    split
    · next z => exact conn_t (h3 v hv) (by rw [z]; exact chl)
    · exact h3 v hv
  · rcases Nat.lt_or_ge i e with z | z
    · unfold jn; rw [h4 i z]
    · have e1 : i = e := by omega
      subst e1
      unfold jn
      rcases hab with ⟨a, b⟩ | ⟨a, b⟩
      · rw [if_neg (show ¬ p (eF q i) = hi by omega), if_pos b.symm, a]
      · rw [if_pos b.symm, if_neg (show ¬ p (eT q i) = hi by omega), a]
  · have hP : decide (jn p lo hi hi = hi) = false := decide_eq_false (by unfold jn; rw [if_pos phi]; omega)
    have h5 := cnt_add1 (P := fun v => decide (jn p lo hi v = v)) (Q := fun v => decide (jn p lo hi v = v) || decide (v = hi)) (x := hi) hP (fun s => rfl) nV
    rw [if_pos hin] at h5
    rw [← h5]
    refine cnt_congr (fun v hv => ?_)
    by_cases z : v = hi
    · subst z; rw [decide_eq_true phi, decide_eq_true rfl, Bool.or_true]
    · rw [decide_eq_false z, Bool.or_false]
      unfold jn
      by_cases y : p v = hi
      · rw [if_pos y, decide_eq_false (show ¬ p v = v by omega), decide_eq_false (fun w => by rw [← w, plo] at y; omega)]
      · rw [if_neg y]
