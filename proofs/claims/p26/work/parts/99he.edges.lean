/-! ### Edges along their segments, degrees, sums -/
def nsm (f : Nat → Nat) : Nat → Nat
  | 0 => 0
  | k + 1 => nsm f k + f k
theorem nsm_cnt (f : Nat → Nat) (N : Nat) : ∀ K, nsm (fun k => cnt (fun s => decide (f s = k)) N) K = cnt (fun s => decide (f s < K)) N := by
  intro K
  induction K with
  | zero =>
    show 0 = _
    rw [cnt_0.mpr (fun i _ => decide_eq_false (Nat.not_lt_zero _))]
  | succ K ih =>
    show nsm _ K + _ = _
    rw [ih, ← cnt_or (fun s _ h1 => decide_eq_false (by have := of_decide_eq_true h1; omega))]
    refine cnt_congr (fun s _ => ?_)
    by_cases z : f s < K
    · rw [decide_eq_true z, decide_eq_true (show f s < K + 1 by omega)]; rfl
    · rw [decide_eq_false z, Bool.false_or]
      exact decide_eq_decide.mpr (by omega)
theorem nsm_all {f : Nat → Nat} {N K : Nat} (h : ∀ s, s < N → f s < K) : nsm (fun k => cnt (fun s => decide (f s = k)) N) K = N := by
  rw [nsm_cnt, cnt_congr (Q := fun _ => true) (fun s hs => decide_eq_true (h s hs)), cnt_true]
theorem cnt_split (P Q : Nat → Bool) (N : Nat) : cnt P N = cnt (fun i => P i && Q i) N + cnt (fun i => P i && !Q i) N := by
  rw [← cnt_or (fun s _ h1 => by rw [(Bool.and_eq_true_iff.mp h1).2, Bool.not_true, Bool.and_false])]
  refine cnt_congr (fun s _ => ?_)
  cases P s <;> cases Q s <;> rfl
theorem cnt_le_imp {P Q : Nat → Bool} {N : Nat} (h : ∀ i, i < N → P i = true → Q i = true) : cnt P N ≤ cnt Q N :=
  cnt_into (fun i => i) (fun i hi hp => ⟨hi, h i hi hp⟩) (fun _ _ _ _ _ _ w => w)
section EDG
variable {n : Nat} {g : Nat → Sg} {q : ES}
theorem vx_on (hg : gOk n g) {v : Nat} (hv : v < (vI g n).1) : ∃ i, i < n ∧ onB (g i) ((vI g n).2 v) = true := by
  obtain ⟨i, hi, h⟩ := (vI_mem n).mp ⟨v, hv, rfl⟩
  refine ⟨i, hi, onB_iff.mpr ?_⟩
  rcases h with h | h | ⟨k, hk, h1, h2, h3⟩
  · rw [h]; exact onS_s (hg.1 i hi)
  · rw [h]; exact onS_e (hg.1 i hi)
  · rw [h3]; exact (meet_on (hg.1 i hi) (hg.1 k (by omega)) h1 h2).1
theorem seg_next (hg : gOk n g) (hE : EOk g (vI g n).2 n (vI g n).1 q) {i v : Nat} (hi : i < n) (hv : v < (vI g n).1) (ho : onB (g i) ((vI g n).2 v) = true) (hne : (vI g n).2 v ≠ pE (g i)) : ∃ e, e < q.1 ∧ eS q e = i ∧ eF q e = v := by
  have hs := (vI_good hg.1 n (Nat.le_refl _)).1
  obtain ⟨b, hb, hb2⟩ := (vI_mem (g := g) (p := pE (g i)) n).mpr ⟨i, hi, Or.inr (Or.inl rfl)⟩
  have pb : onB (g i) ((vI g n).2 b) = true := onB_iff.mpr (by rw [hb2]; exact onS_e (hg.1 i hi))
  have h3 := ((onS_iff (hg.1 i hi) _).mp (onB_iff.mp ho)).2.2
  have hvb : v < b := by
    rcases Nat.lt_trichotomy v b with z | z | z
    · exact z
    · subst z; exact absurd hb2 hne
    · have := hs b v z hv
      rw [hb2] at this
      exact absurd this h3
  obtain ⟨x, ⟨x1, x2, x3⟩, x4⟩ := pk_least (fun x => v < x ∧ x < (vI g n).1 ∧ onB (g i) ((vI g n).2 x) = true) ⟨b, hvb, hb, pb⟩
  obtain ⟨e, e1, e2⟩ := hE.2.1 i v x hi x2 ⟨x1, ho, x3, fun k k1 k2 => by
    cases hk : onB (g i) ((vI g n).2 k)
    · rfl
    · exact absurd ⟨k1, by omega, hk⟩ (x4 k k2)⟩
  exact ⟨e, e1, by unfold eS; rw [e2], by unfold eF; rw [e2]⟩
theorem seg_prev (hg : gOk n g) (hE : EOk g (vI g n).2 n (vI g n).1 q) {i v : Nat} (hi : i < n) (hv : v < (vI g n).1) (ho : onB (g i) ((vI g n).2 v) = true) (hne : (vI g n).2 v ≠ pS (g i)) : ∃ e, e < q.1 ∧ eS q e = i ∧ eT q e = v := by
  have hs := (vI_good hg.1 n (Nat.le_refl _)).1
  obtain ⟨b, hb, hb2⟩ := (vI_mem (g := g) (p := pS (g i)) n).mpr ⟨i, hi, Or.inl rfl⟩
  have pb : onB (g i) ((vI g n).2 b) = true := onB_iff.mpr (by rw [hb2]; exact onS_s (hg.1 i hi))
  have h3 := ((onS_iff (hg.1 i hi) _).mp (onB_iff.mp ho)).2.1
  have hvb : b < v := by
    rcases Nat.lt_trichotomy v b with z | z | z
    · have := hs v b z hb
      rw [hb2] at this
      exact absurd this h3
    · subst z; exact absurd hb2 hne
    · exact z
  obtain ⟨d, ⟨d1, d2, d3⟩, d4⟩ := pk_least (fun d => 0 < d ∧ d ≤ v ∧ onB (g i) ((vI g n).2 (v - d)) = true) ⟨v - b, by omega, by omega, by rw [show v - (v - b) = b by omega]; exact pb⟩
  obtain ⟨e, e1, e2⟩ := hE.2.1 i (v - d) v hi hv ⟨by omega, d3, ho, fun k k1 k2 => by
    cases hk : onB (g i) ((vI g n).2 k)
    · rfl
    · exact absurd ⟨by omega, by omega, by rw [show v - (v - k) = k by omega]; exact hk⟩ (d4 (v - k) (by omega))⟩
  exact ⟨e, e1, by unfold eS; rw [e2], by unfold eT; rw [e2]⟩
theorem edge_ne (hg : gOk n g) (hE : EOk g (vI g n).2 n (vI g n).1 q) {e : Nat} (he : e < q.1) : (vI g n).2 (eF q e) ≠ pE (g (eS q e)) ∧ (vI g n).2 (eT q e) ≠ pS (g (eS q e)) := by
  obtain ⟨p1, p2, p3, p4⟩ := e_pts hg hE he
  have h2 := ((onS_iff p1 _).mp p2).2
  have h3 := ((onS_iff p1 _).mp p3).2
  constructor
  · intro w
    rw [show pF g n q e = pE (g (eS q e)) from w] at p4
    exact h3.2 p4
  · intro w
    rw [show pT g n q e = pS (g (eS q e)) from w] at p4
    exact h2.1 p4
theorem deg_F (hg : gOk n g) (hE : EOk g (vI g n).2 n (vI g n).1 q) {v : Nat} (hv : v < (vI g n).1) : cnt (fun e => decide (eF q e = v)) q.1 = cnt (fun i => onB (g i) ((vI g n).2 v) && !decide ((vI g n).2 v = pE (g i))) n := by
  refine Nat.le_antisymm (cnt_into (fun e => eS q e) (fun e he hp => ?_) (fun e e' he he' hp hp' w => ?_)) (cnt_into (fun i => Classical.epsilon (fun e => e < q.1 ∧ eS q e = i ∧ eF q e = v)) (fun i hi hp => ?_) (fun i j hi hj hp hp' w => ?_))
  · have hp := of_decide_eq_true hp
    have h1 := (hE.1 e he).2.2.2.1
    have h2 := (edge_ne hg hE he).1
    rw [hp] at h1 h2
    refine ⟨(hE.1 e he).1, ?_⟩
    rw [h1, decide_eq_false h2]; rfl
  · exact hE.uniq he he' w ((of_decide_eq_true hp).trans (of_decide_eq_true hp').symm)
  · rw [Bool.and_eq_true, Bool.not_eq_true', decide_eq_false_iff_not] at hp
    have hz := Classical.epsilon_spec (seg_next hg hE hi hv hp.1 hp.2)
    exact ⟨hz.1, decide_eq_true hz.2.2⟩
  · rw [Bool.and_eq_true, Bool.not_eq_true', decide_eq_false_iff_not] at hp hp'
    have hz := Classical.epsilon_spec (seg_next hg hE hi hv hp.1 hp.2)
    have hz' := Classical.epsilon_spec (seg_next hg hE hj hv hp'.1 hp'.2)
    have w : Classical.epsilon (fun e => e < q.1 ∧ eS q e = i ∧ eF q e = v) = Classical.epsilon (fun e => e < q.1 ∧ eS q e = j ∧ eF q e = v) := w
    rw [← hz.2.1, ← hz'.2.1, w]
theorem deg_T (hg : gOk n g) (hE : EOk g (vI g n).2 n (vI g n).1 q) {v : Nat} (hv : v < (vI g n).1) : cnt (fun e => decide (eT q e = v)) q.1 = cnt (fun i => onB (g i) ((vI g n).2 v) && !decide ((vI g n).2 v = pS (g i))) n := by
  refine Nat.le_antisymm (cnt_into (fun e => eS q e) (fun e he hp => ?_) (fun e e' he he' hp hp' w => ?_)) (cnt_into (fun i => Classical.epsilon (fun e => e < q.1 ∧ eS q e = i ∧ eT q e = v)) (fun i hi hp => ?_) (fun i j hi hj hp hp' w => ?_))
  · have hp := of_decide_eq_true hp
    have h1 := (hE.1 e he).2.2.2.2.1
    have h2 := (edge_ne hg hE he).2
    rw [hp] at h1 h2
    refine ⟨(hE.1 e he).1, ?_⟩
    rw [h1, decide_eq_false h2]; rfl
  · exact hE.uniqT he he' w ((of_decide_eq_true hp).trans (of_decide_eq_true hp').symm)
  · rw [Bool.and_eq_true, Bool.not_eq_true', decide_eq_false_iff_not] at hp
    have hz := Classical.epsilon_spec (seg_prev hg hE hi hv hp.1 hp.2)
    exact ⟨hz.1, decide_eq_true hz.2.2⟩
  · rw [Bool.and_eq_true, Bool.not_eq_true', decide_eq_false_iff_not] at hp hp'
    have hz := Classical.epsilon_spec (seg_prev hg hE hi hv hp.1 hp.2)
    have hz' := Classical.epsilon_spec (seg_prev hg hE hj hv hp'.1 hp'.2)
    have w : Classical.epsilon (fun e => e < q.1 ∧ eS q e = i ∧ eT q e = v) = Classical.epsilon (fun e => e < q.1 ∧ eS q e = j ∧ eT q e = v) := w
    rw [← hz.2.1, ← hz'.2.1, w]
theorem cnt_pair (P : Nat → Bool) (n : Nat) : cnt P (2 * n) = cnt (fun e => P (2 * e)) n + cnt (fun e => P (2 * e + 1)) n := by
  have h1 := zsm_cnt P (2 * n)
  have h2 := zsm_cnt (fun e => P (2 * e)) n
  have h3 := zsm_cnt (fun e => P (2 * e + 1)) n
  rw [zsm_pair, zsm_add] at h1
  have h2 : zsm (fun i => zb (P (2 * i))) n = (cnt (fun e => P (2 * e)) n : Int) := h2
  have h3 : zsm (fun i => zb (P (2 * i + 1))) n = (cnt (fun e => P (2 * e + 1)) n : Int) := h3
  omega
/-- the end or the beginning of a segment -/
def endB (s : Sg) (p : Pt) : Bool := decide (p = pS s) || decide (p = pE s)
/-- DEGREE: two for each segment through the vertex, one for each that ends there -/
theorem deg_ok (hg : gOk n g) (hE : EOk g (vI g n).2 n (vI g n).1 q) {v : Nat} (hv : v < (vI g n).1) : atC q v + cnt (fun i => endB (g i) ((vI g n).2 v)) n = 2 * cnt (fun i => onB (g i) ((vI g n).2 v)) n := by
  have h1 : atC q v = cnt (fun e => decide (eF q e = v)) q.1 + cnt (fun e => decide (eT q e = v)) q.1 := by
    unfold atC
    rw [cnt_pair]
    have e1 : cnt (fun e => decide (bg q (2 * e) = v)) q.1 = cnt (fun e => decide (eF q e = v)) q.1 := cnt_congr (fun e _ => by rw [bg_e])
    have e2 : cnt (fun e => decide (bg q (2 * e + 1) = v)) q.1 = cnt (fun e => decide (eT q e = v)) q.1 := cnt_congr (fun e _ => by rw [bg_o])
    omega
  have a1 := cnt_split (fun i => onB (g i) ((vI g n).2 v)) (fun i => decide ((vI g n).2 v = pE (g i))) n
  have a2 := cnt_split (fun i => onB (g i) ((vI g n).2 v)) (fun i => decide ((vI g n).2 v = pS (g i))) n
  have b1 : cnt (fun i => onB (g i) ((vI g n).2 v) && decide ((vI g n).2 v = pE (g i))) n = cnt (fun i => decide ((vI g n).2 v = pE (g i))) n := cnt_congr (fun i hi => by
    by_cases z : (vI g n).2 v = pE (g i)
    · have : onB (g i) ((vI g n).2 v) = true := onB_iff.mpr (by rw [z]; exact onS_e (hg.1 i hi))
      rw [this, Bool.true_and]
    · rw [decide_eq_false z, Bool.and_false])
  have b2 : cnt (fun i => onB (g i) ((vI g n).2 v) && decide ((vI g n).2 v = pS (g i))) n = cnt (fun i => decide ((vI g n).2 v = pS (g i))) n := cnt_congr (fun i hi => by
    by_cases z : (vI g n).2 v = pS (g i)
    · have : onB (g i) ((vI g n).2 v) = true := onB_iff.mpr (by rw [z]; exact onS_s (hg.1 i hi))
      rw [this, Bool.true_and]
    · rw [decide_eq_false z, Bool.and_false])
  have b3 : cnt (fun i => endB (g i) ((vI g n).2 v)) n = cnt (fun i => decide ((vI g n).2 v = pS (g i))) n + cnt (fun i => decide ((vI g n).2 v = pE (g i))) n := cnt_or (fun i hi h => decide_eq_false (fun w => sp_ne (hg.1 i hi) ((of_decide_eq_true h).symm.trans w)))
  have c1 := deg_F hg hE hv
  have c2 := deg_T hg hE hv
  omega
/-- a vertex is an end, or lies on two segments -/
theorem vx_two (hg : gOk n g) {v : Nat} (hv : v < (vI g n).1) : 0 < cnt (fun i => endB (g i) ((vI g n).2 v)) n ∨ 1 < cnt (fun i => onB (g i) ((vI g n).2 v)) n := by
  obtain ⟨i, hi, h⟩ := (vI_mem n).mp ⟨v, hv, rfl⟩
  have one : ∀ j, j < n → endB (g j) ((vI g n).2 v) = true → 0 < cnt (fun i => endB (g i) ((vI g n).2 v)) n := fun j hj hp => by
    have := cnt_one (P := fun i => endB (g i) ((vI g n).2 v)) hj hp; omega
  rcases h with h | h | ⟨k, hk, h1, h2, h3⟩
  · exact Or.inl (one i hi (by unfold endB; rw [decide_eq_true h]; rfl))
  · exact Or.inl (one i hi (by unfold endB; rw [decide_eq_true h, Bool.or_true]))
  · have hm := meet_on (hg.1 i hi) (hg.1 k (by omega)) h1 h2
    rw [← h3] at hm
    have a1 := cnt_one (P := fun i => onB (g i) ((vI g n).2 v)) hi (onB_iff.mpr hm.1)
    have a2 := cnt_one (P := fun j => onB (g j) ((vI g n).2 v) && decide (j ≠ i)) (show k < n by omega) (by
      show (onB (g k) ((vI g n).2 v) && decide (k ≠ i)) = true
      rw [onB_iff.mpr hm.2, decide_eq_true (show k ≠ i by omega)]; rfl)
    right; omega
theorem seg_has (hg : gOk n g) (hE : EOk g (vI g n).2 n (vI g n).1 q) {i : Nat} (hi : i < n) : ∃ e, e < q.1 ∧ eS q e = i := by
  obtain ⟨a, ha, ha2⟩ := (vI_mem (g := g) (p := pS (g i)) n).mpr ⟨i, hi, Or.inl rfl⟩
  obtain ⟨e, e1, e2, -⟩ := seg_next hg hE hi ha (onB_iff.mpr (by rw [ha2]; exact onS_s (hg.1 i hi))) (by rw [ha2]; exact sp_ne (hg.1 i hi))
  exact ⟨e, e1, e2⟩
theorem eS_mono (hE : EOk g (vI g n).2 n (vI g n).1 q) {e e' : Nat} (h : e ≤ e') (he : e' < q.1) : eS q e ≤ eS q e' := by
  rcases Nat.eq_or_lt_of_le h with z | z
  · rw [z]; exact Nat.le_refl _
  · rcases hE.2.2 e e' z he with w | w <;> omega
theorem edge_first (hg : gOk n g) (hE : EOk g (vI g n).2 n (vI g n).1 q) {e : Nat} (he : e < q.1) (h : e = 0 ∨ eS q (e - 1) ≠ eS q e) : (vI g n).2 (eF q e) = pS (g (eS q e)) := by
  apply Classical.byContradiction
  intro hne
  obtain ⟨x, x1, x2, x3⟩ := seg_prev hg hE (hE.1 e he).1 (eF_lt hE he).1 (hE.1 e he).2.2.2.1 hne
  have h4 := (hE.1 x x1).2.2.1
  have hlt : x < e := by
    rcases Nat.lt_trichotomy x e with z | z | z
    · exact z
    · subst z; omega
    · rcases hE.2.2 e x z x1 with w | w <;> omega
  rcases h with h | h
  · omega
  · have m1 := eS_mono hE (show x ≤ e - 1 by omega) (by omega)
    have m2 := eS_mono hE (show e - 1 ≤ e by omega) he
    omega
theorem edge_last (hg : gOk n g) (hE : EOk g (vI g n).2 n (vI g n).1 q) {e : Nat} (he : e < q.1) (h : e = q.1 - 1 ∨ eS q (e + 1) ≠ eS q e) : (vI g n).2 (eT q e) = pE (g (eS q e)) := by
  apply Classical.byContradiction
  intro hne
  obtain ⟨x, x1, x2, x3⟩ := seg_next hg hE (hE.1 e he).1 (eF_lt hE he).2 (hE.1 e he).2.2.2.2.1 hne
  have h4 := (hE.1 e he).2.2.1
  have hlt : e < x := by
    rcases Nat.lt_trichotomy x e with z | z | z
    · rcases hE.2.2 x e z he with w | w <;> omega
    · subst z; omega
    · exact z
  rcases h with h | h
  · omega
  · have m1 := eS_mono hE (show e + 1 ≤ x by omega) x1
    have m2 := eS_mono hE (show e ≤ e + 1 by omega) (by omega)
    omega
theorem edge_chain (hg : gOk n g) (hE : EOk g (vI g n).2 n (vI g n).1 q) {e : Nat} (h0 : 0 < e) (he : e < q.1) (h : eS q (e - 1) = eS q e) : eF q e = eT q (e - 1) := by
  have hlt : eF q (e - 1) < eF q e := by rcases hE.2.2 (e - 1) e (by omega) he with w | w <;> omega
  have hne : (vI g n).2 (eF q e) ≠ pS (g (eS q e)) := by
    intro w
    have o1 := (hE.1 (e - 1) (by omega)).2.2.2.1
    rw [h] at o1
    have h3 := ((onS_iff (hg.1 _ (hE.1 e he).1) _).mp (onB_iff.mp o1)).2.1
    have := (vI_good hg.1 n (Nat.le_refl _)).1 _ _ hlt (eF_lt hE he).1
    rw [w] at this
    exact h3 this
  obtain ⟨x, x1, x2, x3⟩ := seg_prev hg hE (hE.1 e he).1 (eF_lt hE he).1 (hE.1 e he).2.2.2.1 hne
  have h4 := (hE.1 x x1).2.2.1
  have hx : x < e := by
    rcases Nat.lt_trichotomy x e with z | z | z
    · exact z
    · subst z; omega
    · rcases hE.2.2 e x z x1 with w | w <;> omega
  rcases Nat.lt_or_ge x (e - 1) with z | z
  · exfalso
    have h5 : eF q x < eF q (e - 1) := by rcases hE.2.2 x (e - 1) z (by omega) with w | w <;> omega
    have h6 := (hE.1 x x1).2.2.2.2.2 (eF q (e - 1)) h5 (by omega)
    have h7 := (hE.1 (e - 1) (by omega)).2.2.2.1
    rw [h, ← x2, h6] at h7
    cases h7
  · have : x = e - 1 := by omega
    rw [← this, x3]
theorem edge_step (hg : gOk n g) (hE : EOk g (vI g n).2 n (vI g n).1 q) {e : Nat} (h0 : 0 < e) (he : e < q.1) (h : eS q (e - 1) ≠ eS q e) : eS q e = eS q (e - 1) + 1 := by
  have m := eS_mono hE (show e - 1 ≤ e by omega) he
  rcases Nat.lt_or_ge (eS q (e - 1) + 1) (eS q e) with z | z
  · exfalso
    obtain ⟨x, x1, x2⟩ := seg_has hg hE (i := eS q (e - 1) + 1) (by have := (hE.1 e he).1; omega)
    rcases Nat.lt_or_ge x e with y | y
    · have := eS_mono hE (show x ≤ e - 1 by omega) (by omega); omega
    · have := eS_mono hE y x1; omega
  · omega
theorem edge_zero (hg : gOk n g) (hE : EOk g (vI g n).2 n (vI g n).1 q) (h : 0 < q.1) : eS q 0 = 0 := by
  obtain ⟨x, x1, x2⟩ := seg_has hg hE (i := 0) (by have := (hE.1 0 h).1; omega)
  have := eS_mono hE (Nat.zero_le x) x1
  omega
theorem edge_end (hg : gOk n g) (hE : EOk g (vI g n).2 n (vI g n).1 q) (h : 0 < q.1) : eS q (q.1 - 1) + 1 = n := by
  have h1 := (hE.1 (q.1 - 1) (by omega)).1
  obtain ⟨x, x1, x2⟩ := seg_has hg hE (i := n - 1) (by omega)
  have := eS_mono hE (show x ≤ q.1 - 1 by omega) (by omega)
  omega
theorem no_edges (hg : gOk n g) (hE : EOk g (vI g n).2 n (vI g n).1 q) : q.1 = 0 ↔ n = 0 := by
  constructor
  · intro h
    apply Classical.byContradiction
    intro hn
    obtain ⟨x, x1, -⟩ := seg_has hg hE (i := 0) (by omega)
    omega
  · intro h
    apply Classical.byContradiction
    intro hq
    have := (hE.1 0 (by omega)).1
    omega
/-- each side counted at its vertex -/
theorem deg_sum (hE : EOk g (vI g n).2 n (vI g n).1 q) : nsm (fun v => atC q v) (vI g n).1 = 2 * q.1 :=
  nsm_all (f := bg q) (fun s hs => by
    have := eF_lt hE (show s / 2 < q.1 by omega)
    unfold bg
    split
    · exact this.1
    · exact this.2)
/-- coordinates of vertices -/
theorem vx_bd (hg : gOk n g) {v : Nat} (hv : v < (vI g n).1) : (0 ≤ ((vI g n).2 v).1.num ∧ ((vI g n).2 v).1.num ≤ 100 * ((vI g n).2 v).1.den) ∧ (0 ≤ ((vI g n).2 v).2.num ∧ ((vI g n).2 v).2.num ≤ 100 * ((vI g n).2 v).2.den) := by
  obtain ⟨i, hi, ho⟩ := vx_on hg hv
  obtain ⟨-, ⟨b1, b2⟩, b3, b4⟩ := onB_iff.mp ho
  obtain ⟨⟨⟨r1, r2⟩, ⟨r3, r4⟩, ⟨r5, r6⟩, r7, r8⟩, -⟩ := hg.1 i hi
  have d1 : (0 : Int) ≤ (((vI g n).2 v).1.den : Int) := Int.natCast_nonneg _
  have d2 : (0 : Int) ≤ (((vI g n).2 v).2.den : Int) := Int.natCast_nonneg _
  have m1 := Int.mul_nonneg r1 d1
  have m2 := Int.mul_le_mul_of_nonneg_right r6 d1
  refine ⟨⟨by omega, by omega⟩, ?_, ?_⟩
  · have : (0 : Int) ≤ (if sY (g i) < eY (g i) then sY (g i) else eY (g i)) * (((vI g n).2 v).2.den : Int) := Int.mul_nonneg (by split <;> omega) d2
    omega
  · have : (if sY (g i) < eY (g i) then eY (g i) else sY (g i)) * (((vI g n).2 v).2.den : Int) ≤ 100 * (((vI g n).2 v).2.den : Int) := Int.mul_le_mul_of_nonneg_right (by split <;> omega) d2
    omega
end EDG
