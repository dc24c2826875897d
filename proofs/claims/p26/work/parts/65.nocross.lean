/-! ### Edges don't cross: what lies under an edge stays under it along its whole way -/
section NCR
variable {n : Nat} {g : Nat → Sg} {q : ES}
abbrev pF (g : Nat → Sg) (n : Nat) (q : ES) (e : Nat) : Pt := (vI g n).2 (eF q e)
abbrev pT (g : Nat → Sg) (n : Nat) (q : ES) (e : Nat) : Pt := (vI g n).2 (eT q e)
abbrev gE (g : Nat → Sg) (q : ES) (e : Nat) : Sg := g (eS q e)
theorem e_pts (hg : gOk n g) (hE : EOk g (vI g n).2 n (vI g n).1 q) {e : Nat} (he : e < q.1) : sOk (gE g q e) ∧ onS (gE g q e) (pF g n q e) ∧ onS (gE g q e) (pT g n q e) ∧ ltV (pF g n q e) (pT g n q e) := by
  obtain ⟨h1, h2, h3, h4, h5, -⟩ := hE.1 e he
  exact ⟨hg.1 _ h1, onB_iff.mp h4, onB_iff.mp h5, (vI_good hg.1 n (Nat.le_refl _)).1 _ _ h3 h2⟩
/-- no vertex lies inside an edge -/
theorem ins_vtx (hg : gOk n g) (hE : EOk g (vI g n).2 n (vI g n).1 q) {e : Nat} (he : e < q.1) {p : Pt} (hp : inV (vI g n) p) (ho : onS (gE g q e) p) (h1 : ltV (pF g n q e) p) (h2 : ltV p (pT g n q e)) : False := by
  obtain ⟨a1, a2, a3, a4, a5, a6⟩ := hE.1 e he
  obtain ⟨k, hk, rfl⟩ := hp
  have hs := (vI_good hg.1 n (Nat.le_refl _)).1
  have k1 : eF q e < k := by
    rcases Nat.lt_trichotomy k (eF q e) with w | w | w
    · exact absurd (hs _ _ w (by omega)) (ltV_asymm h1)
    · subst w; exact absurd h1 (ltV_irr _)
    · exact w
  have k2 : k < eT q e := by
    rcases Nat.lt_trichotomy k (eT q e) with w | w | w
    · exact w
    · subst w; exact absurd h2 (ltV_irr _)
    · exact absurd (hs _ _ w hk) (ltV_asymm h2)
  have := a6 k k1 k2
  rw [onB_iff.mpr ho] at this
  cases this
theorem ins_two (hg : gOk n g) (hE : EOk g (vI g n).2 n (vI g n).1 q) {e j : Nat} (he : e < q.1) (hj : j < n) (hne : j ≠ eS q e) {p : Pt} (ho : onS (gE g q e) p) (ho' : onS (g j) p) (h1 : ltV (pF g n q e) p) (h2 : ltV p (pT g n q e)) : False :=
  ins_vtx hg hE he (two_vert hg (hE.1 e he).1 hj (fun w => hne w.symm) ho ho') ho h1 h2
theorem ins_edge (hg : gOk n g) (hE : EOk g (vI g n).2 n (vI g n).1 q) {e e' : Nat} (he : e < q.1) (he' : e' < q.1) (hne : e ≠ e') {p : Pt} (ho : onS (gE g q e) p) (ho' : onS (gE g q e') p) (h1 : ltV (pF g n q e) p) (h2 : ltV p (pT g n q e)) (h3 : ¬ ltV p (pF g n q e')) (h4 : ¬ ltV (pT g n q e') p) : False := by
  by_cases hs : eS q e = eS q e'
  · obtain ⟨a1, a2, a3, a4, a5, a6⟩ := hE.1 e he
    obtain ⟨b1, b2, b3, b4, b5, b6⟩ := hE.1 e' he'
    have hso := (vI_good hg.1 n (Nat.le_refl _)).1
    rcases Nat.lt_trichotomy (eF q e) (eF q e') with w | w | w
    · have : eT q e ≤ eF q e' := by
        rcases Nat.lt_or_ge (eF q e') (eT q e) with z | z
        · have := a6 _ w z
          rw [hs, b4] at this; cases this
        · exact z
      rcases Nat.lt_or_ge (eT q e) (eF q e') with z | z
      · exact h3 (ltV_trans h2 (hso _ _ z (by omega)))
      · have z2 : eT q e = eF q e' := by omega
        apply h3
        show ltV p ((vI g n).2 (eF q e'))
        rw [← z2]; exact h2
    · exact hne (hE.uniq he he' hs w)
    · have : eT q e' ≤ eF q e := by
        rcases Nat.lt_or_ge (eF q e) (eT q e') with z | z
        · have := b6 _ w z
          rw [← hs, a4] at this; cases this
        · exact z
      rcases Nat.lt_or_ge (eT q e') (eF q e) with z | z
      · exact h4 (ltV_trans (hso _ _ z (by omega)) h1)
      · have z2 : eT q e' = eF q e := by omega
        apply h4
        show ltV ((vI g n).2 (eT q e')) p
        rw [z2]; exact h1
  · exact ins_two hg hE he (hE.1 e' he').1 (fun w => hs w.symm) ho ho' h1 h2
theorem e_wide (hg : gOk n g) (hE : EOk g (vI g n).2 n (vI g n).1 q) {e : Nat} (he : e < q.1) (hd : 0 < dX (gE g q e)) : (pF g n q e).1 < (pT g n q e).1 ∧ (pF g n q e).2 = lny (gE g q e) (pF g n q e).1 ∧ (pT g n q e).2 = lny (gE g q e) (pT g n q e).1 := by
  obtain ⟨h1, h2, h3, h4⟩ := e_pts hg hE he
  have l1 := (onL_lny hd _).mp ((onS_iff h1 _).mp h2).1
  have l2 := (onL_lny hd _).mp ((onS_iff h1 _).mp h3).1
  refine ⟨?_, l1, l2⟩
  rcases h4 with w | ⟨w1, w2⟩
  · exact w
  · exfalso
    rw [l1, l2, w1] at w2
    exact Rat.lt_irrefl w2
theorem e_vert (hg : gOk n g) (hE : EOk g (vI g n).2 n (vI g n).1 q) {e : Nat} (he : e < q.1) (hd : ¬ 0 < dX (gE g q e)) : (pF g n q e).1 = (pT g n q e).1 ∧ (pF g n q e).2 < (pT g n q e).2 ∧ (dX (gE g q e) : Rat) = 0 ∧ 0 < (dY (gE g q e) : Rat) := by
  obtain ⟨h1, h2, h3, h4⟩ := e_pts hg hE he
  have l1 := ((onS_iff h1 _).mp h2).1
  have l2 := ((onS_iff h1 _).mp h3).1
  have dz := dirZ h1
  have d0 : dX (gE g q e) = 0 := by omega
  have d0' : (dX (gE g q e) : Rat) = 0 := by rw [d0]; exact Rat.intCast_zero
  have dy : (0 : Rat) < (dY (gE g q e) : Rat) := by
    have := Rat.intCast_lt_intCast.mpr (show 0 < dY (gE g q e) by omega)
    rw [Rat.intCast_zero] at this; exact this
  have dy0 : (dY (gE g q e) : Rat) ≠ 0 := fun w => by rw [w] at dy; exact Rat.lt_irrefl dy
  unfold onL at l1 l2
  rw [d0'] at l1 l2
  have m1 := (Rat.mul_eq_zero.mp (show (dY (gE g q e) : Rat) * ((pF g n q e).1 - (sX (gE g q e) : Rat)) = 0 by grind)).resolve_left dy0
  have m2 := (Rat.mul_eq_zero.mp (show (dY (gE g q e) : Rat) * ((pT g n q e).1 - (sX (gE g q e) : Rat)) = 0 by grind)).resolve_left dy0
  have e1 : (pF g n q e).1 = (pT g n q e).1 := by grind
  refine ⟨e1, ?_, d0', dy⟩
  rcases h4 with w | ⟨w1, w2⟩
  · rw [e1] at w; exact absurd w Rat.lt_irrefl
  · exact w2
/-- a point of an edge -/
theorem e_on (hg : gOk n g) (hE : EOk g (vI g n).2 n (vI g n).1 q) {e : Nat} (he : e < q.1) (hd : 0 < dX (gE g q e)) {X : Rat} (h1 : (pF g n q e).1 ≤ X) (h2 : X ≤ (pT g n q e).1) : onS (gE g q e) (X, lny (gE g q e) X) ∧ ¬ ltV (X, lny (gE g q e) X) (pF g n q e) ∧ ¬ ltV (pT g n q e) (X, lny (gE g q e) X) := by
  obtain ⟨a1, a2, a3, a4⟩ := e_pts hg hE he
  obtain ⟨w1, w2, w3⟩ := e_wide hg hE he hd
  obtain ⟨b1, b2, b3⟩ := (onS_iff a1 _).mp a2
  obtain ⟨c1, c2, c3⟩ := (onS_iff a1 _).mp a3
  have u1 : ¬ ltV (X, lny (gE g q e) X) (pF g n q e) := by
    rintro (z | ⟨z1, z2⟩)
    · have z : X < (pF g n q e).1 := z
      grind
    · have z1 : X = (pF g n q e).1 := z1
      have z2 : lny (gE g q e) X < (pF g n q e).2 := z2
      rw [w2, z1] at z2
      exact Rat.lt_irrefl z2
  have u2 : ¬ ltV (pT g n q e) (X, lny (gE g q e) X) := by
    rintro (z | ⟨z1, z2⟩)
    · have z : (pT g n q e).1 < X := z
      grind
    · have z1 : (pT g n q e).1 = X := z1
      have z2 : (pT g n q e).2 < lny (gE g q e) X := z2
      rw [w3, z1] at z2
      exact Rat.lt_irrefl z2
  exact ⟨(onS_iff a1 _).mpr ⟨(onL_lny hd _).mpr rfl, leV_tr b2 u1, leV_tr u2 c3⟩, u1, u2⟩
theorem noCross (hg : gOk n g) (hE : EOk g (vI g n).2 n (vI g n).1 q) {e e' : Nat} (he : e < q.1) (he' : e' < q.1) (hne : e ≠ e') (hd : 0 < dX (gE g q e)) (hd' : 0 < dX (gE g q e')) {lo hi : Rat} (a1 : (pF g n q e).1 ≤ lo) (a2 : hi ≤ (pT g n q e).1) (a3 : (pF g n q e').1 ≤ lo) (a4 : hi ≤ (pT g n q e').1) : ∀ X, lo < X → X < hi → lny (gE g q e) X ≠ lny (gE g q e') X := by
  intro X h1 h2 h3
  obtain ⟨o1, -, -⟩ := e_on hg hE he hd (X := X) (by grind) (by grind)
  obtain ⟨o2, o3, o4⟩ := e_on hg hE he' hd' (X := X) (by grind) (by grind)
  rw [← h3] at o2 o3 o4
  exact ins_edge hg hE he he' hne o1 o2 (Or.inl (show (pF g n q e).1 < X by grind)) (Or.inl (show X < (pT g n q e).1 by grind)) o3 o4
/-- the stretch of an edge has X: (L) just to the left of it, or to the right -/
def spB (L : Bool) (g : Nat → Sg) (n : Nat) (q : ES) (X : Rat) (e : Nat) : Bool := if L then decide ((pF g n q e).1 < X) && decide (X ≤ (pT g n q e).1) else decide ((pF g n q e).1 ≤ X) && decide (X < (pT g n q e).1)
theorem spB_L {X : Rat} {e : Nat} : spB true g n q X e = true ↔ (pF g n q e).1 < X ∧ X ≤ (pT g n q e).1 := by
  unfold spB; simp
theorem spB_R {X : Rat} {e : Nat} : spB false g n q X e = true ↔ (pF g n q e).1 ≤ X ∧ X < (pT g n q e).1 := by
  unfold spB; simp
theorem sp_wide (hg : gOk n g) (hE : EOk g (vI g n).2 n (vI g n).1 q) {L : Bool} {X : Rat} {e : Nat} (he : e < q.1) (h : spB L g n q X e = true) : 0 < dX (gE g q e) := by
  rcases Classical.em (0 < dX (gE g q e)) with z | z
  · exact z
  · have v := (e_vert hg hE he z).1
    cases L
    · have := spB_R.mp h; grind
    · have := spB_L.mp h; grind
/-- the edges under the edge e, just beside X -/
def unE (L : Bool) (g : Nat → Sg) (n : Nat) (q : ES) (e : Nat) (X : Rat) (e' : Nat) : Bool := spB L g n q X e' && lowB L (gE g q e') (gE g q e) X
def rgE (g : Nat → Sg) (n : Nat) (q : ES) (e : Nat) (X1 X2 : Rat) (u : Nat) : Bool := decide (X1 < ((vI g n).2 u).1) && decide (((vI g n).2 u).1 < X2) && decide (((vI g n).2 u).2 < lny (gE g q e) ((vI g n).2 u).1)
theorem rgE_iff {e u : Nat} {X1 X2 : Rat} : rgE g n q e X1 X2 u = true ↔ X1 < ((vI g n).2 u).1 ∧ ((vI g n).2 u).1 < X2 ∧ ((vI g n).2 u).2 < lny (gE g q e) ((vI g n).2 u).1 := by
  unfold rgE
  rw [Bool.and_eq_true, Bool.and_eq_true, decide_eq_true_eq, decide_eq_true_eq, decide_eq_true_eq, and_assoc]
theorem zb_eq {b : Bool} {P : Prop} (h : b = true ↔ P) (c : Bool) (h2 : P ↔ c = true) : zb b = zb c := by
  have : b = c := by
    rw [Bool.eq_iff_iff]; exact h.trans h2
  rw [this]
theorem low_lt (L : Bool) {t s : Sg} {X : Rat} (h : lny t X ≠ lny s X) : lowB L t s X = decide (lny t X < lny s X) := by
  unfold lowB
  rw [decide_eq_false h, Bool.false_and, Bool.or_false]
/-- nothing flows in or out under an edge -/
theorem mv_id (hg : gOk n g) (hE : EOk g (vI g n).2 n (vI g n).1 q) {e : Nat} (he : e < q.1) (hd : 0 < dX (gE g q e)) {X1 X2 : Rat} (hX : X1 < X2) (h1 : (pF g n q e).1 ≤ X1) (h2 : X2 ≤ (pT g n q e).1) {e' : Nat} (he' : e' < q.1) :
    zb (rgE g n q e X1 X2 (eF q e')) - zb (rgE g n q e X1 X2 (eT q e')) = zb (unE true g n q e X2 e') - zb (unE false g n q e X1 e') := by
  obtain ⟨p1, p2, p3, p4⟩ := e_pts hg hE he'
  by_cases hd' : 0 < dX (gE g q e')
  · obtain ⟨w1, w2, w3⟩ := e_wide hg hE he' hd'
    by_cases hee : e = e'
    · subst hee
      have r1 : rgE g n q e X1 X2 (eF q e) = false := by
        rw [Bool.eq_false_iff]; intro w
        have := (rgE_iff.mp w).1
        have h1 : ((vI g n).2 (eF q e)).1 ≤ X1 := h1
        grind
      have r2 : rgE g n q e X1 X2 (eT q e) = false := by
        rw [Bool.eq_false_iff]; intro w
        have := (rgE_iff.mp w).2.1
        have h2 : X2 ≤ ((vI g n).2 (eT q e)).1 := h2
        grind
      rw [r1, r2]
      unfold unE
      rw [lowB_irr, lowB_irr, Bool.and_false, Bool.and_false]
    · -- the stretch that both share
      by_cases ov : (pF g n q e').1 < X2 ∧ X1 < (pT g n q e').1
      · obtain ⟨ov1, ov2⟩ := ov
        obtain ⟨lo, hlo⟩ : ∃ lo, lo = if X1 < (pF g n q e').1 then (pF g n q e').1 else X1 := ⟨_, rfl⟩
        obtain ⟨hi, hhi⟩ : ∃ hi, hi = if (pT g n q e').1 < X2 then (pT g n q e').1 else X2 := ⟨_, rfl⟩
        have hlh : lo < hi := by
          rw [hlo, hhi]
          split <;> split <;> grind
        have nc := noCross hg hE he he' hee hd hd' (lo := lo) (hi := hi) (by rw [hlo]; split <;> grind) (by rw [hhi]; split <;> grind) (by rw [hlo]; split <;> grind) (by rw [hhi]; split <;> grind)
        have sw := low_sw hlh nc
        generalize hB : lowB false (gE g q e') (gE g q e) lo = B at sw
        -- an end of e' strictly between X1 and X2 is not on e
        have notOn : ∀ u, onS (gE g q e') ((vI g n).2 u) → X1 < ((vI g n).2 u).1 → ((vI g n).2 u).1 < X2 → ¬ ltV ((vI g n).2 u) (pF g n q e') → ¬ ltV (pT g n q e') ((vI g n).2 u) → ((vI g n).2 u).2 ≠ lny (gE g q e) ((vI g n).2 u).1 := by
          intro u o1 x1 x2 o3 o4 hy
          obtain ⟨o5, -, -⟩ := e_on hg hE he hd (X := ((vI g n).2 u).1) (by grind) (by grind)
          rw [← hy] at o5
          exact ins_edge hg hE he he' hee o5 o1 (Or.inl (by show (pF g n q e).1 < ((vI g n).2 u).1; grind)) (Or.inl (by show ((vI g n).2 u).1 < (pT g n q e).1; grind)) o3 o4
        have e1 : zb (rgE g n q e X1 X2 (eF q e')) = zb (decide (X1 < (pF g n q e').1) && B) := by
          congr 1
          rw [Bool.eq_iff_iff, rgE_iff, Bool.and_eq_true, decide_eq_true_eq]
          by_cases c : X1 < (pF g n q e').1
          · have hl : lo = (pF g n q e').1 := by rw [hlo, if_pos c]
            have no := notOn (eF q e') p2 c ov1 (ltV_irr _) (ltV_asymm p4)
            have no' : lny (gE g q e') (pF g n q e').1 ≠ lny (gE g q e) (pF g n q e').1 := by rw [← w2]; exact no
            rw [hl, low_lt false no', ← w2] at hB
            rw [← hB, decide_eq_true_eq]
            exact ⟨fun h => ⟨c, h.2.2⟩, fun h => ⟨c, ov1, h.2⟩⟩
          · exact ⟨fun h => absurd h.1 c, fun h => absurd h.1 c⟩
        have e2 : zb (rgE g n q e X1 X2 (eT q e')) = zb (decide ((pT g n q e').1 < X2) && B) := by
          congr 1
          rw [Bool.eq_iff_iff, rgE_iff, Bool.and_eq_true, decide_eq_true_eq]
          by_cases c : (pT g n q e').1 < X2
          · have hl : hi = (pT g n q e').1 := by rw [hhi, if_pos c]
            have no := notOn (eT q e') p3 ov2 c (ltV_asymm p4) (ltV_irr _)
            have no' : lny (gE g q e') (pT g n q e').1 ≠ lny (gE g q e) (pT g n q e').1 := by rw [← w3]; exact no
            rw [hl, low_lt true no', ← w3] at sw
            rw [sw, decide_eq_true_eq]
            exact ⟨fun h => ⟨c, h.2.2⟩, fun h => ⟨ov2, c, h.2⟩⟩
          · exact ⟨fun h => absurd h.2.1 c, fun h => absurd h.1 c⟩
        have e3 : zb (unE true g n q e X2 e') = zb (decide (X2 ≤ (pT g n q e').1) && B) := by
          congr 1
          unfold unE
          by_cases c : X2 ≤ (pT g n q e').1
          · have hl : hi = X2 := by rw [hhi, if_neg (by grind)]
            rw [hl] at sw
            rw [spB_L.mpr ⟨ov1, c⟩, decide_eq_true c, ← sw]
          · have : spB true g n q X2 e' = false := by
              rw [Bool.eq_false_iff]; intro w; exact c (spB_L.mp w).2
            rw [this, decide_eq_false c, Bool.false_and, Bool.false_and]
        have e4 : zb (unE false g n q e X1 e') = zb (decide ((pF g n q e').1 ≤ X1) && B) := by
          congr 1
          unfold unE
          by_cases c : (pF g n q e').1 ≤ X1
          · have hl : lo = X1 := by rw [hlo, if_neg (by grind)]
            rw [hl] at hB
            rw [spB_R.mpr ⟨c, ov2⟩, decide_eq_true c, hB]
          · have : spB false g n q X1 e' = false := by
              rw [Bool.eq_false_iff]; intro w; exact c (spB_R.mp w).1
            rw [this, decide_eq_false c, Bool.false_and, Bool.false_and]
        rw [e1, e2, e3, e4]
        cases B
        · simp
        · simp only [Bool.and_true]
          have k1 : decide ((pF g n q e').1 ≤ X1) = !decide (X1 < (pF g n q e').1) := by
            by_cases c : X1 < (pF g n q e').1
            · rw [decide_eq_true c, decide_eq_false (by grind)]; rfl
            · rw [decide_eq_false c, decide_eq_true (by grind)]; rfl
          have k2 : decide (X2 ≤ (pT g n q e').1) = !decide ((pT g n q e').1 < X2) := by
            by_cases c : (pT g n q e').1 < X2
            · rw [decide_eq_true c, decide_eq_false (by grind)]; rfl
            · rw [decide_eq_false c, decide_eq_true (by grind)]; rfl
          rw [k1, k2]
          cases decide (X1 < (pF g n q e').1) <;> cases decide ((pT g n q e').1 < X2) <;> rfl
      · have r1 : rgE g n q e X1 X2 (eF q e') = false := by
          rw [Bool.eq_false_iff]; intro w
          obtain ⟨c1, c2, -⟩ := rgE_iff.mp w
          exact ov ⟨c2, by have c1 : X1 < (pF g n q e').1 := c1; grind⟩
        have r2 : rgE g n q e X1 X2 (eT q e') = false := by
          rw [Bool.eq_false_iff]; intro w
          obtain ⟨c1, c2, -⟩ := rgE_iff.mp w
          exact ov ⟨by have c2 : (pT g n q e').1 < X2 := c2; grind, c1⟩
        have r3 : unE true g n q e X2 e' = false := by
          rw [Bool.eq_false_iff]; intro w
          obtain ⟨c1, c2⟩ := spB_L.mp (Bool.and_eq_true_iff.mp w).1
          exact ov ⟨c1, by grind⟩
        have r4 : unE false g n q e X1 e' = false := by
          rw [Bool.eq_false_iff]; intro w
          obtain ⟨c1, c2⟩ := spB_R.mp (Bool.and_eq_true_iff.mp w).1
          exact ov ⟨by grind, c2⟩
        rw [r1, r2, r3, r4]
  · obtain ⟨v1, v2, v3, v4⟩ := e_vert hg hE he' hd'
    have r3 : unE true g n q e X2 e' = false := by
      rw [Bool.eq_false_iff]; intro w
      exact hd' (sp_wide hg hE he' (Bool.and_eq_true_iff.mp w).1)
    have r4 : unE false g n q e X1 e' = false := by
      rw [Bool.eq_false_iff]; intro w
      exact hd' (sp_wide hg hE he' (Bool.and_eq_true_iff.mp w).1)
    have r : rgE g n q e X1 X2 (eF q e') = rgE g n q e X1 X2 (eT q e') := by
      rw [Bool.eq_iff_iff, rgE_iff, rgE_iff]
      constructor
      · rintro ⟨c1, c2, c3⟩
        have v1 : ((vI g n).2 (eF q e')).1 = ((vI g n).2 (eT q e')).1 := v1
        refine ⟨by rw [← v1]; exact c1, by rw [← v1]; exact c2, ?_⟩
        rw [← v1]
        have nn : ¬ lny (gE g q e) ((vI g n).2 (eF q e')).1 ≤ ((vI g n).2 (eT q e')).2 := by
          intro c4
          obtain ⟨o1, -, -⟩ := e_on hg hE he hd (X := (pF g n q e').1) (by show _ ≤ ((vI g n).2 (eF q e')).1; grind) (by show ((vI g n).2 (eF q e')).1 ≤ _; grind)
          obtain ⟨f1, f2, f3⟩ := (onS_iff p1 _).mp p2
          obtain ⟨t1, t2, t3⟩ := (onS_iff p1 _).mp p3
          have o2 : onS (gE g q e') ((pF g n q e').1, lny (gE g q e) (pF g n q e').1) := by
            refine (onS_iff p1 _).mpr ⟨?_, leV_tr f2 ?_, leV_tr ?_ t3⟩
            · unfold onL at f1 ⊢
              rw [v3] at f1 ⊢
              grind
            · rintro (z | ⟨z1, z2⟩)
              · exact Rat.lt_irrefl z
              · have z2 : lny (gE g q e) ((vI g n).2 (eF q e')).1 < ((vI g n).2 (eF q e')).2 := z2
                grind
            · rintro (z | ⟨z1, z2⟩)
              · have z : ((vI g n).2 (eT q e')).1 < ((vI g n).2 (eF q e')).1 := z
                grind
              · have z2 : ((vI g n).2 (eT q e')).2 < lny (gE g q e) ((vI g n).2 (eF q e')).1 := z2
                grind
          have hne : eS q e' ≠ eS q e := fun w => hd' (by unfold gE; rw [w]; exact hd)
          exact ins_two hg hE he (hE.1 e' he').1 hne o1 o2 (Or.inl (by show _ < ((vI g n).2 (eF q e')).1; grind)) (Or.inl (by show ((vI g n).2 (eF q e')).1 < _; grind))
        grind
      · rintro ⟨c1, c2, c3⟩
        have v1 : ((vI g n).2 (eF q e')).1 = ((vI g n).2 (eT q e')).1 := v1
        have v2 : ((vI g n).2 (eF q e')).2 < ((vI g n).2 (eT q e')).2 := v2
        rw [v1]
        exact ⟨c1, c2, by grind⟩
    rw [r, r3, r4]; omega
theorem mv_sum (hg : gOk n g) (hE : EOk g (vI g n).2 n (vI g n).1 q) (hk : ∀ s t, s < 2 * q.1 → t < 2 * q.1 → bg q s = bg q t → key n g q s = key n g q t → s = t) {fc : Nat → Nat} (hf : ∀ s, s < 2 * q.1 → fc (nxt n g q s) = fc s) (y : Nat) {e : Nat} (he : e < q.1) (hd : 0 < dX (gE g q e)) {X1 X2 : Rat} (hX : X1 < X2) (h1 : (pF g n q e).1 ≤ X1) (h2 : X2 ≤ (pT g n q e).1) :
    zsm (fun e' => phi fc y e' * zb (unE true g n q e X2 e')) q.1 = zsm (fun e' => phi fc y e' * zb (unE false g n q e X1 e')) q.1 := by
  have h := kir hk hf y (rgE g n q e X1 X2)
  have h2 := zsm_congr (n := q.1) (f := fun e' => phi fc y e' * (zb (rgE g n q e X1 X2 (eF q e')) - zb (rgE g n q e X1 X2 (eT q e')))) (h := fun e' => phi fc y e' * zb (unE true g n q e X2 e') - phi fc y e' * zb (unE false g n q e X1 e')) (fun e' he' => by
    show phi fc y e' * (zb (rgE g n q e X1 X2 (eF q e')) - zb (rgE g n q e X1 X2 (eT q e'))) = phi fc y e' * zb (unE true g n q e X2 e') - phi fc y e' * zb (unE false g n q e X1 e')
    rw [mv_id hg hE he hd hX h1 h2 he', Int.mul_sub])
  rw [h2, zsm_sub] at h
  omega
end NCR
