/-! ### What is carried across the way down from a point, from a side of a vertex -/
section DWN
variable {n : Nat} {g : Nat → Sg} {q : ES}
/-- the edges under a point, just beside it -/
def unP (L : Bool) (g : Nat → Sg) (n : Nat) (q : ES) (p : Pt) (e' : Nat) : Bool := spB L g n q p.1 e' && decide (lny (gE g q e') p.1 < p.2)
/-- vertical edges that begin under a point and end there or above it -/
def vtP (g : Nat → Sg) (n : Nat) (q : ES) (p : Pt) (e' : Nat) : Bool := !decide (0 < dX (gE g q e')) && (decide ((pF g n q e').1 = p.1) && (decide ((pF g n q e').2 < p.2) && decide (p.2 ≤ (pT g n q e').2)))
def rgP (g : Nat → Sg) (n : Nat) (p : Pt) (u : Nat) : Bool := decide (((vI g n).2 u).1 = p.1) && decide (((vI g n).2 u).2 < p.2)
theorem dn_id (hg : gOk n g) (hE : EOk g (vI g n).2 n (vI g n).1 q) (p : Pt) {e' : Nat} (he' : e' < q.1) :
    zb (rgP g n p (eF q e')) - zb (rgP g n p (eT q e')) = zb (unP false g n q p e') - zb (unP true g n q p e') + zb (vtP g n q p e') := by
  by_cases hd' : 0 < dX (gE g q e')
  · obtain ⟨w1, w2, w3⟩ := e_wide hg hE he' hd'
    have r0 : vtP g n q p e' = false := by unfold vtP; rw [decide_eq_true hd']; rfl
    have r1 : rgP g n p (eF q e') = (decide ((pF g n q e').1 = p.1) && decide (lny (gE g q e') p.1 < p.2)) := by
      unfold rgP
      by_cases c : (pF g n q e').1 = p.1
      · rw [← c, ← w2]
      · rw [decide_eq_false c]; rfl
    have r2 : rgP g n p (eT q e') = (decide ((pT g n q e').1 = p.1) && decide (lny (gE g q e') p.1 < p.2)) := by
      unfold rgP
      by_cases c : (pT g n q e').1 = p.1
      · rw [← c, ← w3]
      · rw [decide_eq_false c]; rfl
    rw [r0, r1, r2]
    unfold unP spB
    generalize (pF g n q e').1 = a at *
    generalize (pT g n q e').1 = b at *
    generalize decide (lny (gE g q e') p.1 < p.2) = H
    cases H
    · simp [zb]
    · simp only [Bool.and_true, Bool.false_eq_true, if_false, if_true]
      rcases rat_tri a p.1 with c | c | c
      · rcases rat_tri b p.1 with d | d | d
        · rw [decide_eq_false (show ¬ a = p.1 by grind), decide_eq_false (show ¬ b = p.1 by grind), decide_eq_false (show ¬ p.1 < b by grind), decide_eq_false (show ¬ p.1 ≤ b by grind), Bool.and_false, Bool.and_false]; rfl
        · rw [decide_eq_false (show ¬ a = p.1 by grind), decide_eq_true d, decide_eq_false (show ¬ p.1 < b by grind), decide_eq_true (show p.1 ≤ b by grind), decide_eq_true c, Bool.and_false, Bool.and_true]; rfl
        · rw [decide_eq_false (show ¬ a = p.1 by grind), decide_eq_false (show ¬ b = p.1 by grind), decide_eq_true (show p.1 < b by grind), decide_eq_true (show p.1 ≤ b by grind), decide_eq_true c, decide_eq_true (show a ≤ p.1 by grind)]; rfl
      · rw [decide_eq_true c, decide_eq_false (show ¬ b = p.1 by grind), decide_eq_true (show a ≤ p.1 by grind), decide_eq_true (show p.1 < b by grind), decide_eq_false (show ¬ a < p.1 by grind)]; rfl
      · rw [decide_eq_false (show ¬ a = p.1 by grind), decide_eq_false (show ¬ b = p.1 by grind), decide_eq_false (show ¬ a ≤ p.1 by grind), decide_eq_false (show ¬ a < p.1 by grind)]; rfl
  · obtain ⟨v1, v2, v3, v4⟩ := e_vert hg hE he' hd'
    have r3 : unP true g n q p e' = false := by
      rw [Bool.eq_false_iff]; intro w
      exact hd' (sp_wide hg hE he' (Bool.and_eq_true_iff.mp w).1)
    have r4 : unP false g n q p e' = false := by
      rw [Bool.eq_false_iff]; intro w
      exact hd' (sp_wide hg hE he' (Bool.and_eq_true_iff.mp w).1)
    rw [r3, r4]
    unfold rgP vtP
    rw [decide_eq_false hd', show ((vI g n).2 (eT q e')).1 = (pF g n q e').1 from v1.symm]
    show zb (decide ((pF g n q e').1 = p.1) && decide ((pF g n q e').2 < p.2)) - zb (decide ((pF g n q e').1 = p.1) && decide ((pT g n q e').2 < p.2)) = _
    generalize (pF g n q e').2 = a at *
    generalize (pT g n q e').2 = b at *
    generalize decide ((pF g n q e').1 = p.1) = H
    cases H
    · simp [zb]
    · simp only [Bool.true_and, Bool.not_false]
      by_cases c : a < p.2
      · by_cases d : b < p.2
        · rw [decide_eq_true c, decide_eq_true d, decide_eq_false (show ¬ p.2 ≤ b by grind)]; rfl
        · rw [decide_eq_true c, decide_eq_false d, decide_eq_true (show p.2 ≤ b by grind)]; rfl
      · rw [decide_eq_false c, decide_eq_false (show ¬ b < p.2 by grind)]; rfl
def dwn (L : Bool) (g : Nat → Sg) (n : Nat) (q : ES) (fc : Nat → Nat) (y : Nat) (p : Pt) : Int := zsm (fun e' => phi fc y e' * zb (unP L g n q p e')) q.1
theorem dn_sum (hg : gOk n g) (hE : EOk g (vI g n).2 n (vI g n).1 q) (hk : ∀ s t, s < 2 * q.1 → t < 2 * q.1 → bg q s = bg q t → key n g q s = key n g q t → s = t) {fc : Nat → Nat} (hf : ∀ s, s < 2 * q.1 → fc (nxt n g q s) = fc s) (y : Nat) (p : Pt) :
    dwn false g n q fc y p - dwn true g n q fc y p + zsm (fun e' => phi fc y e' * zb (vtP g n q p e')) q.1 = 0 := by
  have h := kir hk hf y (rgP g n p)
  rw [← h]
  unfold dwn
  rw [← zsm_sub, ← zsm_add]
  refine zsm_congr (fun e' he' => ?_)
  show phi fc y e' * zb (unP false g n q p e') - phi fc y e' * zb (unP true g n q p e') + phi fc y e' * zb (vtP g n q p e') = phi fc y e' * (zb (rgP g n p (eF q e')) - zb (rgP g n p (eT q e')))
  rw [dn_id hg hE p he', Int.mul_add, Int.mul_sub]
/-- a vertical edge's points -/
theorem vert_on (hg : gOk n g) (hE : EOk g (vI g n).2 n (vI g n).1 q) {e : Nat} (he : e < q.1) (hd : ¬ 0 < dX (gE g q e)) {p : Pt} (h0 : (pF g n q e).1 = p.1) (h1 : (pF g n q e).2 ≤ p.2) (h2 : p.2 ≤ (pT g n q e).2) : onS (gE g q e) p := by
  obtain ⟨v1, v2, v3, v4⟩ := e_vert hg hE he hd
  obtain ⟨p1, p2, p3, p4⟩ := e_pts hg hE he
  obtain ⟨f1, f2, f3⟩ := (onS_iff p1 _).mp p2
  obtain ⟨t1, t2, t3⟩ := (onS_iff p1 _).mp p3
  refine (onS_iff p1 _).mpr ⟨?_, leV_tr f2 ?_, leV_tr ?_ t3⟩
  · unfold onL at f1 ⊢
    rw [v3] at f1 ⊢
    grind
  · rintro (z | ⟨z1, z2⟩)
    · rw [h0] at z; exact Rat.lt_irrefl z
    · have z2 : p.2 < (pF g n q e).2 := z2
      grind
  · rintro (z | ⟨z1, z2⟩)
    · rw [← v1, h0] at z; exact Rat.lt_irrefl z
    · have z2 : (pT g n q e).2 < p.2 := z2
      grind
theorem vtP_off (hg : gOk n g) (hE : EOk g (vI g n).2 n (vI g n).1 q) {p : Pt} (hp : ∀ i, i < n → ¬ onS (g i) p) {e : Nat} (he : e < q.1) : vtP g n q p e = false := by
  rw [Bool.eq_false_iff]
  intro w
  unfold vtP at w
  rw [Bool.and_eq_true, Bool.and_eq_true, Bool.and_eq_true, decide_eq_true_eq, decide_eq_true_eq, decide_eq_true_eq, Bool.not_eq_true', decide_eq_false_iff_not] at w
  obtain ⟨w1, w2, w3, w4⟩ := w
  exact hp _ (hE.1 e he).1 (vert_on hg hE he w1 w2 (by grind) w4)
theorem vtP_at (hg : gOk n g) (hE : EOk g (vI g n).2 n (vI g n).1 q) {v : Nat} (hv : v < (vI g n).1) {e : Nat} (he : e < q.1) : vtP g n q ((vI g n).2 v) e = (!decide (0 < dX (gE g q e)) && decide (eT q e = v)) := by
  rw [Bool.eq_iff_iff]
  unfold vtP
  rw [Bool.and_eq_true, Bool.and_eq_true, Bool.and_eq_true, Bool.and_eq_true, decide_eq_true_eq, decide_eq_true_eq, decide_eq_true_eq, decide_eq_true_eq, Bool.not_eq_true', decide_eq_false_iff_not]
  constructor
  · rintro ⟨w1, w2, w3, w4⟩
    refine ⟨w1, ?_⟩
    obtain ⟨v1, v2, -, -⟩ := e_vert hg hE he w1
    apply vsort_inj (vI_good hg.1 n (Nat.le_refl _)).1 (hE.1 e he).2.1 hv
    have ho := vert_on hg hE he w1 w2 (by grind) w4
    rcases rat_tri ((vI g n).2 v).2 (pT g n q e).2 with c | c | c
    · exact (ins_vtx hg hE he ⟨v, hv, rfl⟩ ho (Or.inr ⟨w2, w3⟩) (Or.inr ⟨by rw [← v1]; exact w2.symm, c⟩)).elim
    · exact Prod.ext (by rw [show ((vI g n).2 (eT q e)).1 = (pF g n q e).1 from v1.symm]; exact w2) c.symm
    · grind
  · rintro ⟨w1, w2⟩
    obtain ⟨v1, v2, -, -⟩ := e_vert hg hE he w1
    subst w2
    exact ⟨w1, v1, v2, Rat.le_refl⟩
/-- which edges begin at a vertex over which they are, on the right -/
theorem atF (hg : gOk n g) (hE : EOk g (vI g n).2 n (vI g n).1 q) {v : Nat} (hv : v < (vI g n).1) {e : Nat} (he : e < q.1) (hs : spB false g n q ((vI g n).2 v).1 e = true) : eF q e = v ↔ lny (gE g q e) ((vI g n).2 v).1 = ((vI g n).2 v).2 := by
  have hd := sp_wide hg hE he hs
  obtain ⟨s1, s2⟩ := spB_R.mp hs
  obtain ⟨w1, w2, w3⟩ := e_wide hg hE he hd
  constructor
  · intro h; subst h; exact w2.symm
  · intro h
    apply vsort_inj (vI_good hg.1 n (Nat.le_refl _)).1 (Nat.lt_trans (hE.1 e he).2.2.1 (hE.1 e he).2.1) hv
    obtain ⟨o, -, -⟩ := e_on hg hE he hd (X := ((vI g n).2 v).1) s1 (by grind)
    rw [h] at o
    rcases rat_tri (pF g n q e).1 ((vI g n).2 v).1 with c | c | c
    · exact (ins_vtx hg hE he ⟨v, hv, rfl⟩ o (Or.inl c) (Or.inl s2)).elim
    · exact Prod.ext c (by rw [show ((vI g n).2 (eF q e)).2 = lny (gE g q e) (pF g n q e).1 from w2, c]; exact h)
    · grind
theorem atT (hg : gOk n g) (hE : EOk g (vI g n).2 n (vI g n).1 q) {v : Nat} (hv : v < (vI g n).1) {e : Nat} (he : e < q.1) (hs : spB true g n q ((vI g n).2 v).1 e = true) : eT q e = v ↔ lny (gE g q e) ((vI g n).2 v).1 = ((vI g n).2 v).2 := by
  have hd := sp_wide hg hE he hs
  obtain ⟨s1, s2⟩ := spB_L.mp hs
  obtain ⟨w1, w2, w3⟩ := e_wide hg hE he hd
  constructor
  · intro h; subst h; exact w3.symm
  · intro h
    apply vsort_inj (vI_good hg.1 n (Nat.le_refl _)).1 (hE.1 e he).2.1 hv
    obtain ⟨o, -, -⟩ := e_on hg hE he hd (X := ((vI g n).2 v).1) (by grind) s2
    rw [h] at o
    rcases rat_tri ((vI g n).2 v).1 (pT g n q e).1 with c | c | c
    · exact (ins_vtx hg hE he ⟨v, hv, rfl⟩ o (Or.inl s1) (Or.inl c)).elim
    · exact Prod.ext c.symm (by rw [show ((vI g n).2 (eT q e)).2 = lny (gE g q e) (pT g n q e).1 from w3, ← c]; exact h)
    · grind
/-- carried across the way down, and the sides at the vertex that come before s -/
def Wv (g : Nat → Sg) (n : Nat) (q : ES) (fc : Nat → Nat) (y s : Nat) : Int := dwn false g n q fc y ((vI g n).2 (bg q s)) + zsm (fun s' => xsi fc y s' * zb (decide (bg q s' = bg q s) && decide (key n g q s' < key n g q s))) (2 * q.1)
theorem key_e (e : Nat) : key n g q (2 * e) = srk n g (eS q e) := by
  unfold key sgm
  rw [show 2 * e % 2 = 0 by omega, show 2 * e / 2 = e by omega]; omega
theorem key_o (e : Nat) : key n g q (2 * e + 1) = n + 1 + srk n g (eS q e) := by
  unfold key sgm
  rw [show (2 * e + 1) % 2 = 1 by omega, show (2 * e + 1) / 2 = e by omega]; omega
theorem cr_vert {a b : Sg} (ha : sOk a) (hd : ¬ 0 < dX a) (hb : 0 < dX b) : cr a b < 0 := by
  have dz := dirZ ha
  have m := Int.mul_pos (show 0 < dY a by omega) hb
  unfold cr
  rw [show dX a = 0 by omega]
  omega
theorem eF_lt (hE : EOk g (vI g n).2 n (vI g n).1 q) {e : Nat} (he : e < q.1) : eF q e < (vI g n).1 ∧ eT q e < (vI g n).1 := ⟨Nat.lt_trans (hE.1 e he).2.2.1 (hE.1 e he).2.1, (hE.1 e he).2.1⟩
theorem zb_or {a b c : Bool} (h : (a || b) = c) (h2 : ¬ (a = true ∧ b = true)) : zb a + zb b = zb c := by
  subst h
  cases a <;> cases b
  · rfl
  · rfl
  · rfl
  · exact absurd ⟨rfl, rfl⟩ h2
theorem wF (hg : gOk n g) (hE : EOk g (vI g n).2 n (vI g n).1 q) {fc : Nat → Nat} (y : Nat) {e : Nat} (he : e < q.1) (hd : 0 < dX (gE g q e)) :
    Wv g n q fc y (2 * e) = zsm (fun e' => phi fc y e' * zb (unE false g n q e (pF g n q e).1 e')) q.1 := by
  obtain ⟨w1, w2, w3⟩ := e_wide hg hE he hd
  have hv := (eF_lt hE he).1
  unfold Wv dwn
  rw [zsm_pair, ← zsm_add]
  refine zsm_congr (fun e' he' => ?_)
  show phi fc y e' * zb (unP false g n q ((vI g n).2 (bg q (2 * e))) e') + (xsi fc y (2 * e') * zb (decide (bg q (2 * e') = bg q (2 * e)) && decide (key n g q (2 * e') < key n g q (2 * e))) + xsi fc y (2 * e' + 1) * zb (decide (bg q (2 * e' + 1) = bg q (2 * e)) && decide (key n g q (2 * e' + 1) < key n g q (2 * e)))) = phi fc y e' * zb (unE false g n q e (pF g n q e).1 e')
  have b1 := srk_le n g (eS q e)
  rw [xsi_e, xsi_o, bg_e, bg_e, bg_o, key_e, key_e, key_o, decide_eq_false (show ¬ n + 1 + srk n g (eS q e') < srk n g (eS q e) by omega), Bool.and_false, zb_f, Int.mul_zero, Int.add_zero, ← Int.mul_add]
  congr 1
  have hcr : srk n g (eS q e') < srk n g (eS q e) ↔ 0 < cr (gE g q e') (gE g q e) := (srk_iff hg.1 (hE.1 e' he').1 (hE.1 e he).1).1.symm
  rw [decide_eq_decide.mpr hcr]
  unfold unP unE
  cases hs : spB false g n q (pF g n q e).1 e'
  · have : (decide (eF q e' = eF q e) && decide (0 < cr (gE g q e') (gE g q e))) = false := by
      rw [Bool.eq_false_iff]
      intro w
      rw [Bool.and_eq_true, decide_eq_true_eq, decide_eq_true_eq] at w
      obtain ⟨x1, x2⟩ := w
      by_cases hd' : 0 < dX (gE g q e')
      · have : spB false g n q (pF g n q e).1 e' = true := spB_R.mpr ⟨by show ((vI g n).2 (eF q e')).1 ≤ ((vI g n).2 (eF q e)).1; rw [x1]; exact Rat.le_refl, by show ((vI g n).2 (eF q e)).1 < _; rw [← x1]; exact (e_wide hg hE he' hd').1⟩
        rw [hs] at this; cases this
      · have : cr (gE g q e') (gE g q e) < 0 := cr_vert (hg.1 _ (hE.1 e' he').1) hd' hd
        omega
    rw [this]; rfl
  · have hd' := sp_wide hg hE he' hs
    have ha := atF hg hE hv he' hs
    have i1 : (lny (gE g q e') ((vI g n).2 (eF q e)).1 < ((vI g n).2 (eF q e)).2) ↔ (lny (gE g q e') (pF g n q e).1 < lny (gE g q e) (pF g n q e).1) := by rw [← w2]
    have i2 : (lny (gE g q e') ((vI g n).2 (eF q e)).1 = ((vI g n).2 (eF q e)).2) ↔ (lny (gE g q e') (pF g n q e).1 = lny (gE g q e) (pF g n q e).1) := by rw [← w2]
    rw [decide_eq_decide.mpr (ha.trans i2), decide_eq_decide.mpr (slp_cr hd' hd), decide_eq_decide.mpr i1, Bool.true_and, Bool.true_and]
    unfold lowB
    refine zb_or rfl ?_
    rintro ⟨x1, x2⟩
    rw [Bool.and_eq_true] at x2
    have x1 := of_decide_eq_true x1
    have x2 := of_decide_eq_true x2.1
    rw [x2] at x1
    exact Rat.lt_irrefl x1
end DWN
