/-! ### Where a point lies on a segment, in fractions -/
theorem rnum (r : Rat) : (r.num : Rat) = r * ((r.den : Int) : Rat) := by
  have h := Rat.num_divInt_den r
  rw [Rat.divInt_eq_div] at h
  have hd : ((r.den : Int) : Rat) ≠ 0 := by
    intro e
    have := Rat.intCast_inj.mp (e.trans Rat.intCast_zero.symm)
    have := r.den_nz
    omega
  have h2 := Rat.div_mul_cancel (a := (r.num : Rat)) hd
  rw [h] at h2
  exact h2.symm
theorem rden_pos (r : Rat) : (0 : Rat) < ((r.den : Int) : Rat) := by
  have h := Rat.intCast_lt_intCast.mpr (show (0 : Int) < (r.den : Int) by have := r.den_nz; omega)
  exact h
theorem le_rat {k : Int} {r : Rat} : (k : Rat) ≤ r ↔ k * r.den ≤ r.num := by
  rw [Rat.le_iff]
  simp only [Rat.num_intCast, Rat.den_intCast]
  omega
theorem rat_le {k : Int} {r : Rat} : r ≤ (k : Rat) ↔ r.num ≤ k * r.den := by
  rw [Rat.le_iff]
  simp only [Rat.num_intCast, Rat.den_intCast]
  omega
/-- on the segment, by numerators and denominators -/
def onS (s : Sg) (p : Pt) : Prop := dX s * (p.2.num - sY s * p.2.den) * p.1.den = dY s * (p.1.num - sX s * p.1.den) * p.2.den ∧ (sX s * p.1.den ≤ p.1.num ∧ p.1.num ≤ eX s * p.1.den) ∧ ((if sY s < eY s then sY s else eY s) * p.2.den ≤ p.2.num ∧ p.2.num ≤ (if sY s < eY s then eY s else sY s) * p.2.den)
/-- on its line -/
def onL (s : Sg) (p : Pt) : Prop := (dX s : Rat) * (p.2 - (sY s : Rat)) = (dY s : Rat) * (p.1 - (sX s : Rat))
theorem onL_iff (s : Sg) (p : Pt) : dX s * (p.2.num - sY s * p.2.den) * p.1.den = dY s * (p.1.num - sX s * p.1.den) * p.2.den ↔ onL s p := by
  rw [← Rat.intCast_inj]
  simp only [Rat.intCast_mul, Rat.intCast_sub]
  rw [rnum p.1, rnum p.2]
  have h1 := rden_pos p.1
  have h2 := rden_pos p.2
  unfold onL
  generalize ((p.1.den : Int) : Rat) = a at *
  generalize ((p.2.den : Int) : Rat) = b at *
  generalize (dX s : Rat) = u
  generalize (dY s : Rat) = v
  generalize (sX s : Rat) = x0
  generalize (sY s : Rat) = y0
  have hab : a * b ≠ 0 := by
    intro e
    have := Rat.mul_pos h1 h2
    rw [e] at this
    exact Rat.lt_irrefl this
  constructor
  · intro h
    have h3 : (u * (p.2 - y0) - v * (p.1 - x0)) * (a * b) = 0 := by grind
    rcases Rat.mul_eq_zero.mp h3 with h4 | h4
    · grind
    · exact absurd h4 hab
  · intro h; grind
def cX (s : Sg) : Rat := (sX s : Rat)
theorem onS_R (s : Sg) (p : Pt) : onS s p ↔ onL s p ∧ ((sX s : Rat) ≤ p.1 ∧ p.1 ≤ (eX s : Rat)) ∧ (((if sY s < eY s then sY s else eY s : Int) : Rat) ≤ p.2 ∧ p.2 ≤ ((if sY s < eY s then eY s else sY s : Int) : Rat)) := by
  unfold onS
  rw [onL_iff, le_rat, rat_le, le_rat, rat_le]
theorem dXr (s : Sg) : (dX s : Rat) = (eX s : Rat) - (sX s : Rat) := Rat.intCast_sub _ _
theorem dYr (s : Sg) : (dY s : Rat) = (eY s : Rat) - (sY s : Rat) := Rat.intCast_sub _ _
abbrev pS (s : Sg) : Pt := ((sX s : Rat), (sY s : Rat))
abbrev pE (s : Sg) : Pt := ((eX s : Rat), (eY s : Rat))
/-- a direction to the right, or straight up -/
theorem dir_ok {s : Sg} (h : sOk s) : (0 : Rat) < (dX s : Rat) ∨ ((dX s : Rat) = 0 ∧ (0 : Rat) < (dY s : Rat)) := by
  obtain ⟨-, h⟩ := h
  unfold ltP at h
  have h := of_decide_eq_true h
  rcases h with h | ⟨h1, h2⟩
  · exact Or.inl (Rat.intCast_lt_intCast (a := 0).mpr (by unfold dX; omega))
  · exact Or.inr ⟨Rat.intCast_inj (b := 0).mpr (by unfold dX; omega), Rat.intCast_lt_intCast (a := 0).mpr (by unfold dY; omega)⟩
/-- on a segment: on its line, and between its ends in the order of the vertices -/
theorem onS_iff {s : Sg} (h : sOk s) (p : Pt) : onS s p ↔ onL s p ∧ ¬ ltV p (pS s) ∧ ¬ ltV (pE s) p := by
  rw [onS_R]
  have hd := dir_ok h
  rw [dXr, dYr] at hd
  unfold onL
  rw [dXr, dYr]
  have hsy : (((if sY s < eY s then sY s else eY s : Int) : Rat) = if (sY s : Rat) < (eY s : Rat) then (sY s : Rat) else (eY s : Rat)) := by
    by_cases q : sY s < eY s
    · rw [if_pos q, if_pos (Rat.intCast_lt_intCast.mpr q)]
    · rw [if_neg q, if_neg (fun w => q (Rat.intCast_lt_intCast.mp w))]
  have hey : (((if sY s < eY s then eY s else sY s : Int) : Rat) = if (sY s : Rat) < (eY s : Rat) then (eY s : Rat) else (sY s : Rat)) := by
    by_cases q : sY s < eY s
    · rw [if_pos q, if_pos (Rat.intCast_lt_intCast.mpr q)]
    · rw [if_neg q, if_neg (fun w => q (Rat.intCast_lt_intCast.mp w))]
  rw [hsy, hey]
  show _ ↔ _ ∧ ¬ (p.1 < (sX s : Rat) ∨ (p.1 = (sX s : Rat) ∧ p.2 < (sY s : Rat))) ∧ ¬ ((eX s : Rat) < p.1 ∨ ((eX s : Rat) = p.1 ∧ (eY s : Rat) < p.2))
  obtain ⟨x, y⟩ := p
  generalize (sX s : Rat) = a at *
  generalize (sY s : Rat) = b at *
  generalize (eX s : Rat) = c at *
  generalize (eY s : Rat) = d at *
  show (c - a) * (y - b) = (d - b) * (x - a) ∧ (a ≤ x ∧ x ≤ c) ∧ ((if b < d then b else d) ≤ y ∧ y ≤ (if b < d then d else b)) ↔ (c - a) * (y - b) = (d - b) * (x - a) ∧ ¬ (x < a ∨ (x = a ∧ y < b)) ∧ ¬ (c < x ∨ (c = x ∧ d < y))
  rcases hd with hd | ⟨hd, hd2⟩
  · have hac : a < c := by grind
    constructor
    · rintro ⟨h1, ⟨h2, h3⟩, h4, h5⟩
      refine ⟨h1, ?_, ?_⟩
      · rintro (w | ⟨w1, w2⟩)
        · grind
        · have e : (c - a) * (y - b) = 0 := by rw [h1, w1]; grind
          rcases Rat.mul_eq_zero.mp e with e | e <;> grind
      · rintro (w | ⟨w1, w2⟩)
        · grind
        · have e : (c - a) * (y - d) = 0 := by subst w1; grind
          rcases Rat.mul_eq_zero.mp e with e | e <;> grind
    · rintro ⟨h1, h2, h3⟩
      have hx1 : a ≤ x := by grind
      have hx2 : x ≤ c := by grind
      refine ⟨h1, ⟨hx1, hx2⟩, ?_⟩
      by_cases q : b < d
      · rw [if_pos q, if_pos q]
        have m1 := Rat.mul_nonneg (a := d - b) (b := x - a) (by grind) (by grind)
        have m2 := Rat.mul_nonneg (a := d - b) (b := c - x) (by grind) (by grind)
        constructor
        · rcases rat_tri y b with w | w | w
          · have := Rat.mul_pos (a := c - a) (b := b - y) (by grind) (by grind); grind
          · grind
          · grind
        · rcases rat_tri d y with w | w | w
          · have := Rat.mul_pos (a := c - a) (b := y - d) (by grind) (by grind); grind
          · grind
          · grind
      · rw [if_neg q, if_neg q]
        have m1 := Rat.mul_nonneg (a := b - d) (b := x - a) (by grind) (by grind)
        have m2 := Rat.mul_nonneg (a := b - d) (b := c - x) (by grind) (by grind)
        constructor
        · rcases rat_tri y d with w | w | w
          · have := Rat.mul_pos (a := c - a) (b := d - y) (by grind) (by grind); grind
          · grind
          · grind
        · rcases rat_tri b y with w | w | w
          · have := Rat.mul_pos (a := c - a) (b := y - b) (by grind) (by grind); grind
          · grind
          · grind
  · have hca : c = a := by grind
    subst hca
    constructor
    · rintro ⟨h1, ⟨h2, h3⟩, h4, h5⟩
      grind
    · rintro ⟨h1, h2, h3⟩
      have e : (d - b) * (x - c) = 0 := by grind
      rcases Rat.mul_eq_zero.mp e with e | e
      · grind
      · grind
