/-! ### Both searches find the highest edge under a point -/
theorem rmul_lt_iff {c a b : Rat} (hc : 0 < c) : a * c < b * c ↔ a < b := by
  have h := rmul_pos_iff (c := c) (a := b - a) hc
  constructor
  · intro w
    have := h.mp (by grind)
    grind
  · intro w
    have := h.mpr (by grind)
    grind
theorem rmul_eq_iff {c a b : Rat} (hc : 0 < c) : a * c = b * c ↔ a = b := by
  constructor
  · intro w
    have h0 : c ≠ 0 := fun e => by rw [e] at hc; exact Rat.lt_irrefl hc
    have : (a - b) * c = 0 := by grind
    have := (Rat.mul_eq_zero.mp this).resolve_right h0
    grind
  · intro w; rw [w]
theorem hgt_lny {s : Sg} (h : 0 < dX s) (p : Pt) : (hgt s p : Rat) = lny s p.1 * ((dX s : Rat) * ((p.1.den : Int) : Rat)) := by
  have h1 := slp_mul h
  have h2 := rnum p.1
  unfold hgt lny
  rw [Rat.intCast_add, Rat.intCast_mul, Rat.intCast_mul, Rat.intCast_mul, Rat.intCast_sub, Rat.intCast_mul, h2, ← h1]
  generalize ((p.1.den : Int) : Rat) = d
  generalize (dX s : Rat) = a
  generalize slp s = m
  grind
theorem hgt_lt {s : Sg} (h : 0 < dX s) (p : Pt) : hgt s p * p.2.den < p.2.num * (dX s * p.1.den) ↔ lny s p.1 < p.2 := by
  rw [← Rat.intCast_lt_intCast, Rat.intCast_mul, Rat.intCast_mul, Rat.intCast_mul, hgt_lny h, rnum p.2]
  have h1 := dX_pos h
  have h2 := rden_pos p.1
  have h3 := rden_pos p.2
  have e : lny s p.1 * ((dX s : Rat) * ((p.1.den : Int) : Rat)) * ((p.2.den : Int) : Rat) = lny s p.1 * ((dX s : Rat) * ((p.1.den : Int) : Rat) * ((p.2.den : Int) : Rat)) := by grind
  have e2 : p.2 * ((p.2.den : Int) : Rat) * ((dX s : Rat) * ((p.1.den : Int) : Rat)) = p.2 * ((dX s : Rat) * ((p.1.den : Int) : Rat) * ((p.2.den : Int) : Rat)) := by grind
  rw [e, e2]
  exact rmul_lt_iff (Rat.mul_pos (Rat.mul_pos h1 h2) h3)
theorem hgt_cmp {a b : Sg} (ha : 0 < dX a) (hb : 0 < dX b) (p : Pt) : (hgt b p * (dX a * p.1.den) < hgt a p * (dX b * p.1.den) ↔ lny b p.1 < lny a p.1) ∧ (hgt a p * (dX b * p.1.den) = hgt b p * (dX a * p.1.den) ↔ lny b p.1 = lny a p.1) ∧ (hgt b p * dX a < hgt a p * dX b ↔ lny b p.1 < lny a p.1) ∧ (hgt a p * dX b = hgt b p * dX a ↔ lny b p.1 = lny a p.1) := by
  have h1 := dX_pos ha
  have h2 := dX_pos hb
  have h3 := rden_pos p.1
  have m := Rat.mul_pos (Rat.mul_pos h1 h2) (Rat.mul_pos h3 h3)
  have m2 := Rat.mul_pos (Rat.mul_pos h1 h2) h3
  have q1 : ∀ x y z w d : Rat, x * (y * d) * (z * d) = x * (z * y * (d * d)) := by intro x y z w d; grind
  have q2 : ∀ x y z d : Rat, x * (y * d) * (z * d) = x * (y * z * (d * d)) := by intro x y z d; grind
  have q3 : ∀ x y z d : Rat, x * (y * d) * z = x * (z * y * d) := by intro x y z d; grind
  have q4 : ∀ x y z d : Rat, x * (y * d) * z = x * (y * z * d) := by intro x y z d; grind
  refine ⟨?_, ?_, ?_, ?_⟩
  · rw [← Rat.intCast_lt_intCast, Rat.intCast_mul, Rat.intCast_mul, Rat.intCast_mul, Rat.intCast_mul, hgt_lny ha, hgt_lny hb, q1 _ _ _ 0 _, q2 (lny a p.1)]
    exact rmul_lt_iff m
  · rw [← Rat.intCast_inj, Rat.intCast_mul, Rat.intCast_mul, Rat.intCast_mul, Rat.intCast_mul, hgt_lny ha, hgt_lny hb, q1 (lny b p.1) _ _ 0 _, q2 (lny a p.1)]
    exact (rmul_eq_iff m).trans ⟨fun h => h.symm, fun h => h.symm⟩
  · rw [← Rat.intCast_lt_intCast, Rat.intCast_mul, Rat.intCast_mul, hgt_lny ha, hgt_lny hb, q3 (lny b p.1), q4 (lny a p.1)]
    exact rmul_lt_iff m2
  · rw [← Rat.intCast_inj, Rat.intCast_mul, Rat.intCast_mul, hgt_lny ha, hgt_lny hb, q3 (lny b p.1), q4 (lny a p.1)]
    exact (rmul_eq_iff m2).trans ⟨fun h => h.symm, fun h => h.symm⟩
theorem btr_low (L : Bool) {a b : Sg} (ha : 0 < dX a) (hb : 0 < dX b) (p : Pt) : btr L a b p = lowB L b a p.1 := by
  obtain ⟨h1, h2, -, -⟩ := hgt_cmp ha hb p
  have c1 : cr a b < 0 ↔ slp b < slp a := by
    rw [← slp_cr hb ha, cr_swap a b]; omega
  unfold btr lowB
  rw [decide_eq_decide.mpr h1, decide_eq_decide.mpr h2, decide_eq_decide.mpr c1, decide_eq_decide.mpr (slp_cr ha hb)]
theorem hE2_low {g : Nat → Sg} {q : ES} {e f : Nat} (ha : 0 < dX (gE g q e)) (hb : 0 < dX (gE g q f)) (p : Pt) : hE2 g q p e f = lowB true (gE g q f) (gE g q e) p.1 := by
  obtain ⟨-, -, h1, h2⟩ := hgt_cmp ha hb p
  unfold hE2 lowB
  rw [if_pos rfl]
  have e1 : decide (hgt (g (eS q f)) p * dX (g (eS q e)) < hgt (g (eS q e)) p * dX (g (eS q f))) = decide (lny (gE g q f) p.1 < lny (gE g q e) p.1) := decide_eq_decide.mpr h1
  have e2 : decide (hgt (g (eS q e)) p * dX (g (eS q f)) = hgt (g (eS q f)) p * dX (g (eS q e))) = decide (lny (gE g q f) p.1 = lny (gE g q e) p.1) := decide_eq_decide.mpr h2
  have e3 : decide (0 < cr (g (eS q e)) (g (eS q f))) = decide (slp (gE g q e) < slp (gE g q f)) := decide_eq_decide.mpr (slp_cr ha hb)
  rw [e1, e2, e3]
theorem lowB_tr {L : Bool} {r s t : Sg} {X : Rat} (h1 : lowB L r s X = true) (h2 : lowB L s t X = true) : lowB L r t X = true := by
  unfold lowB at *
  rw [Bool.or_eq_true, Bool.and_eq_true, decide_eq_true_eq, decide_eq_true_eq] at *
  rcases h1 with h1 | ⟨h1, h3⟩ <;> rcases h2 with h2 | ⟨h2, h4⟩
  · left; grind
  · left; grind
  · left; grind
  · right
    refine ⟨by grind, ?_⟩
    cases L
    · simp only [Bool.false_eq_true, if_false, decide_eq_true_eq] at *; grind
    · simp only [if_true, decide_eq_true_eq] at *; grind
theorem udr_iff (L : Bool) (s : Sg) (p : Pt) : udr L s p = true ↔ 0 < dX s ∧ (if L then (sX s : Rat) < p.1 ∧ p.1 ≤ (eX s : Rat) else (sX s : Rat) ≤ p.1 ∧ p.1 < (eX s : Rat)) ∧ lny s p.1 < p.2 := by
  have a1 : sX s * (p.1.den : Int) < p.1.num ↔ (sX s : Rat) < p.1 := by
    have := rat_le (k := sX s) (r := p.1)
    constructor
    · intro w
      rcases rat_tri (sX s : Rat) p.1 with c | c | c
      · exact c
      · have := this.mp (by rw [← c]; exact Rat.le_refl); omega
      · have := this.mp (Rat.le_of_lt c); omega
    · intro w
      rcases Int.lt_or_le (sX s * (p.1.den : Int)) p.1.num with c | c
      · exact c
      · have := this.mpr c; grind
  have a2 : p.1.num < eX s * (p.1.den : Int) ↔ p.1 < (eX s : Rat) := by
    have := le_rat (k := eX s) (r := p.1)
    constructor
    · intro w
      rcases rat_tri p.1 (eX s : Rat) with c | c | c
      · exact c
      · have := this.mp (by rw [c]; exact Rat.le_refl); omega
      · have := this.mp (Rat.le_of_lt c); omega
    · intro w
      rcases Int.lt_or_le p.1.num (eX s * (p.1.den : Int)) with c | c
      · exact c
      · have := this.mpr c; grind
  have a3 := le_rat (k := sX s) (r := p.1)
  have a4 := rat_le (k := eX s) (r := p.1)
  unfold udr
  rw [Bool.and_eq_true, Bool.and_eq_true, decide_eq_true_eq, decide_eq_true_eq, and_assoc]
  constructor
  · rintro ⟨h1, h2, h3⟩
    refine ⟨h1, ?_, (hgt_lt h1 p).mp h3⟩
    cases L
    · simp only [Bool.false_eq_true, if_false, Bool.and_eq_true, decide_eq_true_eq] at h2 ⊢
      exact ⟨a3.mpr h2.1, a2.mp h2.2⟩
    · simp only [if_true, Bool.and_eq_true, decide_eq_true_eq] at h2 ⊢
      exact ⟨a1.mp h2.1, a4.mpr h2.2⟩
  · rintro ⟨h1, h2, h3⟩
    refine ⟨h1, ?_, (hgt_lt h1 p).mpr h3⟩
    cases L
    · simp only [Bool.false_eq_true, if_false, Bool.and_eq_true, decide_eq_true_eq] at h2 ⊢
      exact ⟨a3.mp h2.1, a2.mpr h2.2⟩
    · simp only [if_true, Bool.and_eq_true, decide_eq_true_eq] at h2 ⊢
      exact ⟨a1.mpr h2.1, a4.mp h2.2⟩
theorem fAs_top (L : Bool) (g : Nat → Sg) (p : Pt) : ∀ i, (fAs L g p i = none → ∀ j, j < i → udr L (g j) p = false) ∧ ∀ f, fAs L g p i = some f → udr L (g f) p = true ∧ ∀ j, j < i → udr L (g j) p = true → lowB L (g f) (g j) p.1 = false := by
  intro i
  induction i with
  | zero => exact ⟨fun _ j h => by omega, fun f h => by cases h⟩
  | succ i ih =>
    obtain ⟨i1, i2⟩ := ih
    rw [fAs]
    by_cases hu : udr L (g i) p = true
    · have di := ((udr_iff L (g i) p).mp hu).1
      rw [if_pos hu]
      cases ho : fAs L g p i with
      | none =>
        refine ⟨(fun h => by cases h), fun f h => ?_⟩
        cases h
        refine ⟨hu, fun j hj hj2 => ?_⟩
        rcases Nat.lt_or_ge j i with z | z
        · rw [i1 ho j z] at hj2; cases hj2
        · have : j = i := by omega
          subst this; exact lowB_irr _ _ _
      | some k =>
        obtain ⟨k1, k2⟩ := i2 k ho
        have dk := ((udr_iff L (g k) p).mp k1).1
        show (((if btr L (g i) (g k) p = true then some i else some k) = none → _) ∧ ∀ f, (if btr L (g i) (g k) p = true then some i else some k) = some f → _)
        rw [btr_low L di dk]
        by_cases hb : lowB L (g k) (g i) p.1 = true
        · rw [if_pos hb]
          refine ⟨(fun h => by cases h), fun f h => ?_⟩
          cases h
          refine ⟨hu, fun j hj hj2 => ?_⟩
          rcases Nat.lt_or_ge j i with z | z
          · have := k2 j z hj2
            rw [Bool.eq_false_iff] at this ⊢
            exact fun w => this (lowB_tr hb w)
          · have : j = i := by omega
            subst this; exact lowB_irr _ _ _
        · rw [if_neg hb]
          refine ⟨(fun h => by cases h), fun f h => ?_⟩
          cases h
          refine ⟨k1, fun j hj hj2 => ?_⟩
          rcases Nat.lt_or_ge j i with z | z
          · exact k2 j z hj2
          · have : j = i := by omega
            subst this; exact Bool.eq_false_iff.mpr hb
    · rw [if_neg hu]
      refine ⟨fun h j hj => ?_, fun f h => ⟨(i2 f h).1, fun j hj hj2 => ?_⟩⟩
      · rcases Nat.lt_or_ge j i with z | z
        · exact i1 h j z
        · have : j = i := by omega
          subst this; exact Bool.eq_false_iff.mpr hu
      · rcases Nat.lt_or_ge j i with z | z
        · exact (i2 f h).2 j z hj2
        · have : j = i := by omega
          subst this; exact absurd hj2 hu
section TOP
variable {n : Nat} {g : Nat → Sg} {q : ES}
theorem un_udr (hg : gOk n g) (hE : EOk g (vI g n).2 n (vI g n).1 q) {L : Bool} {p : Pt} {e : Nat} (he : e < q.1) (h : unP L g n q p e = true) : udr L (gE g q e) p = true := by
  obtain ⟨h1, h2⟩ := Bool.and_eq_true_iff.mp h
  have hd := sp_wide hg hE he h1
  obtain ⟨p1, p2, p3, p4⟩ := e_pts hg hE he
  have r1 := ((onS_R _ _).mp p2).2.1.1
  have r2 := ((onS_R _ _).mp p3).2.1.2
  refine (udr_iff L _ p).mpr ⟨hd, ?_, of_decide_eq_true h2⟩
  cases L
  · have := spB_R.mp h1
    simp only [Bool.false_eq_true, if_false]
    exact ⟨by grind, by grind⟩
  · have := spB_L.mp h1
    simp only [if_true]
    exact ⟨by grind, by grind⟩
theorem spB_tot (hg : gOk n g) (hE : EOk g (vI g n).2 n (vI g n).1 q) {L : Bool} {X : Rat} {e e' : Nat} (he : e < q.1) (he' : e' < q.1) (hne : e' ≠ e) (h1 : spB L g n q X e = true) (h2 : spB L g n q X e' = true) (h3 : lowB L (gE g q e) (gE g q e') X = false) : lowB L (gE g q e') (gE g q e) X = true := by
  have hd := sp_wide hg hE he h1
  have hd' := sp_wide hg hE he' h2
  have hx : lny (gE g q e) X = lny (gE g q e') X → slp (gE g q e) = slp (gE g q e') → False := by
    intro a1 a2
    have all : ∀ Y, lny (gE g q e) Y = lny (gE g q e') Y := by
      intro Y
      unfold lny at a1 ⊢
      rw [a2] at a1 ⊢
      grind
    cases L
    · obtain ⟨s1, s2⟩ := spB_R.mp h1
      obtain ⟨t1, t2⟩ := spB_R.mp h2
      obtain ⟨hi, hhi⟩ : ∃ hi, hi = if (pT g n q e).1 < (pT g n q e').1 then (pT g n q e).1 else (pT g n q e').1 := ⟨_, rfl⟩
      have b1 : X < hi := by rw [hhi]; split <;> grind
      have half : (1 / 2 : Rat) * 2 = 1 := by grind
      exact noCross hg hE he he' (fun w => hne w.symm) hd hd' (lo := X) (hi := hi) s1 (by rw [hhi]; split <;> grind) t1 (by rw [hhi]; split <;> grind) ((X + hi) * (1 / 2)) (by grind) (by grind) (all _)
    · obtain ⟨s1, s2⟩ := spB_L.mp h1
      obtain ⟨t1, t2⟩ := spB_L.mp h2
      obtain ⟨lo, hlo⟩ : ∃ lo, lo = if (pF g n q e).1 < (pF g n q e').1 then (pF g n q e').1 else (pF g n q e).1 := ⟨_, rfl⟩
      have b1 : lo < X := by rw [hlo]; split <;> grind
      have half : (1 / 2 : Rat) * 2 = 1 := by grind
      exact noCross hg hE he he' (fun w => hne w.symm) hd hd' (lo := lo) (hi := X) (by rw [hlo]; split <;> grind) s2 (by rw [hlo]; split <;> grind) t2 ((X + lo) * (1 / 2)) (by grind) (by grind) (all _)
  rw [Bool.eq_false_iff] at h3
  unfold lowB at h3 ⊢
  rw [Ne, Bool.or_eq_true, Bool.and_eq_true, decide_eq_true_eq, decide_eq_true_eq] at h3
  rw [Bool.or_eq_true, Bool.and_eq_true, decide_eq_true_eq, decide_eq_true_eq]
  rcases rat_tri (lny (gE g q e') X) (lny (gE g q e) X) with c | c | c
  · exact Or.inl c
  · refine Or.inr ⟨c, ?_⟩
    cases L
    · simp only [Bool.false_eq_true, if_false, decide_eq_true_eq] at h3 ⊢
      rcases rat_tri (slp (gE g q e')) (slp (gE g q e)) with d | d | d
      · exact d
      · exact (hx c.symm d.symm).elim
      · exact absurd (Or.inr ⟨c.symm, d⟩) h3
    · simp only [if_true, decide_eq_true_eq] at h3 ⊢
      rcases rat_tri (slp (gE g q e)) (slp (gE g q e')) with d | d | d
      · exact d
      · exact (hx c.symm d).elim
      · exact absurd (Or.inr ⟨c.symm, d⟩) h3
  · exact absurd (Or.inl c) h3
/-- a segment over X has an edge over X -/
theorem seg_edge (hg : gOk n g) (hE : EOk g (vI g n).2 n (vI g n).1 q) {L : Bool} {X : Rat} {i : Nat} (hi : i < n) (h : if L then (sX (g i) : Rat) < X ∧ X ≤ (eX (g i) : Rat) else (sX (g i) : Rat) ≤ X ∧ X < (eX (g i) : Rat)) : ∃ e, e < q.1 ∧ eS q e = i ∧ spB L g n q X e = true := by
  have hs := (vI_good hg.1 n (Nat.le_refl _)).1
  obtain ⟨a, ha, ha2⟩ := (vI_mem (g := g) (p := pS (g i)) n).mpr ⟨i, hi, Or.inl rfl⟩
  obtain ⟨b, hb, hb2⟩ := (vI_mem (g := g) (p := pE (g i)) n).mpr ⟨i, hi, Or.inr (Or.inl rfl)⟩
  have oa : onB (g i) ((vI g n).2 a) = true := onB_iff.mpr (by rw [ha2]; exact onS_s (hg.1 i hi))
  have ob : onB (g i) ((vI g n).2 b) = true := onB_iff.mpr (by rw [hb2]; exact onS_e (hg.1 i hi))
  -- at or past X, in the sense of L
  obtain ⟨P, hP⟩ : ∃ P : Nat → Prop, P = fun u => if L then X ≤ ((vI g n).2 u).1 else X < ((vI g n).2 u).1 := ⟨_, rfl⟩
  have Pb : P b := by
    rw [hP]
    show if L then X ≤ ((vI g n).2 b).1 else X < ((vI g n).2 b).1
    rw [hb2]
    cases L
    · simp only [Bool.false_eq_true, if_false] at h ⊢; exact h.2
    · simp only [if_true] at h ⊢; exact h.2
  have Pa : ¬ P a := by
    rw [hP]
    show ¬ (if L then X ≤ ((vI g n).2 a).1 else X < ((vI g n).2 a).1)
    rw [ha2]
    cases L
    · simp only [Bool.false_eq_true, if_false] at h ⊢
      show ¬ X < (sX (g i) : Rat)
      grind
    · simp only [if_true] at h ⊢
      show ¬ X ≤ (sX (g i) : Rat)
      grind
  have mono : ∀ u w, u < w → w < (vI g n).1 → P u → P w := by
    intro u w h1 h2 h3
    have := hs u w h1 h2
    rw [hP] at h3 ⊢
    have hle : ((vI g n).2 u).1 ≤ ((vI g n).2 w).1 := by
      rcases this with z | ⟨z, -⟩
      · grind
      · grind
    cases L
    · simp only [Bool.false_eq_true, if_false] at h3 ⊢; grind
    · simp only [if_true] at h3 ⊢; grind
  obtain ⟨w, ⟨w1, w2, w3⟩, w4⟩ := pk_least (fun w => w < (vI g n).1 ∧ onB (g i) ((vI g n).2 w) = true ∧ P w) ⟨b, hb, ob, Pb⟩
  have haw : a < w := by
    rcases Nat.lt_trichotomy a w with z | z | z
    · exact z
    · subst z; exact absurd w3 Pa
    · exact absurd (mono w a z ha w3) Pa
  obtain ⟨d, ⟨d1, d2, d3⟩, d4⟩ := pk_least (fun d => 0 < d ∧ d ≤ w ∧ onB (g i) ((vI g n).2 (w - d)) = true) ⟨w - a, by omega, by omega, by rw [show w - (w - a) = a by omega]; exact oa⟩
  obtain ⟨e, e1, e2⟩ := hE.2.1 i (w - d) w hi w1 ⟨by omega, d3, w2, fun k k1 k2 => by
    cases hk : onB (g i) ((vI g n).2 k)
    · rfl
    · exact absurd ⟨by omega, by omega, by rw [show w - (w - k) = k by omega]; exact hk⟩ (d4 (w - k) (by omega))⟩
  have nP : ¬ P (w - d) := fun z => w4 (w - d) (by omega) ⟨by omega, d3, z⟩
  have f1 : eF q e = w - d := by show (q.2 e).2.1 = _; rw [e2]
  have f2 : eT q e = w := by show (q.2 e).2.2 = _; rw [e2]
  refine ⟨e, e1, by show (q.2 e).1 = _; rw [e2], ?_⟩
  rw [hP] at nP w3
  cases L
  · simp only [Bool.false_eq_true, if_false] at nP w3
    refine spB_R.mpr ⟨?_, ?_⟩
    · show ((vI g n).2 (eF q e)).1 ≤ X
      rw [f1]; grind
    · show X < ((vI g n).2 (eT q e)).1
      rw [f2]; exact w3
  · simp only [if_true] at nP w3
    refine spB_L.mpr ⟨?_, ?_⟩
    · show ((vI g n).2 (eF q e)).1 < X
      rw [f1]; grind
    · show X ≤ ((vI g n).2 (eT q e)).1
      rw [f2]; exact w3
theorem eRg_sp (L : Bool) (p : Pt) (e : Nat) : eRg L (vI g n).2 q p e = spB L g n q p.1 e := by
  unfold eRg spB
  have k1 : ∀ a b : Rat, (!decide (a < b)) = decide (b ≤ a) := by
    intro a b
    by_cases c : a < b
    · rw [decide_eq_true c, decide_eq_false (by grind)]; rfl
    · rw [decide_eq_false c, decide_eq_true (by grind)]; rfl
  rw [k1, k1]
theorem eO_some {L : Bool} {V : Nat → Pt} {s : Nat} {p : Pt} : ∀ j, (∃ e, e < j ∧ eS q e = s ∧ eRg L V q p e = true) → ∃ e, eO L V q s p j = some e ∧ e < j ∧ eS q e = s ∧ eRg L V q p e = true := by
  intro j
  induction j with
  | zero => rintro ⟨e, h, _⟩; omega
  | succ j ih =>
    rintro ⟨e, h1, h2, h3⟩
    rw [eO]
    by_cases hc : eS q j = s ∧ eRg L V q p j = true
    · rw [if_pos hc]; exact ⟨j, rfl, by omega, hc⟩
    · rw [if_neg hc]
      have hej : e < j := by
        rcases Nat.lt_or_ge e j with z | z
        · exact z
        · have : e = j := by omega
          subst this; exact absurd ⟨h2, h3⟩ hc
      obtain ⟨x, x1, x2, x3⟩ := ih ⟨e, hej, h2, h3⟩
      exact ⟨x, x1, by omega, x3⟩
/-- the reference's search -/
theorem ref_top (hg : gOk n g) (hE : EOk g (vI g n).2 n (vI g n).1 q) (L : Bool) (p : Pt) : ∃ o, topE L g n q p o ∧ ∀ rd fo : Nat → Nat, fAv L n g (vI g n).2 q rd fo p = fcO (fun s => fo (rd s)) o := by
  obtain ⟨t1, t2⟩ := fAs_top L g p n
  cases ho : fAs L g p n with
  | none =>
    refine ⟨none, fun e he => ?_, fun rd fo => by unfold fAv; rw [ho]; rfl⟩
    rw [Bool.eq_false_iff]
    intro w
    have := un_udr hg hE he w
    have h2 := t1 ho _ (hE.1 e he).1
    rw [show g (eS q e) = gE g q e from rfl, this] at h2
    cases h2
  | some i =>
    obtain ⟨u1, u2⟩ := t2 i ho
    have hi := (fAs_lt L g p n i ho).1
    obtain ⟨d1, d2, d3⟩ := (udr_iff L (g i) p).mp u1
    obtain ⟨e0, f1, f2, f3⟩ := seg_edge hg hE (L := L) (X := p.1) hi d2
    obtain ⟨e, x1, x2, x3, x4⟩ := eO_some (q := q) (L := L) (V := (vI g n).2) (s := i) (p := p) q.1 ⟨e0, f1, f2, by rw [eRg_sp]; exact f3⟩
    rw [eRg_sp] at x4
    have hge : gE g q e = g i := by show g (eS q e) = _; rw [x3]
    have hun : unP L g n q p e = true := by
      unfold unP
      rw [x4, hge, Bool.true_and]; exact decide_eq_true d3
    refine ⟨some e, ⟨x2, hun, fun e' he' h' => ?_⟩, fun rd fo => by unfold fAv; rw [ho]; show (match eO L (vI g n).2 q i p q.1 with | none => 0 | some e => fo (rd (2 * e))) = _; rw [x1]; rfl⟩
    by_cases hne : e' = e
    · exact Or.inl hne
    · refine Or.inr (spB_tot hg hE x2 he' hne x4 (Bool.and_eq_true_iff.mp h').1 ?_)
      rw [hge]
      exact u2 _ (hE.1 e' he').1 (un_udr hg hE he' h')
theorem uE_un (hg : gOk n g) (hE : EOk g (vI g n).2 n (vI g n).1 q) {p : Pt} {e : Nat} (he : e < q.1) : uE g (vI g n).2 q p e = unP true g n q p e := by
  rw [Bool.eq_iff_iff]
  unfold uE unP
  rw [Bool.and_eq_true, Bool.and_eq_true, Bool.and_eq_true, decide_eq_true_eq, decide_eq_true_eq, decide_eq_true_eq, decide_eq_true_eq, spB_L, cmpR_neg]
  have hle : 0 ≤ cmpR ((vI g n).2 (eT q e)).1 p.1 ↔ p.1 ≤ (pT g n q e).1 := by
    constructor
    · intro h
      have : ¬ ((vI g n).2 (eT q e)).1 < p.1 := fun w => by have := cmpR_neg.mpr w; omega
      show p.1 ≤ ((vI g n).2 (eT q e)).1
      grind
    · intro h
      have : ¬ cmpR ((vI g n).2 (eT q e)).1 p.1 < 0 := fun w => by
        have := cmpR_neg.mp w
        have h : p.1 ≤ ((vI g n).2 (eT q e)).1 := h
        grind
      omega
  rw [hle]
  constructor
  · rintro ⟨h1, h2, h3⟩
    have hd := sp_wide hg hE he (spB_L.mpr ⟨h1, h2⟩)
    exact ⟨⟨h1, h2⟩, (hgt_lt hd p).mp h3⟩
  · rintro ⟨⟨h1, h2⟩, h3⟩
    have hd := sp_wide hg hE he (spB_L.mpr ⟨h1, h2⟩)
    exact ⟨h1, h2, (hgt_lt hd p).mpr h3⟩
theorem fL_top (hg : gOk n g) (hE : EOk g (vI g n).2 n (vI g n).1 q) (p : Pt) : ∀ i, i ≤ q.1 → (fL g (vI g n).2 q p i = none → ∀ j, j < i → unP true g n q p j = false) ∧ ∀ f, fL g (vI g n).2 q p i = some f → f < i ∧ unP true g n q p f = true ∧ ∀ j, j < i → unP true g n q p j = true → lowB true (gE g q f) (gE g q j) p.1 = false := by
  intro i
  induction i with
  | zero => exact fun _ => ⟨fun _ j h => by omega, fun f h => by cases h⟩
  | succ i ih =>
    intro hi
    obtain ⟨i1, i2⟩ := ih (by omega)
    rw [fL, uE_un hg hE (show i < q.1 by omega)]
    cases hu : unP true g n q p i
    · rw [Bool.false_and, if_neg (by decide)]
      refine ⟨fun h j hj => ?_, fun f h => ⟨by have := (i2 f h).1; omega, (i2 f h).2.1, fun j hj hj2 => ?_⟩⟩
      · rcases Nat.lt_or_ge j i with z | z
        · exact i1 h j z
        · have : j = i := by omega
          subst this; exact hu
      · rcases Nat.lt_or_ge j i with z | z
        · exact (i2 f h).2.2 j z hj2
        · have : j = i := by omega
          subst this; rw [hu] at hj2; cases hj2
    · have di := sp_wide hg hE (show i < q.1 by omega) (Bool.and_eq_true_iff.mp hu).1
      rw [Bool.true_and]
      cases ho : fL g (vI g n).2 q p i with
      | none =>
        rw [if_pos (show hEo g q p i none = true from rfl)]
        refine ⟨(fun h => by cases h), fun f h => ?_⟩
        cases h
        refine ⟨by omega, hu, fun j hj hj2 => ?_⟩
        rcases Nat.lt_or_ge j i with z | z
        · rw [i1 ho j z] at hj2; cases hj2
        · have : j = i := by omega
          subst this; exact lowB_irr _ _ _
      | some k =>
        obtain ⟨k0, k1, k2⟩ := i2 k ho
        have dk := sp_wide hg hE (show k < q.1 by omega) (Bool.and_eq_true_iff.mp k1).1
        rw [show hEo g q p i (some k) = hE2 g q p i k from rfl, hE2_low di dk]
        by_cases hb : lowB true (gE g q k) (gE g q i) p.1 = true
        · rw [if_pos hb]
          refine ⟨(fun h => by cases h), fun f h => ?_⟩
          cases h
          refine ⟨by omega, hu, fun j hj hj2 => ?_⟩
          rcases Nat.lt_or_ge j i with z | z
          · have := k2 j z hj2
            rw [Bool.eq_false_iff] at this ⊢
            exact fun w => this (lowB_tr hb w)
          · have : j = i := by omega
            subst this; exact lowB_irr _ _ _
        · rw [if_neg hb]
          refine ⟨(fun h => by cases h), fun f h => ?_⟩
          cases h
          refine ⟨by omega, k1, fun j hj hj2 => ?_⟩
          rcases Nat.lt_or_ge j i with z | z
          · exact k2 j z hj2
          · have : j = i := by omega
            subst this; exact Bool.eq_false_iff.mpr hb
/-- the class's search -/
theorem cls_top (hg : gOk n g) (hE : EOk g (vI g n).2 n (vI g n).1 q) (p : Pt) : topE true g n q p (fL g (vI g n).2 q p q.1) := by
  obtain ⟨t1, t2⟩ := fL_top hg hE p q.1 (Nat.le_refl _)
  cases ho : fL g (vI g n).2 q p q.1 with
  | none => exact t1 ho
  | some e =>
    obtain ⟨h1, h2, h3⟩ := t2 e ho
    refine ⟨h1, h2, fun e' he' h' => ?_⟩
    by_cases hne : e' = e
    · exact Or.inl hne
    · exact Or.inr (spB_tot hg hE h1 he' hne (Bool.and_eq_true_iff.mp h2).1 (Bool.and_eq_true_iff.mp h').1 (h3 e' he' h'))
/-- there is only one highest edge -/
theorem top_uniq {L : Bool} {p : Pt} {o o' : Option Nat} (h : topE L g n q p o) (h' : topE L g n q p o') : o = o' := by
  cases o with
  | none =>
    cases o' with
    | none => rfl
    | some e' => have := h e' h'.1; rw [h'.2.1] at this; cases this
  | some e =>
    cases o' with
    | none => have := h' e h.1; rw [h.2.1] at this; cases this
    | some e' =>
      rcases h.2.2 e' h'.1 h'.2.1 with w | w
      · rw [w]
      · rcases h'.2.2 e h.1 h.2.1 with z | z
        · rw [z]
        · have := lowB_tr w z
          rw [lowB_irr] at this; cases this
end TOP
