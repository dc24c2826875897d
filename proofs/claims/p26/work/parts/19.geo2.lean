/-! ### Two segments have at most one point in common, unless the search says 2; where they meet -/
theorem dir_ne {s : Sg} (h : sOk s) {c : Rat} (h1 : (dX s : Rat) * c = 0) (h2 : (dY s : Rat) * c = 0) : c = 0 := by
  rcases dir_ok h with h3 | ⟨-, h3⟩
  · rcases Rat.mul_eq_zero.mp h1 with h4 | h4
    · rw [h4] at h3; exact absurd h3 Rat.lt_irrefl
    · exact h4
  · rcases Rat.mul_eq_zero.mp h2 with h4 | h4
    · rw [h4] at h3; exact absurd h3 Rat.lt_irrefl
    · exact h4
theorem crR (a b : Sg) : (cr a b : Rat) = (dX a : Rat) * (dY b : Rat) - (dY a : Rat) * (dX b : Rat) := by
  unfold cr; rw [Rat.intCast_sub, Rat.intCast_mul, Rat.intCast_mul]
theorem ctR (a b c : Sg) : (ct a b c : Rat) = ((sX b : Rat) - (sX a : Rat)) * (dY c : Rat) - ((sY b : Rat) - (sY a : Rat)) * (dX c : Rat) := by
  unfold ct; rw [Rat.intCast_sub, Rat.intCast_mul, Rat.intCast_mul, Rat.intCast_sub, Rat.intCast_sub]
theorem cross_unique {a b : Sg} (hc : cr a b ≠ 0) {p q : Pt} (p1 : onL a p) (p2 : onL b p) (q1 : onL a q) (q2 : onL b q) : p = q := by
  have hc' : (cr a b : Rat) ≠ 0 := fun e => hc (Rat.intCast_inj.mp (e.trans Rat.intCast_zero.symm))
  rw [crR] at hc'
  unfold onL at p1 p2 q1 q2
  have e1 : ((dX a : Rat) * (dY b : Rat) - (dY a : Rat) * (dX b : Rat)) * (p.1 - q.1) = 0 := by grind
  have e2 : ((dX a : Rat) * (dY b : Rat) - (dY a : Rat) * (dX b : Rat)) * (p.2 - q.2) = 0 := by grind
  have f1 : p.1 - q.1 = 0 := (Rat.mul_eq_zero.mp e1).resolve_left hc'
  have f2 : p.2 - q.2 = 0 := (Rat.mul_eq_zero.mp e2).resolve_left hc'
  exact Prod.ext (by grind) (by grind)
theorem par_ct {a b : Sg} (hb : sOk b) (hc : cr a b = 0) {p : Pt} (p1 : onL a p) (p2 : onL b p) : ct a b a = 0 := by
  have hc' : (dX a : Rat) * (dY b : Rat) - (dY a : Rat) * (dX b : Rat) = 0 := by rw [← crR, hc]; rfl
  unfold onL at p1 p2
  apply Rat.intCast_inj.mp
  rw [Rat.intCast_zero]
  apply dir_ne hb
  · rw [ctR]; grind
  · rw [ctR]; grind
theorem ltP_V {x y u v : Int} : ltP x y u v = true ↔ ltV ((x : Rat), (y : Rat)) ((u : Rat), (v : Rat)) := by
  unfold ltP
  rw [decide_eq_true_iff]
  show _ ↔ ((x : Rat) < (u : Rat) ∨ ((x : Rat) = (u : Rat) ∧ (y : Rat) < (v : Rat)))
  rw [Rat.intCast_lt_intCast, Rat.intCast_inj, Rat.intCast_lt_intCast]
theorem sqz {p M m : Pt} (h1 : ¬ ltV p M) (h2 : ¬ ltV m p) (h3 : ¬ ltV M m) : p = M := by
  rcases ltV_tri p M with h | h | h
  · exact absurd h h1
  · exact h
  · rcases ltV_tri m p with g | g | g
    · exact absurd g h2
    · exact absurd (g ▸ h) h3
    · exact absurd (ltV_trans h g) h3
theorem one_point {a b : Sg} (ha : sOk a) (hb : sOk b) (hc : com a b ≠ 2) {p q : Pt} (p1 : onS a p) (p2 : onS b p) (q1 : onS a q) (q2 : onS b q) : p = q := by
  rw [onS_iff ha] at p1 q1
  rw [onS_iff hb] at p2 q2
  by_cases h0 : cr a b = 0
  · have h1 := par_ct hb h0 p1.1 p2.1
    unfold com at hc
    rw [if_pos h0, if_pos h1] at hc
    -- the later start and the earlier end
    obtain ⟨M, hM⟩ : ∃ M : Int × Int, M = if ltP (sX a) (sY a) (sX b) (sY b) then (sX b, sY b) else (sX a, sY a) := ⟨_, rfl⟩
    obtain ⟨m, hm⟩ : ∃ m : Int × Int, m = if ltP (eX a) (eY a) (eX b) (eY b) then (eX a, eY a) else (eX b, eY b) := ⟨_, rfl⟩
    have hno : ¬ ltP M.1 M.2 m.1 m.2 = true := by
      intro w
      apply hc
      unfold onl
      rw [hM, hm] at w
      cases h5 : ltP (sX a) (sY a) (sX b) (sY b) <;> cases h6 : ltP (eX a) (eY a) (eX b) (eY b) <;> simp_all
    rw [ltP_V] at hno
    have lo : ∀ r : Pt, ¬ ltV r (pS a) → ¬ ltV r (pS b) → ¬ ltV r ((M.1 : Rat), (M.2 : Rat)) := by
      intro r r1 r2
      rw [hM]
      cases ltP (sX a) (sY a) (sX b) (sY b)
      · exact r1
      · exact r2
    have hi : ∀ r : Pt, ¬ ltV (pE a) r → ¬ ltV (pE b) r → ¬ ltV ((m.1 : Rat), (m.2 : Rat)) r := by
      intro r r1 r2
      rw [hm]
      cases ltP (eX a) (eY a) (eX b) (eY b)
      · exact r2
      · exact r1
    exact (sqz (lo p p1.2.1 p2.2.1) (hi p p1.2.2 p2.2.2) hno).trans (sqz (lo q q1.2.1 q2.2.1) (hi q q1.2.2 q2.2.2) hno).symm
  · exact cross_unique h0 p1.1 p2.1 q1.1 q2.1
theorem le_mul_pos {a b c : Rat} (hc : 0 < c) : a ≤ b ↔ a * c ≤ b * c := ⟨fun h => Rat.mul_le_mul_of_nonneg_right h (Rat.le_of_lt hc), fun h => Rat.le_of_mul_le_mul_right h hc⟩
/-- a point by its share of the way -/
theorem on_share {s : Sg} {t : Rat} (h0 : 0 ≤ t) (h1 : t ≤ 1) {p : Pt} (hx : p.1 = (sX s : Rat) + t * (dX s : Rat)) (hy : p.2 = (sY s : Rat) + t * (dY s : Rat)) (hd : (0 : Rat) ≤ (dX s : Rat)) : onS s p := by
  rw [onS_R]
  unfold onL
  rw [dXr] at hx hd ⊢
  rw [dYr] at hy ⊢
  rw [hx, hy]
  generalize (sX s : Rat) = a at *
  generalize (eX s : Rat) = c at *
  have m1 := Rat.mul_nonneg h0 hd
  have m2 := Rat.mul_nonneg (a := 1 - t) (b := c - a) (by grind) hd
  refine ⟨by grind, ⟨by grind, by grind⟩, ?_⟩
  by_cases q : sY s < eY s
  · rw [if_pos q, if_pos q]
    have q' := Rat.intCast_lt_intCast.mpr q
    generalize (sY s : Rat) = b at *
    generalize (eY s : Rat) = d at *
    have m3 := Rat.mul_nonneg (a := t) (b := d - b) h0 (by grind)
    have m4 := Rat.mul_nonneg (a := 1 - t) (b := d - b) (by grind) (by grind)
    exact ⟨by grind, by grind⟩
  · rw [if_neg q, if_neg q]
    have q' := Rat.intCast_le_intCast.mpr (show eY s ≤ sY s by omega)
    generalize (sY s : Rat) = b at *
    generalize (eY s : Rat) = d at *
    have m3 := Rat.mul_nonneg (a := t) (b := b - d) h0 (by grind)
    have m4 := Rat.mul_nonneg (a := 1 - t) (b := b - d) (by grind) (by grind)
    exact ⟨by grind, by grind⟩
theorem dX_nn {s : Sg} (h : sOk s) : (0 : Rat) ≤ (dX s : Rat) := by
  rcases dir_ok h with h | ⟨h, -⟩
  · exact Rat.le_of_lt h
  · rw [h]; exact Rat.le_refl
theorem prt_share {p q : Int} (hq : q ≠ 0) (h : prt p q = true) : (0 : Rat) ≤ (p : Rat) / (q : Rat) ∧ (p : Rat) / (q : Rat) ≤ 1 := by
  have hq' : (q : Rat) ≠ 0 := fun e => hq (Rat.intCast_inj.mp (e.trans Rat.intCast_zero.symm))
  have e := Rat.div_mul_cancel (a := (p : Rat)) hq'
  generalize (p : Rat) / (q : Rat) = t at e
  unfold prt at h
  split at h
  · next hp =>
    obtain ⟨h1, h2⟩ := of_decide_eq_true h
    have g1 := Rat.intCast_le_intCast.mpr h1
    have g2 := Rat.intCast_le_intCast.mpr h2
    have g3 := Rat.intCast_lt_intCast.mpr hp
    rw [Rat.intCast_zero] at g1 g3
    exact ⟨(le_mul_pos g3).mpr (by grind), (le_mul_pos g3).mpr (by grind)⟩
  · next hp =>
    obtain ⟨h1, h2⟩ := of_decide_eq_true h
    have g1 := Rat.intCast_le_intCast.mpr h1
    have g2 := Rat.intCast_le_intCast.mpr h2
    have g3 := Rat.intCast_lt_intCast.mpr (show 0 < -q by omega)
    rw [Rat.intCast_zero, Rat.intCast_neg] at g3
    rw [Rat.intCast_zero] at g1
    exact ⟨(le_mul_pos g3).mpr (by grind), (le_mul_pos g3).mpr (by grind)⟩
theorem meet_on {a b : Sg} (ha : sOk a) (hb : sOk b) (hc : cr a b ≠ 0) (h : com a b = 1) : onS a (meetP a b) ∧ onS b (meetP a b) := by
  unfold com at h
  rw [if_neg hc] at h
  have h' : prt (ct a b b) (cr a b) = true ∧ prt (ct a b a) (cr a b) = true := by
    by_cases q : (prt (ct a b b) (cr a b) && prt (ct a b a) (cr a b)) = true
    · exact Bool.and_eq_true_iff.mp q
    · rw [if_neg q] at h; cases h
  have hc' : (cr a b : Rat) ≠ 0 := fun e => hc (Rat.intCast_inj.mp (e.trans Rat.intCast_zero.symm))
  obtain ⟨s1, s2⟩ := prt_share hc h'.1
  obtain ⟨u1, u2⟩ := prt_share hc h'.2
  have es := Rat.div_mul_cancel (a := (ct a b b : Rat)) hc'
  have eu := Rat.div_mul_cancel (a := (ct a b a : Rat)) hc'
  have ex : (meetP a b).1 * (cr a b : Rat) = (sX a : Rat) * (cr a b : Rat) + (ct a b b : Rat) * (dX a : Rat) := by
    unfold meetP
    show Rat.divInt _ _ * _ = _
    rw [Rat.divInt_eq_div, Rat.div_mul_cancel hc', Rat.intCast_add, Rat.intCast_mul, Rat.intCast_mul]
  have ey : (meetP a b).2 * (cr a b : Rat) = (sY a : Rat) * (cr a b : Rat) + (ct a b b : Rat) * (dY a : Rat) := by
    unfold meetP
    show Rat.divInt _ _ * _ = _
    rw [Rat.divInt_eq_div, Rat.div_mul_cancel hc', Rat.intCast_add, Rat.intCast_mul, Rat.intCast_mul]
  generalize (ct a b b : Rat) / (cr a b : Rat) = t at *
  generalize (ct a b a : Rat) / (cr a b : Rat) = u at *
  have canc : ∀ {x y : Rat}, (x - y) * (cr a b : Rat) = 0 → x = y := fun h => by
    have := (Rat.mul_eq_zero.mp h).resolve_right hc'
    grind
  constructor
  · exact on_share s1 s2 (canc (by grind)) (canc (by grind)) (dX_nn ha)
  · have i1 : (sX a : Rat) * (cr a b : Rat) + (ct a b b : Rat) * (dX a : Rat) = (sX b : Rat) * (cr a b : Rat) + (ct a b a : Rat) * (dX b : Rat) := by
      rw [ctR, ctR, crR]; grind
    have i2 : (sY a : Rat) * (cr a b : Rat) + (ct a b b : Rat) * (dY a : Rat) = (sY b : Rat) * (cr a b : Rat) + (ct a b a : Rat) * (dY b : Rat) := by
      rw [ctR, ctR, crR]; grind
    refine on_share u1 u2 (canc ?_) (canc ?_) (dX_nn hb)
    · have e : ((meetP a b).1 - ((sX b : Rat) + u * (dX b : Rat))) * (cr a b : Rat) = (meetP a b).1 * (cr a b : Rat) - ((sX b : Rat) * (cr a b : Rat) + (u * (cr a b : Rat)) * (dX b : Rat)) := by
        generalize (cr a b : Rat) = C
        grind
      rw [e, ex, eu, i1]; grind
    · have e : ((meetP a b).2 - ((sY b : Rat) + u * (dY b : Rat))) * (cr a b : Rat) = (meetP a b).2 * (cr a b : Rat) - ((sY b : Rat) * (cr a b : Rat) + (u * (cr a b : Rat)) * (dY b : Rat)) := by
        generalize (cr a b : Rat) = C
        grind
      rw [e, ey, eu, i2]; grind
