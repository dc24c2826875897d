/-! ### A common point of two segments is a vertex; lines in fractions -/
theorem leV_tr {a b c : Pt} (h1 : ¬ ltV b a) (h2 : ¬ ltV c b) : ¬ ltV c a := by
  intro h3
  rcases ltV_tri a b with w | w | w
  · exact h2 (ltV_trans h3 w)
  · rw [w] at h3; exact h2 h3
  · exact h1 w
theorem ltV_le {a b c : Pt} (h1 : ltV a b) (h2 : ¬ ltV c b) : ltV a c := by
  rcases ltV_tri b c with w | w | w
  · exact ltV_trans h1 w
  · exact w ▸ h1
  · exact absurd w h2
theorem leV_lt {a b c : Pt} (h1 : ¬ ltV b a) (h2 : ltV b c) : ltV a c := by
  rcases ltV_tri a b with w | w | w
  · exact ltV_trans w h2
  · exact w ▸ h2
  · exact absurd w h1
theorem par_end {a b : Sg} (ha : sOk a) (hb : sOk b) (h0 : cr a b = 0) (hc : com a b ≠ 2) {p : Pt} (p1 : onS a p) (p2 : onS b p) : p = pS a ∨ p = pS b := by
  rw [onS_iff ha] at p1
  rw [onS_iff hb] at p2
  have h1 := par_ct hb h0 p1.1 p2.1
  unfold com at hc
  rw [if_pos h0, if_pos h1] at hc
  obtain ⟨M, hM⟩ : ∃ M : Int × Int, M = if ltP (sX a) (sY a) (sX b) (sY b) then (sX b, sY b) else (sX a, sY a) := ⟨_, rfl⟩
  obtain ⟨m, hm⟩ : ∃ m : Int × Int, m = if ltP (eX a) (eY a) (eX b) (eY b) then (eX a, eY a) else (eX b, eY b) := ⟨_, rfl⟩
  have hno : ¬ ltP M.1 M.2 m.1 m.2 = true := by
    intro w
    apply hc
    unfold onl
    rw [hM, hm] at w
    cases h5 : ltP (sX a) (sY a) (sX b) (sY b) <;> cases h6 : ltP (eX a) (eY a) (eX b) (eY b) <;> simp_all
  rw [ltP_V] at hno
  have lo : ∀ r : Pt, ¬ ltV r (pS a) → ¬ ltV r (pS b) → ¬ ltV r ((M.1 : Rat), (M.2 : Rat)) := by
    intro r r1 r2
    rw [hM]
    cases ltP (sX a) (sY a) (sX b) (sY b)
    · exact r1
    · exact r2
  have hi : ∀ r : Pt, ¬ ltV (pE a) r → ¬ ltV (pE b) r → ¬ ltV ((m.1 : Rat), (m.2 : Rat)) r := by
    intro r r1 r2
    rw [hm]
    cases ltP (eX a) (eY a) (eX b) (eY b)
    · exact r2
    · exact r1
  have hp := sqz (lo p p1.2.1 p2.2.1) (hi p p1.2.2 p2.2.2) hno
  rw [hM] at hp
  cases h5 : ltP (sX a) (sY a) (sX b) (sY b)
  · rw [h5] at hp; exact Or.inl hp
  · rw [h5] at hp; exact Or.inr hp
/-- a share of the way is one between none and all -/
theorem prt_of {T C : Int} (hC : C ≠ 0) {u D : Rat} (hD : 0 < D) (h : (C : Rat) * u = D * (T : Rat)) (h0 : 0 ≤ u) (h1 : u ≤ D) : prt T C = true := by
  have hC' : (C : Rat) ≠ 0 := fun e => hC (Rat.intCast_inj.mp (e.trans Rat.intCast_zero.symm))
  unfold prt
  have z0 : (((0 : Int) : Int) : Rat) = 0 := Rat.intCast_zero
  by_cases q : 0 < C
  · rw [if_pos q]
    have q' := Rat.intCast_lt_intCast.mpr q
    rw [z0] at q'
    have m1 := Rat.mul_nonneg (Rat.le_of_lt q') h0
    have m2 := Rat.mul_nonneg (a := (C : Rat)) (b := D - u) (Rat.le_of_lt q') (by grind)
    apply decide_eq_true
    constructor
    · apply Rat.intCast_le_intCast.mp
      rw [z0]
      exact (le_mul_pos hD).mpr (by grind)
    · apply Rat.intCast_le_intCast.mp
      exact (le_mul_pos hD).mpr (by grind)
  · rw [if_neg q]
    have q' := Rat.intCast_lt_intCast.mpr (show C < 0 by omega)
    rw [z0] at q'
    have m1 := Rat.mul_nonneg (a := -(C : Rat)) (by grind) h0
    have m2 := Rat.mul_nonneg (a := -(C : Rat)) (b := D - u) (by grind) (by grind)
    apply decide_eq_true
    constructor
    · apply Rat.intCast_le_intCast.mp
      rw [z0]
      exact (le_mul_pos hD).mpr (by grind)
    · apply Rat.intCast_le_intCast.mp
      exact (le_mul_pos hD).mpr (by grind)
theorem onS_bd {s : Sg} (h : sOk s) {p : Pt} (hp : onS s p) : (0 < (dX s : Rat) ∧ 0 ≤ p.1 - (sX s : Rat) ∧ p.1 - (sX s : Rat) ≤ (dX s : Rat)) ∨ ((dX s : Rat) = 0 ∧ 0 < (dY s : Rat) ∧ 0 ≤ p.2 - (sY s : Rat) ∧ p.2 - (sY s : Rat) ≤ (dY s : Rat)) := by
  have hR := (onS_R s p).mp hp
  obtain ⟨-, ⟨h1, h2⟩, h3, h4⟩ := hR
  rcases dir_ok h with d | ⟨d1, d2⟩
  · left
    refine ⟨d, by grind, ?_⟩
    rw [dXr]; grind
  · right
    have hlt : sY s < eY s := by
      have : (0 : Int) < dY s := Rat.intCast_lt_intCast.mp (by rw [Rat.intCast_zero]; exact d2)
      unfold dY at this; omega
    rw [if_pos hlt] at h3 h4
    refine ⟨d1, d2, by grind, ?_⟩
    rw [dYr]; grind
theorem two_vert0 {n : Nat} {g : Nat → Sg} (hg : gOk n g) {i j : Nat} (hi : i < n) (hji : j < i) {p : Pt} (p1 : onS (g i) p) (p2 : onS (g j) p) : inV (vI g n) p := by
  have hj : j < n := by omega
  have ha := hg.1 i hi
  have hb := hg.1 j hj
  rw [vI_mem]
  by_cases h0 : cr (g i) (g j) = 0
  · rcases par_end ha hb h0 (hg.2 i j hi hji) p1 p2 with w | w
    · exact ⟨i, hi, Or.inl w⟩
    · exact ⟨j, hj, Or.inl w⟩
  · refine ⟨i, hi, Or.inr (Or.inr ⟨j, hji, h0, ?_⟩)⟩
    have l1 := ((onS_iff ha p).mp p1).1
    have l2 := ((onS_iff hb p).mp p2).1
    have b1 := onS_bd ha p1
    have b2 := onS_bd hb p2
    have hcom : com (g i) (g j) = 1 := by
      unfold com
      rw [if_neg h0]
      have q1 : prt (ct (g i) (g j) (g j)) (cr (g i) (g j)) = true := by
        unfold onL at l1 l2
        rcases b1 with ⟨d, c1, c2⟩ | ⟨d0, d, c1, c2⟩
        · exact prt_of h0 d (by rw [crR, ctR]; grind) c1 c2
        · exact prt_of h0 d (by rw [crR, ctR]; grind) c1 c2
      have q2 : prt (ct (g i) (g j) (g i)) (cr (g i) (g j)) = true := by
        unfold onL at l1 l2
        rcases b2 with ⟨d, c1, c2⟩ | ⟨d0, d, c1, c2⟩
        · exact prt_of h0 d (by rw [crR, ctR]; grind) c1 c2
        · exact prt_of h0 d (by rw [crR, ctR]; grind) c1 c2
      rw [q1, q2]; rfl
    obtain ⟨m1, m2⟩ := meet_on ha hb h0 hcom
    exact ⟨hcom, cross_unique h0 l1 l2 ((onS_iff ha _).mp m1).1 ((onS_iff hb _).mp m2).1⟩
theorem two_vert {n : Nat} {g : Nat → Sg} (hg : gOk n g) {i j : Nat} (hi : i < n) (hj : j < n) (hij : i ≠ j) {p : Pt} (p1 : onS (g i) p) (p2 : onS (g j) p) : inV (vI g n) p := by
  rcases Nat.lt_or_ge j i with w | w
  · exact two_vert0 hg hi w p1 p2
  · exact two_vert0 hg hj (by omega) p2 p1
/-- the slope and the line of a segment that is not vertical -/
def slp (s : Sg) : Rat := (dY s : Rat) / (dX s : Rat)
def lny (s : Sg) (X : Rat) : Rat := (sY s : Rat) + slp s * (X - (sX s : Rat))
theorem dX_pos {s : Sg} (h : 0 < dX s) : (0 : Rat) < (dX s : Rat) := by
  have := Rat.intCast_lt_intCast.mpr h
  rw [Rat.intCast_zero] at this; exact this
theorem dX_n0 {s : Sg} (h : 0 < dX s) : (dX s : Rat) ≠ 0 := fun e => by
  have := dX_pos h
  rw [e] at this
  exact Rat.lt_irrefl this
theorem slp_mul {s : Sg} (h : 0 < dX s) : slp s * (dX s : Rat) = (dY s : Rat) := Rat.div_mul_cancel (dX_n0 h)
theorem onL_lny {s : Sg} (h : 0 < dX s) (p : Pt) : onL s p ↔ p.2 = lny s p.1 := by
  have h1 := slp_mul h
  have h2 := dX_n0 h
  unfold onL lny
  generalize slp s = m at *
  generalize (dX s : Rat) = a at *
  generalize (dY s : Rat) = b at *
  subst h1
  constructor
  · intro e
    have e2 : a * (p.2 - (sY s : Rat) - m * (p.1 - (sX s : Rat))) = 0 := by grind
    have := (Rat.mul_eq_zero.mp e2).resolve_left h2
    grind
  · intro e; rw [e]; grind
theorem rmul_pos_iff {c a : Rat} (hc : 0 < c) : 0 < c * a ↔ 0 < a := by
  constructor
  · intro h
    rcases rat_tri 0 a with w | w | w
    · exact w
    · rw [← w] at h; grind
    · have := Rat.mul_pos hc (show 0 < -a by grind)
      grind
  · exact Rat.mul_pos hc
theorem slp_cr {a b : Sg} (ha : 0 < dX a) (hb : 0 < dX b) : 0 < cr a b ↔ slp a < slp b := by
  have h1 := slp_mul ha
  have h2 := slp_mul hb
  have m := Rat.mul_pos (dX_pos ha) (dX_pos hb)
  have e : (cr a b : Rat) = ((dX a : Rat) * (dX b : Rat)) * (slp b - slp a) := by
    rw [crR]; grind
  rw [← Rat.intCast_lt_intCast, Rat.intCast_zero, e, rmul_pos_iff m]
  constructor <;> intro h <;> grind
theorem lin_sw {u B L : Rat} (hL : 0 < L) (hn : ∀ t, 0 < t → t < L → u + B * t ≠ 0) : (0 < u ∨ (u = 0 ∧ 0 < B)) ↔ (0 < u + B * L ∨ (u + B * L = 0 ∧ B < 0)) := by
  have half : (1 / 2 : Rat) * 2 = 1 := by grind
  rcases rat_tri B 0 with hB | hB | hB
  · have hB0 : B ≠ 0 := fun e => by rw [e] at hB; exact Rat.lt_irrefl hB
    have mBL := Rat.mul_pos (show 0 < -B by grind) hL
    constructor
    · rintro (h | ⟨h, h2⟩)
      · rcases rat_tri (u + B * L) 0 with w | w | w
        · exfalso
          have ht : B * ((-u) / B) = -u := by rw [Rat.mul_comm]; exact Rat.div_mul_cancel hB0
          generalize (-u) / B = t at ht
          refine hn t ?_ ?_ (by grind)
          · rcases rat_tri 0 t with v | v | v
            · exact v
            · rw [← v] at ht; grind
            · have := Rat.mul_pos (show 0 < -B by grind) (show 0 < -t by grind); grind
          · rcases rat_tri t L with v | v | v
            · exact v
            · rw [v] at ht; grind
            · have := Rat.mul_pos (show 0 < -B by grind) (show 0 < t - L by grind); grind
        · exact Or.inr ⟨w, hB⟩
        · exact Or.inl w
      · exfalso; grind
    · rintro (h | ⟨h, h2⟩)
      · left; grind
      · left; grind
  · subst hB
    have hm := hn (L * (1 / 2)) (by grind) (by grind)
    constructor
    · rintro (h | ⟨h, h2⟩)
      · left; grind
      · exact absurd h2 Rat.lt_irrefl
    · rintro (h | ⟨h, h2⟩)
      · left; grind
      · exact absurd h2 Rat.lt_irrefl
  · have hB0 : B ≠ 0 := fun e => by rw [e] at hB; exact Rat.lt_irrefl hB
    have mBL := Rat.mul_pos hB hL
    constructor
    · rintro (h | ⟨h, h2⟩)
      · left; grind
      · left; grind
    · rintro (h | ⟨h, h2⟩)
      · rcases rat_tri 0 u with w | w | w
        · exact Or.inl w
        · exact Or.inr ⟨w.symm, hB⟩
        · exfalso
          have ht : B * ((-u) / B) = -u := by rw [Rat.mul_comm]; exact Rat.div_mul_cancel hB0
          generalize (-u) / B = t at ht
          refine hn t ?_ ?_ (by grind)
          · rcases rat_tri 0 t with v | v | v
            · exact v
            · rw [← v] at ht; grind
            · have := Rat.mul_pos hB (show 0 < -t by grind); grind
          · rcases rat_tri t L with v | v | v
            · exact v
            · rw [v] at ht; grind
            · have := Rat.mul_pos hB (show 0 < t - L by grind); grind
      · exfalso; grind
/-- t runs below s just beside X: to the left (L) or to the right -/
def lowB (L : Bool) (t s : Sg) (X : Rat) : Bool := decide (lny t X < lny s X) || (decide (lny t X = lny s X) && (if L then decide (slp s < slp t) else decide (slp t < slp s)))
theorem low_sw {s t : Sg} {lo hi : Rat} (h : lo < hi) (hn : ∀ X, lo < X → X < hi → lny s X ≠ lny t X) : lowB false t s lo = lowB true t s hi := by
  have key := lin_sw (u := lny s lo - lny t lo) (B := slp s - slp t) (L := hi - lo) (by grind) (fun d h1 h2 h3 => hn (lo + d) (by grind) (by grind) (by unfold lny at *; grind))
  have e1 : lny s lo - lny t lo + (slp s - slp t) * (hi - lo) = lny s hi - lny t hi := by unfold lny; grind
  rw [e1] at key
  have k1 : (0 < lny s lo - lny t lo ↔ lny t lo < lny s lo) := ⟨fun h => by grind, fun h => by grind⟩
  have k2 : (lny s lo - lny t lo = 0 ↔ lny t lo = lny s lo) := ⟨fun h => by grind, fun h => by grind⟩
  have k3 : (0 < lny s hi - lny t hi ↔ lny t hi < lny s hi) := ⟨fun h => by grind, fun h => by grind⟩
  have k4 : (lny s hi - lny t hi = 0 ↔ lny t hi = lny s hi) := ⟨fun h => by grind, fun h => by grind⟩
  have k5 : (0 < slp s - slp t ↔ slp t < slp s) := ⟨fun h => by grind, fun h => by grind⟩
  have k6 : (slp s - slp t < 0 ↔ slp s < slp t) := ⟨fun h => by grind, fun h => by grind⟩
  rw [k1, k2, k3, k4, k5, k6] at key
  unfold lowB
  rw [Bool.eq_iff_iff]
  simp only [Bool.or_eq_true, Bool.and_eq_true, decide_eq_true_eq, if_true, Bool.false_eq_true, if_false]
  exact key
theorem lowB_irr (L : Bool) (s : Sg) (X : Rat) : lowB L s s X = false := by
  unfold lowB
  rw [decide_eq_false (Rat.lt_irrefl), decide_eq_false (Rat.lt_irrefl)]
  cases L <;> simp
