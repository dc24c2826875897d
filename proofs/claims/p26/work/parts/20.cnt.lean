/-! ### Counting; at most thirteen vertices lie on a segment -/
def cnt (P : Nat → Bool) : Nat → Nat
  | 0 => 0
  | n + 1 => cnt P n + (if P n then 1 else 0)
theorem cnt_le (P : Nat → Bool) (n : Nat) : cnt P n ≤ n := by
  induction n with
  | zero => exact Nat.le_refl _
  | succ n ih => rw [cnt]; split <;> omega
theorem cnt_congr {P Q : Nat → Bool} {n : Nat} (h : ∀ i, i < n → P i = Q i) : cnt P n = cnt Q n := by
  induction n with
  | zero => rfl
  | succ n ih => rw [cnt, cnt, ih (fun i hi => h i (by omega)), h n (by omega)]
theorem cnt_0 {P : Nat → Bool} {n : Nat} : cnt P n = 0 ↔ ∀ i, i < n → P i = false := by
  induction n with
  | zero => exact ⟨fun _ i hi => by omega, fun _ => rfl⟩
  | succ n ih =>
    rw [cnt]
    constructor
    · intro h i hi
      rcases Nat.lt_or_ge i n with q | q
      · exact ih.mp (by omega) i q
      · have e : i = n := by omega
        subst e
        cases hp : P i
        · rfl
        · rw [hp] at h; simp at h
    · intro h
      rw [ih.mpr (fun i hi => h i (by omega)), h n (by omega)]; rfl
theorem cnt_rm (P : Nat → Bool) (v0 n : Nat) : cnt P n ≤ cnt (fun v => P v && decide (v ≠ v0)) n + (if v0 < n then 1 else 0) := by
  induction n with
  | zero => exact Nat.zero_le _
  | succ n ih =>
    rw [cnt, cnt]
    by_cases q : n = v0
    · subst q
      rw [if_neg (show ¬ n < n by omega)] at ih
      rw [if_pos (show n < n + 1 by omega)]
      have h1 : (if P n = true then 1 else 0) ≤ 1 := by split <;> omega
      omega
    · rw [decide_eq_true q, Bool.and_true]
      by_cases r : v0 < n
      · rw [if_pos r] at ih
        rw [if_pos (show v0 < n + 1 by omega)]; omega
      · rw [if_neg r] at ih
        rw [if_neg (show ¬ v0 < n + 1 by omega)]; omega
theorem pigeon (K : Nat) : ∀ (N : Nat) (P : Nat → Bool) (f : Nat → Nat), (∀ v, v < N → P v = true → f v < K) → (∀ v w, v < N → w < N → P v = true → P w = true → f v = f w → v = w) → cnt P N ≤ K := by
  induction K with
  | zero =>
    intro N P f h _
    rw [cnt_0.mpr (fun i hi => by
      cases hp : P i
      · rfl
      · have := h i hi hp; omega)]
    exact Nat.le_refl _
  | succ K ih =>
    intro N P f h hinj
    by_cases q : ∃ v0, v0 < N ∧ P v0 = true ∧ f v0 = K
    · obtain ⟨v0, h1, h2, h3⟩ := q
      have h4 := cnt_rm P v0 N
      have h5 := ih N (fun v => P v && decide (v ≠ v0)) f (fun v hv hp => by
        have hp := Bool.and_eq_true_iff.mp hp
        have hne := of_decide_eq_true hp.2
        have := h v hv hp.1
        rcases Nat.lt_or_ge (f v) K with q | q
        · exact q
        · exact absurd (hinj v v0 hv h1 hp.1 h2 (by omega)) hne) (fun v w hv hw hp hq he => hinj v w hv hw (Bool.and_eq_true_iff.mp hp).1 (Bool.and_eq_true_iff.mp hq).1 he)
      rw [if_pos h1] at h4
      omega
    · have h5 := ih N P f (fun v hv hp => by
        have := h v hv hp
        rcases Nat.lt_or_ge (f v) K with w | w
        · exact w
        · exact absurd ⟨v, hv, hp, by omega⟩ q) hinj
      omega
def inV (q : VS) (p : Pt) : Prop := ∃ i, i < q.1 ∧ q.2 i = p
theorem inV_ins {q : VS} {p r : Pt} : inV (vins q p) r ↔ inV q r ∨ r = p := vins_mem (n := q.1) (V := q.2) p r
theorem ptI_eq (x y : Int) : ptI x y = ((x : Rat), (y : Rat)) := by
  unfold ptI
  rw [Rat.divInt_eq_div, Rat.divInt_eq_div]
  have h : ∀ z : Int, (z : Rat) / ((1 : Int) : Rat) = (z : Rat) := fun z => by rw [Rat.intCast_one]; grind
  rw [h, h]
def isM (g : Nat → Sg) (i k : Nat) (p : Pt) : Prop := cr (g i) (g k) ≠ 0 ∧ com (g i) (g k) = 1 ∧ p = meetP (g i) (g k)
theorem vJ_mem {g : Nat → Sg} {i : Nat} {q : VS} {p : Pt} : ∀ j, inV (vJ g i j q) p ↔ inV q p ∨ ∃ k, k < j ∧ isM g i k p := by
  intro j
  induction j with
  | zero => exact ⟨Or.inl, fun h => h.elim id (fun ⟨k, hk, _⟩ => by omega)⟩
  | succ j ih =>
    rw [vJ]
    split
    · next hc =>
      rw [inV_ins, ih]
      constructor
      · rintro ((h | ⟨k, h1, h2⟩) | h)
        · exact Or.inl h
        · exact Or.inr ⟨k, by omega, h2⟩
        · exact Or.inr ⟨j, by omega, hc.1, hc.2, h⟩
      · rintro (h | ⟨k, h1, h2⟩)
        · exact Or.inl (Or.inl h)
        · rcases Nat.lt_or_ge k j with w | w
          · exact Or.inl (Or.inr ⟨k, w, h2⟩)
          · have e : k = j := by omega
            subst e; exact Or.inr h2.2.2
    · next hc =>
      rw [ih]
      constructor
      · rintro (h | ⟨k, h1, h2⟩)
        · exact Or.inl h
        · exact Or.inr ⟨k, by omega, h2⟩
      · rintro (h | ⟨k, h1, h2⟩)
        · exact Or.inl h
        · rcases Nat.lt_or_ge k j with w | w
          · exact Or.inr ⟨k, w, h2⟩
          · have e : k = j := by omega
            subst e; exact absurd ⟨h2.1, h2.2.1⟩ hc
theorem vI_mem {g : Nat → Sg} {p : Pt} : ∀ n, inV (vI g n) p ↔ ∃ i, i < n ∧ (p = pS (g i) ∨ p = pE (g i) ∨ ∃ k, k < i ∧ isM g i k p) := by
  intro n
  induction n with
  | zero => exact ⟨fun ⟨i, h, _⟩ => by have : i < 0 := h; omega, fun ⟨i, h, _⟩ => by omega⟩
  | succ n ih =>
    rw [vI, vJ_mem, inV_ins, inV_ins, ih, ptI_eq, ptI_eq]
    constructor
    · rintro (((⟨i, h1, h2⟩ | h) | h) | h)
      · exact ⟨i, by omega, h2⟩
      · exact ⟨n, by omega, Or.inl h⟩
      · exact ⟨n, by omega, Or.inr (Or.inl h)⟩
      · exact ⟨n, by omega, Or.inr (Or.inr h)⟩
    · rintro ⟨i, h1, h2⟩
      rcases Nat.lt_or_ge i n with w | w
      · exact Or.inl (Or.inl (Or.inl ⟨i, w, h2⟩))
      · have e : i = n := by omega
        subst e
        rcases h2 with h2 | h2 | h2
        · exact Or.inl (Or.inl (Or.inr h2))
        · exact Or.inl (Or.inr h2)
        · exact Or.inr h2
/-- the segments are good ones, and no two have more than one point in common -/
def gOk (n : Nat) (g : Nat → Sg) : Prop := (∀ i, i < n → sOk (g i)) ∧ ∀ i j, i < n → j < i → com (g i) (g j) ≠ 2
theorem one_pt {n : Nat} {g : Nat → Sg} (h : gOk n g) {i j : Nat} (hi : i < n) (hj : j < n) (hij : i ≠ j) {p q : Pt} (p1 : onS (g i) p) (p2 : onS (g j) p) (q1 : onS (g i) q) (q2 : onS (g j) q) : p = q := by
  rcases Nat.lt_or_ge j i with w | w
  · exact one_point (h.1 i hi) (h.1 j hj) (h.2 i j hi w) p1 p2 q1 q2
  · exact one_point (h.1 j hj) (h.1 i hi) (h.2 j i hj (by omega)) p2 p1 q2 q1
theorem onS_s {s : Sg} (h : sOk s) : onS s (pS s) := on_share (t := 0) Rat.le_refl (by decide) (by grind) (by grind) (dX_nn h)
theorem onS_e {s : Sg} (h : sOk s) : onS s (pE s) := on_share (t := 1) (by decide) Rat.le_refl (by rw [dXr]; grind) (by rw [dYr]; grind) (dX_nn h)
/-- a vertex on s is an end of s, or lies on another segment too -/
theorem on_other {n : Nat} {g : Nat → Sg} (h : gOk n g) {s : Nat} (hs : s < n) {p : Pt} (hp : inV (vI g n) p) (ho : onS (g s) p) : p = pS (g s) ∨ p = pE (g s) ∨ ∃ t, t < n ∧ t ≠ s ∧ onS (g t) p := by
  obtain ⟨i, hi, h2⟩ := (vI_mem n).mp hp
  by_cases e : i = s
  · subst e
    rcases h2 with h2 | h2 | ⟨k, hk, h3, h4, h5⟩
    · exact Or.inl h2
    · exact Or.inr (Or.inl h2)
    · have := meet_on (h.1 i hi) (h.1 k (by omega)) h3 h4
      exact Or.inr (Or.inr ⟨k, by omega, by omega, by rw [h5]; exact this.2⟩)
  · refine Or.inr (Or.inr ⟨i, hi, e, ?_⟩)
    rcases h2 with h2 | h2 | ⟨k, hk, h3, h4, h5⟩
    · rw [h2]; exact onS_s (h.1 i hi)
    · rw [h2]; exact onS_e (h.1 i hi)
    · have := meet_on (h.1 i hi) (h.1 k (by omega)) h3 h4
      rw [h5]; exact this.1
theorem least_on {n : Nat} {g : Nat → Sg} {s : Nat} {p : Pt} (h : ∃ t, t < n ∧ t ≠ s ∧ onS (g t) p) : ∃ t, t < n ∧ t ≠ s ∧ onS (g t) p := h
theorem vsort_inj {n : Nat} {V : Nat → Pt} (hs : vsort n V) {v w : Nat} (hv : v < n) (hw : w < n) (h : V v = V w) : v = w := by
  rcases Nat.lt_trichotomy v w with q | q | q
  · exact absurd (h ▸ hs v w q hw) (ltV_irr _)
  · exact q
  · exact absurd (h ▸ hs w v q hv) (ltV_irr _)
noncomputable def tagV (n : Nat) (g : Nat → Sg) (s : Nat) (p : Pt) : Nat :=
  if p = pS (g s) then s else if p = pE (g s) then n else Classical.epsilon (fun t => t < n ∧ t ≠ s ∧ onS (g t) p)
theorem on_13 {n : Nat} {g : Nat → Sg} (h : gOk n g) {s : Nat} (hs : s < n) (P : Nat → Bool) (hP : ∀ v, v < (vI g n).1 → P v = true → onS (g s) ((vI g n).2 v)) : cnt P (vI g n).1 ≤ n + 1 := by
  have hsort := (vI_good h.1 n (Nat.le_refl _)).1
  have key : ∀ v, v < (vI g n).1 → P v = true → ((vI g n).2 v = pS (g s) ∧ tagV n g s ((vI g n).2 v) = s) ∨ ((vI g n).2 v ≠ pS (g s) ∧ (vI g n).2 v = pE (g s) ∧ tagV n g s ((vI g n).2 v) = n) ∨ ((vI g n).2 v ≠ pS (g s) ∧ (vI g n).2 v ≠ pE (g s) ∧ tagV n g s ((vI g n).2 v) < n ∧ tagV n g s ((vI g n).2 v) ≠ s ∧ onS (g (tagV n g s ((vI g n).2 v))) ((vI g n).2 v)) := by
    intro v hv hp
    by_cases e1 : (vI g n).2 v = pS (g s)
    · exact Or.inl ⟨e1, by unfold tagV; rw [if_pos e1]⟩
    · by_cases e2 : (vI g n).2 v = pE (g s)
      · exact Or.inr (Or.inl ⟨e1, e2, by unfold tagV; rw [if_neg e1, if_pos e2]⟩)
      · have hx : ∃ t, t < n ∧ t ≠ s ∧ onS (g t) ((vI g n).2 v) := by
          rcases on_other h hs ⟨v, hv, rfl⟩ (hP v hv hp) with w | w | w
          · exact absurd w e1
          · exact absurd w e2
          · exact w
        have ht : tagV n g s ((vI g n).2 v) = Classical.epsilon (fun t => t < n ∧ t ≠ s ∧ onS (g t) ((vI g n).2 v)) := by unfold tagV; rw [if_neg e1, if_neg e2]
        have hc := Classical.epsilon_spec hx
        rw [ht]
        exact Or.inr (Or.inr ⟨e1, e2, hc⟩)
  refine pigeon (n + 1) _ P (fun v => tagV n g s ((vI g n).2 v)) (fun v hv hp => ?_) (fun v w hv hw hp hq he => ?_)
  · rcases key v hv hp with ⟨_, k⟩ | ⟨_, _, k⟩ | ⟨_, _, k, _⟩ <;> show tagV n g s ((vI g n).2 v) < n + 1 <;> omega
  · have he : tagV n g s ((vI g n).2 v) = tagV n g s ((vI g n).2 w) := he
    apply vsort_inj hsort hv hw
    rcases key v hv hp with ⟨a1, k⟩ | ⟨a1, a2, k⟩ | ⟨a1, a2, k1, k2, k3⟩ <;> rcases key w hw hq with ⟨b1, m⟩ | ⟨b1, b2, m⟩ | ⟨b1, b2, m1, m2, m3⟩
    · rw [a1, b1]
    · omega
    · omega
    · omega
    · rw [a2, b2]
    · omega
    · omega
    · omega
    · rw [← he] at m3
      exact one_pt h hs k1 (by omega) (hP v hv hp) k3 (hP w hw hq) m3
