/-! ### What the row of edges is: the stretches between neighbours on each segment, in order -/
/-- u and w are neighbours on the segment s -/
def nbr (g : Nat → Sg) (V : Nat → Pt) (s u w : Nat) : Prop := u < w ∧ onB (g s) (V u) = true ∧ onB (g s) (V w) = true ∧ ∀ k, u < k → k < w → onB (g s) (V k) = false
theorem eJ_inv (g : Nat → Sg) (V : Nat → Pt) (s : Nat) (q : ES) : ∀ v, (q.1 ≤ (eJ g V s v q).1.1 ∧ ∀ e, e < q.1 → (eJ g V s v q).1.2 e = q.2 e) ∧
    (∀ e, q.1 ≤ e → e < (eJ g V s v q).1.1 → ∃ u w, (eJ g V s v q).1.2 e = (s, u, w) ∧ w < v ∧ nbr g V s u w ∧ ∀ x, (eJ g V s v q).2 = some x → w ≤ x) ∧
    (((eJ g V s v q).2 = none → ∀ k, k < v → onB (g s) (V k) = false) ∧ ∀ x, (eJ g V s v q).2 = some x → x < v ∧ onB (g s) (V x) = true ∧ ∀ k, x < k → k < v → onB (g s) (V k) = false) ∧
    (∀ u w, w < v → nbr g V s u w → ∃ e, q.1 ≤ e ∧ e < (eJ g V s v q).1.1 ∧ (eJ g V s v q).1.2 e = (s, u, w)) ∧
    (∀ e e', q.1 ≤ e → e < e' → e' < (eJ g V s v q).1.1 → eF (eJ g V s v q).1 e < eF (eJ g V s v q).1 e') := by
  intro v
  induction v with
  | zero =>
    refine ⟨⟨Nat.le_refl _, fun _ _ => rfl⟩, fun e h1 h2 => ?_, ⟨fun _ k hk => by omega, fun x hx => by cases hx⟩, fun u w hw => by omega, fun e e' h1 h2 h3 => ?_⟩
    · have : e < q.1 := h2; omega
    · have : e' < q.1 := h3; omega
  | succ v ih =>
    obtain ⟨⟨a1, a2⟩, b, ⟨c1, c2⟩, d, e0⟩ := ih
    cases hb : onB (g s) (V v)
    · have e : eJ g V s (v + 1) q = eJ g V s v q := by rw [eJ, hb]; rfl
      rw [e]
      refine ⟨⟨a1, a2⟩, fun e h1 h2 => ?_, ⟨fun h k hk => ?_, fun x hx => ?_⟩, fun u w hw hn => ?_, e0⟩
      · obtain ⟨u, w, x1, x2, x3⟩ := b e h1 h2
        exact ⟨u, w, x1, by omega, x3⟩
      · rcases Nat.lt_or_ge k v with z | z
        · exact c1 h k z
        · have : k = v := by omega
          subst this; exact hb
      · obtain ⟨x1, x2, x3⟩ := c2 x hx
        refine ⟨by omega, x2, fun k h1 h2 => ?_⟩
        rcases Nat.lt_or_ge k v with z | z
        · exact x3 k h1 z
        · have : k = v := by omega
          subst this; exact hb
      · rcases Nat.lt_or_ge w v with z | z
        · exact d u w z hn
        · have : w = v := by omega
          subst this
          have := hn.2.2.1
          rw [hb] at this; cases this
    · have e2 : (eJ g V s (v + 1) q).2 = some v := by rw [eJ, hb]; rfl
      cases ho : (eJ g V s v q).2 with
      | none =>
        have e1 : (eJ g V s (v + 1) q).1 = (eJ g V s v q).1 := by rw [eJ, hb, ho]; rfl
        rw [e1, e2]
        refine ⟨⟨a1, a2⟩, fun e h1 h2 => ?_, ⟨(fun h => by cases h), fun x hx => ?_⟩, fun u w hw hn => ?_, e0⟩
        · obtain ⟨u, w, x1, x2, x3, x4⟩ := b e h1 h2
          exact ⟨u, w, x1, by omega, x3, fun x hx => by cases hx; omega⟩
        · cases hx
          exact ⟨by omega, hb, fun k h1 h2 => by omega⟩
        · rcases Nat.lt_or_ge w v with z | z
          · exact d u w z hn
          · have : w = v := by omega
            subst this
            have := c1 ho u hn.1
            rw [hn.2.1] at this; cases this
      | some u0 =>
        obtain ⟨y1, y2, y3⟩ := c2 u0 ho
        have e1 : (eJ g V s (v + 1) q).1 = epush (eJ g V s v q).1 (s, u0, v) := by rw [eJ, hb, ho]; rfl
        rw [e1, e2]
        have old : ∀ e, e < (eJ g V s v q).1.1 → (epush (eJ g V s v q).1 (s, u0, v)).2 e = (eJ g V s v q).1.2 e := fun e he => by
          show (if e = _ then _ else _) = _
          rw [if_neg (by omega)]
        have new : (epush (eJ g V s v q).1 (s, u0, v)).2 (eJ g V s v q).1.1 = (s, u0, v) := by
          show (if _ = _ then _ else _) = _
          rw [if_pos rfl]
        have hn1 : (epush (eJ g V s v q).1 (s, u0, v)).1 = (eJ g V s v q).1.1 + 1 := rfl
        rw [hn1]
        refine ⟨⟨by omega, fun e he => by rw [old e (by omega)]; exact a2 e he⟩, fun e h1 h2 => ?_, ⟨(fun h => by cases h), fun x hx => ?_⟩, fun u w hw hn => ?_, fun e e' h1 h2 h3 => ?_⟩
        · rcases Nat.lt_or_ge e (eJ g V s v q).1.1 with z | z
          · obtain ⟨u, w, x1, x2, x3, x4⟩ := b e h1 z
            exact ⟨u, w, by rw [old e z]; exact x1, by omega, x3, fun x hx => by cases hx; omega⟩
          · have : e = (eJ g V s v q).1.1 := by omega
            subst this
            exact ⟨u0, v, new, by omega, ⟨y1, y2, hb, fun k h1 h2 => y3 k h1 h2⟩, fun x hx => by cases hx; omega⟩
        · cases hx
          exact ⟨by omega, hb, fun k h1 h2 => by omega⟩
        · rcases Nat.lt_or_ge w v with z | z
          · obtain ⟨e, x1, x2, x3⟩ := d u w z hn
            exact ⟨e, x1, by omega, by rw [old e x2]; exact x3⟩
          · have : w = v := by omega
            subst this
            obtain ⟨z1, z2, z3, z4⟩ := hn
            have : u = u0 := by
              rcases Nat.lt_trichotomy u u0 with r | r | r
              · have := z4 u0 r y1; rw [y2] at this; cases this
              · exact r
              · have := y3 u r z1; rw [z2] at this; cases this
            subst this
            exact ⟨_, a1, by omega, new⟩
        · show ((epush (eJ g V s v q).1 (s, u0, v)).2 e).2.1 < ((epush (eJ g V s v q).1 (s, u0, v)).2 e').2.1
          rcases Nat.lt_or_ge e' (eJ g V s v q).1.1 with z | z
          · rw [old e (by omega), old e' z]; exact e0 e e' h1 h2 z
          · have : e' = (eJ g V s v q).1.1 := by omega
            subst this
            rw [old e h2, new]
            obtain ⟨u, w, x1, x2, x3, x4⟩ := b e h1 h2
            rw [x1]
            have := x4 u0 ho
            have := x3.1
            show u < u0
            omega
abbrev eS (q : ES) (e : Nat) : Nat := (q.2 e).1
/-- the row of edges of n segments and nV vertices -/
def EOk (g : Nat → Sg) (V : Nat → Pt) (n nV : Nat) (q : ES) : Prop :=
  (∀ e, e < q.1 → eS q e < n ∧ eT q e < nV ∧ nbr g V (eS q e) (eF q e) (eT q e)) ∧
  (∀ s u w, s < n → w < nV → nbr g V s u w → ∃ e, e < q.1 ∧ q.2 e = (s, u, w)) ∧
  (∀ e e', e < e' → e' < q.1 → eS q e < eS q e' ∨ (eS q e = eS q e' ∧ eF q e < eF q e'))
theorem eI_ok (g : Nat → Sg) (V : Nat → Pt) (nV : Nat) : ∀ n, EOk g V n nV (eI g V nV n) := by
  intro n
  induction n with
  | zero => exact ⟨fun e h => by have : e < 0 := h; omega, fun s u w h => by omega, fun e e' h1 h2 => by have : e' < 0 := h2; omega⟩
  | succ n ih =>
    obtain ⟨i1, i2, i3⟩ := ih
    obtain ⟨⟨a1, a2⟩, b, -, d, e0⟩ := eJ_inv g V n (eI g V nV n) nV
    rw [eI]
    refine ⟨fun e he => ?_, fun s u w hs hw hn => ?_, fun e e' h1 h2 => ?_⟩
    · rcases Nat.lt_or_ge e (eI g V nV n).1 with z | z
      · unfold eS eF eT
        rw [a2 e z]
        obtain ⟨x1, x2, x3⟩ := i1 e z
        exact ⟨Nat.lt_succ_of_lt x1, x2, x3⟩
      · obtain ⟨u, w, x1, x2, x3, -⟩ := b e z he
        unfold eS eF eT
        rw [x1]
        exact ⟨by show n < n + 1; omega, x2, x3⟩
    · rcases Nat.lt_or_ge s n with z | z
      · obtain ⟨e, x1, x2⟩ := i2 s u w z hw hn
        exact ⟨e, by omega, by rw [a2 e x1]; exact x2⟩
      · have : s = n := by omega
        subst this
        obtain ⟨e, x1, x2, x3⟩ := d u w hw hn
        exact ⟨e, x2, x3⟩
    · rcases Nat.lt_or_ge e' (eI g V nV n).1 with z | z
      · unfold eS eF
        rw [a2 e (by omega), a2 e' z]
        exact i3 e e' h1 z
      · obtain ⟨u', w', x1', -, -, -⟩ := b e' z h2
        rcases Nat.lt_or_ge e (eI g V nV n).1 with y | y
        · left
          unfold eS
          rw [a2 e y, x1']
          exact (i1 e y).1
        · right
          obtain ⟨u, w, x1, -, -, -⟩ := b e y (by omega)
          refine ⟨?_, e0 e e' y h1 h2⟩
          unfold eS
          rw [x1, x1']
theorem EOk.uniq {g : Nat → Sg} {V : Nat → Pt} {n nV : Nat} {q : ES} (h : EOk g V n nV q) {e e' : Nat} (he : e < q.1) (he' : e' < q.1) (hs : eS q e = eS q e') (hf : eF q e = eF q e') : e = e' := by
  rcases Nat.lt_trichotomy e e' with z | z | z
  · rcases h.2.2 e e' z he' with w | w <;> omega
  · exact z
  · rcases h.2.2 e' e z he with w | w <;> omega
theorem EOk.uniqT {g : Nat → Sg} {V : Nat → Pt} {n nV : Nat} {q : ES} (h : EOk g V n nV q) {e e' : Nat} (he : e < q.1) (he' : e' < q.1) (hs : eS q e = eS q e') (hf : eT q e = eT q e') : e = e' := by
  obtain ⟨-, -, n1⟩ := h.1 e he
  obtain ⟨-, -, n2⟩ := h.1 e' he'
  refine h.uniq he he' hs ?_
  rw [← hs, ← hf] at n2
  rcases Nat.lt_trichotomy (eF q e) (eF q e') with z | z | z
  · have := n1.2.2.2 _ z n2.1; rw [n2.2.1] at this; cases this
  · exact z
  · have := n2.2.2.2 _ z n1.1; rw [n1.2.1] at this; cases this
