/-! ### the sides around vertices, laid one by one in the order of their keys -/
section CRI
variable {n nV : Nat} {g : Nat → Sg} {q : ES}
/-- t is the side behind s in the ring of the laid ones -/
def isNx (n : Nat) (g : Nat → Sg) (q : ES) (P : Nat → Bool) (s t : Nat) : Prop :=
  (key n g q s < key n g q t ∧ ∀ u, u < 2 * q.1 → P u = true → bg q u = bg q s → ¬ (key n g q s < key n g q u ∧ key n g q u < key n g q t)) ∨ (∀ u, u < 2 * q.1 → P u = true → bg q u = bg q s → key n g q u ≤ key n g q s ∧ key n g q t ≤ key n g q u)
def rng (n nV : Nat) (g : Nat → Sg) (q : ES) (P : Nat → Bool) (f16 f17 f18 f28 : Nat → Int32) : Prop :=
  (∀ v, v < nV → f16 v = nI (cnt (fun s => P s && decide (bg q s = v)) (2 * q.1))) ∧
  (∀ v, v < nV → (∃ s, s < 2 * q.1 ∧ P s = true ∧ bg q s = v) → ∃ lo tp, (lo < 2 * q.1 ∧ P lo = true ∧ bg q lo = v ∧ f17 v = nI lo) ∧ (tp < 2 * q.1 ∧ P tp = true ∧ bg q tp = v ∧ f18 v = nI tp) ∧ ∀ s, s < 2 * q.1 → P s = true → bg q s = v → key n g q lo ≤ key n g q s ∧ key n g q s ≤ key n g q tp) ∧
  ∀ s, s < 2 * q.1 → P s = true → ∃ t, t < 2 * q.1 ∧ P t = true ∧ bg q t = bg q s ∧ f28 s = nI t ∧ isNx n g q P s t
theorem cnt_add1 {P Q : Nat → Bool} {x : Nat} (h1 : P x = false) (h2 : ∀ s, Q s = (P s || decide (s = x))) : ∀ N, cnt Q N = cnt P N + (if x < N then 1 else 0) := by
  intro N
  induction N with
  | zero => rfl
  | succ N ih =>
    rw [cnt, cnt, ih, h2 N]
    by_cases z : N = x
    · subst z
      rw [h1, decide_eq_true rfl]
      simp
    · rw [decide_eq_false z, Bool.or_false]
      by_cases y : x < N
      · rw [if_pos y, if_pos (show x < N + 1 by omega)]; omega
      · rw [if_neg y, if_neg (show ¬ x < N + 1 by omega)]; omega
theorem rng_add {P : Nat → Bool} {f16 f17 f18 f28 : Nat → Int32} (h : rng n nV g q P f16 f17 f18 f28) {x : Nat} (hx : x < 2 * q.1) (hP : P x = false) (hv : bg q x < nV) (hE : 2 * q.1 < 1000) (hk : ∀ s t, s < 2 * q.1 → t < 2 * q.1 → bg q s = bg q t → key n g q s = key n g q t → s = t) (hbig : ∀ s, s < 2 * q.1 → P s = true → bg q s = bg q x → key n g q s < key n g q x) :
    ∃ c t, c < 1000 ∧ f16 (bg q x) = nI c ∧ (c ≠ 0 → f18 (bg q x) = nI t ∧ t < 2 * q.1) ∧ rng n nV g q (fun s => P s || decide (s = x)) (upd f16 (bg q x) (nI (c + 1))) (if c = 0 then upd f17 (bg q x) (nI x) else f17) (upd f18 (bg q x) (nI x)) (if c = 0 then upd f28 x (nI x) else upd (upd f28 t (nI x)) x (f17 (bg q x))) := by
  obtain ⟨r1, r2, r3⟩ := h
  have hc := cnt_le (fun s => P s && decide (bg q s = bg q x)) (2 * q.1)
  have in' : ∀ {s : Nat}, (P s || decide (s = x)) = true → P s = true ∨ s = x := by
    intro s h
    rw [Bool.or_eq_true] at h
    exact h.imp id of_decide_eq_true
  have xin : (P x || decide (x = x)) = true := by rw [decide_eq_true rfl, Bool.or_true]
  have c16 : ∀ v, v < nV → upd f16 (bg q x) (nI (cnt (fun s => P s && decide (bg q s = bg q x)) (2 * q.1) + 1)) v = nI (cnt (fun s => (P s || decide (s = x)) && decide (bg q s = v)) (2 * q.1)) := by
    intro v hvn
    by_cases z : v = bg q x
    · subst z
      rw [upI_s, cnt_add1 (P := fun s => P s && decide (bg q s = bg q x)) (Q := fun s => (P s || decide (s = x)) && decide (bg q s = bg q x)) (x := x) (by simp [hP]) (fun s => by
        by_cases y : s = x
        · subst y; simp [hP]
        · simp [y]), if_pos hx]
    · rw [upI_n z, r1 v hvn]
      congr 1
      refine cnt_congr (fun s _ => ?_)
      by_cases y : s = x
      · subst y
        rw [decide_eq_false (show ¬ bg q s = v from fun w => z w.symm)]; simp
      · rw [decide_eq_false y, Bool.or_false]
  by_cases hc0 : cnt (fun s => P s && decide (bg q s = bg q x)) (2 * q.1) = 0
  · have none' : ∀ s, s < 2 * q.1 → P s = true → bg q s ≠ bg q x := by
      intro s hs hp hb
      have := cnt_0.mp hc0 s hs
      simp [hp, hb] at this
    refine ⟨_, 0, by omega, r1 _ hv, fun w => absurd hc0 w, c16, fun v hvn hex => ?_, fun s hs hp => ?_⟩
    · rw [if_pos hc0]
      by_cases z : v = bg q x
      · subst z
        refine ⟨x, x, ⟨hx, xin, rfl, upI_s⟩, ⟨hx, xin, rfl, upI_s⟩, fun s hs hp hb => ?_⟩
        rcases in' hp with w | w
        · exact absurd hb (none' s hs w)
        · subst w; exact ⟨Nat.le_refl _, Nat.le_refl _⟩
      · obtain ⟨s, s1, s2, s3⟩ := hex
        have s2' : P s = true := by
          rcases in' s2 with w | w
          · exact w
          · subst w; exact absurd s3.symm z
        obtain ⟨lo, tp, ⟨l1, l2, l3, l4⟩, ⟨t1, t2, t3, t4⟩, a⟩ := r2 v hvn ⟨s, s1, s2', s3⟩
        refine ⟨lo, tp, ⟨l1, by simp [l2], l3, by rw [upI_n z]; exact l4⟩, ⟨t1, by simp [t2], t3, by rw [upI_n z]; exact t4⟩, fun s hs hp hb => ?_⟩
        rcases in' hp with w | w
        · exact a s hs w hb
        · subst w; exact absurd hb.symm z
    · rw [if_pos hc0]
      by_cases y : s = x
      · subst y
        refine ⟨s, hs, xin, rfl, upI_s, Or.inr (fun u hu hpu hbu => ?_)⟩
        rcases in' hpu with w | w
        · exact absurd hbu (none' u hu w)
        · subst w; exact ⟨Nat.le_refl _, Nat.le_refl _⟩
      · have hps : P s = true := (in' hp).resolve_right y
        obtain ⟨t, t1, t2, t3, t4, t5⟩ := r3 s hs hps
        refine ⟨t, t1, by simp [t2], t3, by rw [upI_n y]; exact t4, ?_⟩
        have ne : ∀ {u : Nat}, (P u || decide (u = x)) = true → bg q u = bg q s → P u = true := by
          intro u hu hb
          rcases in' hu with w | w
          · exact w
          · subst w; exact absurd hb.symm (none' s hs hps)
        rcases t5 with ⟨t5, t6⟩ | t5
        · exact Or.inl ⟨t5, fun u hu hpu hbu => t6 u hu (ne hpu hbu) hbu⟩
        · exact Or.inr (fun u hu hpu hbu => t5 u hu (ne hpu hbu) hbu)
  · have hex : ∃ s, s < 2 * q.1 ∧ P s = true ∧ bg q s = bg q x := by
      apply Classical.byContradiction
      intro w
      refine hc0 (cnt_0.mpr (fun s hs => ?_))
      cases hps : P s
      · rfl
      · rw [decide_eq_false (fun hb => w ⟨s, hs, hps, hb⟩)]; rfl
    obtain ⟨lo, tp, ⟨l1, l2, l3, l4⟩, ⟨t1, t2, t3, t4⟩, a⟩ := r2 _ hv hex
    refine ⟨_, tp, by omega, r1 _ hv, fun _ => ⟨t4, t1⟩, c16, fun v hvn hex2 => ?_, fun s hs hp => ?_⟩
    · rw [if_neg hc0]
      by_cases z : v = bg q x
      · subst z
        refine ⟨lo, x, ⟨l1, by simp [l2], l3, l4⟩, ⟨hx, xin, rfl, upI_s⟩, fun s hs hp hb => ?_⟩
        rcases in' hp with w | w
        · have := hbig s hs w hb
          exact ⟨(a s hs w hb).1, by omega⟩
        · subst w
          have := hbig lo l1 l2 l3
          exact ⟨by omega, Nat.le_refl _⟩
      · obtain ⟨s, s1, s2, s3⟩ := hex2
        have s2' : P s = true := by
          rcases in' s2 with w | w
          · exact w
          · subst w; exact absurd s3.symm z
        obtain ⟨lo, tp, ⟨l1, l2, l3, l4⟩, ⟨t1, t2, t3, t4⟩, a⟩ := r2 v hvn ⟨s, s1, s2', s3⟩
        refine ⟨lo, tp, ⟨l1, by simp [l2], l3, l4⟩, ⟨t1, by simp [t2], t3, by rw [upI_n z]; exact t4⟩, fun s hs hp hb => ?_⟩
        rcases in' hp with w | w
        · exact a s hs w hb
        · subst w; exact absurd hb.symm z
    · rw [if_neg hc0]
      by_cases y : s = x
      · subst y
        refine ⟨lo, l1, by simp [l2], l3, by rw [upI_s]; exact l4, Or.inr (fun u hu hpu hbu => ?_)⟩
        rcases in' hpu with w | w
        · have := hbig u hu w hbu
          exact ⟨by omega, (a u hu w hbu).1⟩
        · subst w
          have := hbig lo l1 l2 l3
          exact ⟨Nat.le_refl _, by omega⟩
      · have hps : P s = true := (in' hp).resolve_right y
        by_cases yt : s = tp
        · subst yt
          refine ⟨x, hx, xin, t3.symm, by rw [upI_n y, upI_s], Or.inl ⟨hbig s hs hps t3, fun u hu hpu hbu hh => ?_⟩⟩
          rcases in' hpu with w | w
          · have := (a u hu w (hbu.trans t3)).2; omega
          · subst w; omega
        · obtain ⟨t, u1, u2, u3, u4, u5⟩ := r3 s hs hps
          refine ⟨t, u1, by simp [u2], u3, by rw [upI_n y, upI_n yt]; exact u4, ?_⟩
          by_cases hb : bg q s = bg q x
          · have ht := hbig t u1 u2 (u3.trans hb)
            rcases u5 with ⟨u5, u6⟩ | u5
            · refine Or.inl ⟨u5, fun u hu hpu hbu hh => ?_⟩
              rcases in' hpu with w | w
              · exact u6 u hu w hbu hh
              · subst w; omega
            · exfalso
              have e1 := (u5 tp t1 t2 (t3.trans hb.symm)).1
              have e2 := (a s hs hps hb).2
              exact yt (hk s tp hs t1 (hb.trans t3.symm) (by omega))
          · have ne : ∀ {u : Nat}, (P u || decide (u = x)) = true → bg q u = bg q s → P u = true := by
              intro u hu hb2
              rcases in' hu with w | w
              · exact w
              · subst w; exact absurd hb2.symm hb
            rcases u5 with ⟨u5, u6⟩ | u5
            · exact Or.inl ⟨u5, fun u hu hpu hbu => u6 u hu (ne hpu hbu) hbu⟩
            · exact Or.inr (fun u hu hpu hbu => u5 u hu (ne hpu hbu) hbu)
end CRI
