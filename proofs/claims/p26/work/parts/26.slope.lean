/-! ### Slopes by rank; around a vertex -/
theorem dirZ {s : Sg} (h : sOk s) : 0 < dX s ∨ (dX s = 0 ∧ 0 < dY s) := by
  obtain ⟨-, h⟩ := h
  unfold ltP at h
  have h := of_decide_eq_true h
  unfold dX dY
  rcases h with h | ⟨h1, h2⟩
  · left; omega
  · right; omega
theorem cr_swap (a b : Sg) : cr b a = -cr a b := by unfold cr; grind
theorem cr_self (a : Sg) : cr a a = 0 := by unfold cr; grind
theorem cr_tr {a b c : Sg} (ha : sOk a) (hb : sOk b) (hc : sOk c) (h1 : 0 < cr a b) (h2 : 0 ≤ cr b c) : 0 < cr a c := by
  have da := dirZ ha
  have db := dirZ hb
  have dc := dirZ hc
  unfold cr at *
  generalize dX a = p at *
  generalize dY a = q at *
  generalize dX b = r at *
  generalize dY b = s at *
  generalize dX c = t at *
  generalize dY c = u at *
  have hp : 0 < p := by
    rcases da with h | ⟨h, h3⟩
    · exact h
    · exfalso
      subst h
      have := Int.mul_nonneg (a := q) (b := r) (by omega) (by omega)
      omega
  rcases dc with h | ⟨h, h3⟩
  · rcases db with k | ⟨k, k3⟩
    · have e : r * (p * u - q * t) = p * (r * u - s * t) + t * (p * s - q * r) := by grind
      have m1 := Int.mul_nonneg (a := p) (b := r * u - s * t) (by omega) h2
      have m2 := Int.mul_pos h h1
      rcases Int.lt_or_le 0 (p * u - q * t) with z | z
      · exact z
      · exfalso
        have m3 := Int.mul_nonneg (a := r) (b := -(p * u - q * t)) (by omega) (by omega)
        have e2 : r * -(p * u - q * t) = -(r * (p * u - q * t)) := by grind
        omega
    · exfalso
      subst k
      have := Int.mul_pos k3 h
      omega
  · subst h
    have := Int.mul_pos hp h3
    omega
theorem cr_tr' {a b c : Sg} (ha : sOk a) (hb : sOk b) (hc : sOk c) (h1 : 0 ≤ cr a b) (h2 : 0 < cr b c) : 0 < cr a c := by
  rcases Int.lt_or_le 0 (cr a c) with z | z
  · exact z
  · exfalso
    have h3 : 0 ≤ cr c a := by rw [cr_swap a c]; omega
    have h4 := cr_tr hb hc ha h2 h3
    rw [cr_swap a b] at h4
    omega
theorem cnt_lt {P Q : Nat → Bool} {n i : Nat} (h : ∀ k, k < n → P k = true → Q k = true) (hi : i < n) (h1 : P i = false) (h2 : Q i = true) : cnt P n < cnt Q n := by
  have mono : ∀ m, m ≤ n → cnt P m ≤ cnt Q m := by
    intro m
    induction m with
    | zero => intro _; exact Nat.le_refl _
    | succ m ih =>
      intro hm
      have := ih (by omega)
      rw [cnt, cnt]
      cases hp : P m
      · simp only [Bool.false_eq_true, if_false]; omega
      · rw [h m (by omega) hp]; simp only [if_true]; omega
  have go : ∀ m, i < m → m ≤ n → cnt P m < cnt Q m := by
    intro m
    induction m with
    | zero => intro h; omega
    | succ m ih =>
      intro h3 h4
      rw [cnt, cnt]
      rcases Nat.lt_or_ge i m with z | z
      · have := ih z (by omega)
        cases hp : P m
        · simp only [Bool.false_eq_true, if_false]; omega
        · rw [h m (by omega) hp]; simp only [if_true]; omega
      · have e : i = m := by omega
        subst e
        have := mono i (by omega)
        rw [h1, h2]; simp only [Bool.false_eq_true, if_false, if_true]; omega
  exact go n hi (Nat.le_refl _)
/-- how many segments are less steep -/
def srk (n : Nat) (g : Nat → Sg) (i : Nat) : Nat := cnt (fun j => decide (0 < cr (g j) (g i))) n
theorem srk_le (n : Nat) (g : Nat → Sg) (i : Nat) : srk n g i ≤ n := cnt_le _ _
theorem srk_lt {n : Nat} {g : Nat → Sg} (hg : ∀ i, i < n → sOk (g i)) {i j : Nat} (hi : i < n) (hj : j < n) (h : 0 < cr (g i) (g j)) : srk n g i < srk n g j := by
  unfold srk
  refine cnt_lt (i := i) (fun k hk hp => ?_) hi ?_ ?_
  · exact decide_eq_true (cr_tr (hg k hk) (hg i hi) (hg j hj) (of_decide_eq_true hp) (by omega))
  · exact decide_eq_false (by rw [cr_self]; omega)
  · exact decide_eq_true h
theorem srk_eq {n : Nat} {g : Nat → Sg} (hg : ∀ i, i < n → sOk (g i)) {i j : Nat} (hi : i < n) (hj : j < n) (h : cr (g i) (g j) = 0) : srk n g i = srk n g j := by
  unfold srk
  refine cnt_congr (fun k hk => ?_)
  have h' : cr (g j) (g i) = 0 := by rw [cr_swap (g i)]; omega
  by_cases z : 0 < cr (g k) (g i)
  · rw [decide_eq_true z, decide_eq_true (cr_tr (hg k hk) (hg i hi) (hg j hj) z (by omega))]
  · rw [decide_eq_false z, decide_eq_false (fun y => z (cr_tr (hg k hk) (hg j hj) (hg i hi) y (by omega)))]
/-- the sign of the cross product is the order of the ranks -/
theorem srk_iff {n : Nat} {g : Nat → Sg} (hg : ∀ i, i < n → sOk (g i)) {i j : Nat} (hi : i < n) (hj : j < n) : (0 < cr (g i) (g j) ↔ srk n g i < srk n g j) ∧ (cr (g i) (g j) = 0 ↔ srk n g i = srk n g j) ∧ (cr (g i) (g j) < 0 ↔ srk n g j < srk n g i) := by
  have hs := cr_swap (g i) (g j)
  rcases Int.lt_trichotomy 0 (cr (g i) (g j)) with z | z | z
  · have := srk_lt hg hi hj z
    exact ⟨⟨fun _ => this, fun _ => z⟩, ⟨fun _ => by omega, fun _ => by omega⟩, ⟨fun _ => by omega, fun _ => by omega⟩⟩
  · have := srk_eq hg hi hj z.symm
    exact ⟨⟨fun _ => by omega, fun _ => by omega⟩, ⟨fun _ => this, fun _ => z.symm⟩, ⟨fun _ => by omega, fun _ => by omega⟩⟩
  · have := srk_lt hg hj hi (by omega)
    exact ⟨⟨fun _ => by omega, fun _ => by omega⟩, ⟨fun _ => by omega, fun _ => by omega⟩, ⟨fun _ => this, fun _ => z⟩⟩
/-! sides: t goes along the edge t / 2 (even) or back (odd) -/
def bg (q : ES) (t : Nat) : Nat := if t % 2 = 0 then eF q (t / 2) else eT q (t / 2)
def tw (t : Nat) : Nat := if t % 2 = 0 then t + 1 else t - 1
theorem tw_tw (t : Nat) : tw (tw t) = t := by unfold tw; split <;> split <;> omega
theorem tw_lt {t E : Nat} (h : t < 2 * E) : tw t < 2 * E := by unfold tw; split <;> omega
theorem tw_half (t : Nat) : tw t / 2 = t / 2 := by unfold tw; split <;> omega
theorem tw_par (t : Nat) : tw t % 2 = 1 - t % 2 := by unfold tw; split <;> omega
def sgm (q : ES) (t : Nat) : Nat := eS q (t / 2)
/-- a side's place around its vertex: ways to higher vertices first, each kind by slope -/
def key (n : Nat) (g : Nat → Sg) (q : ES) (t : Nat) : Nat := (t % 2) * (n + 1) + srk n g (sgm q t)
theorem key_par {n : Nat} {g : Nat → Sg} {q : ES} {s t : Nat} (h : key n g q s = key n g q t) : s % 2 = t % 2 ∧ srk n g (sgm q s) = srk n g (sgm q t) := by
  unfold key at h
  have h1 := srk_le n g (sgm q s)
  have h2 := srk_le n g (sgm q t)
  rcases (show s % 2 = 0 ∨ s % 2 = 1 by omega) with a | a <;> rcases (show t % 2 = 0 ∨ t % 2 = 1 by omega) with b | b <;> rw [a, b] at h <;> omega
/-- on the line of two parallel segments through one point, the nearer of two others lies on both -/
theorem onL_dir {a b : Sg} (hc : cr a b = 0) (ha : sOk a) {p r : Pt} (h1 : onL a p) (h2 : onL b p) (h3 : onL a r) : onL b r := by
  have hc' : (dX a : Rat) * (dY b : Rat) - (dY a : Rat) * (dX b : Rat) = 0 := by rw [← crR, hc]; rfl
  unfold onL at *
  have e : (dX b : Rat) * (r.2 - (sY b : Rat)) - (dY b : Rat) * (r.1 - (sX b : Rat)) = 0 := by
    apply dir_ne ha
    · grind
    · grind
  grind
section KEYS
variable {n : Nat} {g : Nat → Sg} {q : ES}
theorem key_inj (hg : gOk n g) (hE : EOk g (vI g n).2 n (vI g n).1 q) {s t : Nat} (hs : s < 2 * q.1) (ht : t < 2 * q.1) (hb : bg q s = bg q t) (hk : key n g q s = key n g q t) : s = t := by
  obtain ⟨hp, hr⟩ := key_par hk
  obtain ⟨s1, s2, s3, s4, s5, s6⟩ := hE.1 (s / 2) (by omega)
  obtain ⟨t1, t2, t3, t4, t5, t6⟩ := hE.1 (t / 2) (by omega)
  have hcr : cr (g (sgm q s)) (g (sgm q t)) = 0 := ((srk_iff hg.1 s1 t1).2.1).mpr hr
  have hsort := (vI_good hg.1 n (Nat.le_refl _)).1
  have o1 := onS_iff (hg.1 _ s1)
  have o2 := onS_iff (hg.1 _ t1)
  by_cases hseg : eS q (s / 2) = eS q (t / 2)
  · unfold bg at hb
    have : s / 2 = t / 2 := by
      by_cases z : s % 2 = 0
      · rw [if_pos z, if_pos (by omega)] at hb
        exact hE.uniq (by omega) (by omega) hseg hb
      · rw [if_neg z, if_neg (by omega)] at hb
        exact hE.uniqT (by omega) (by omega) hseg hb
    omega
  · exfalso
    have fu : ∀ i, onB (g (eS q (s / 2))) ((vI g n).2 i) = true → onL (g (eS q (s / 2))) ((vI g n).2 i) ∧ ¬ ltV ((vI g n).2 i) (pS (g (eS q (s / 2)))) ∧ ¬ ltV (pE (g (eS q (s / 2)))) ((vI g n).2 i) := fun i h => (o1 _).mp (onB_iff.mp h)
    have gu : ∀ i, onB (g (eS q (t / 2))) ((vI g n).2 i) = true → onL (g (eS q (t / 2))) ((vI g n).2 i) ∧ ¬ ltV ((vI g n).2 i) (pS (g (eS q (t / 2)))) ∧ ¬ ltV (pE (g (eS q (t / 2)))) ((vI g n).2 i) := fun i h => (o2 _).mp (onB_iff.mp h)
    have hcr' : cr (g (eS q (t / 2))) (g (eS q (s / 2))) = 0 := by rw [cr_swap (g (eS q (s / 2)))]; show -cr (g (sgm q s)) (g (sgm q t)) = 0; omega
    -- two vertices x < y in the numbers, both on s; x or y shared: the one between lies on t as well
    have lev : ∀ {i j : Nat}, i < j → j < (vI g n).1 → ltV ((vI g n).2 i) ((vI g n).2 j) := fun h1 h2 => hsort _ _ h1 h2
    have letr : ∀ {a b c : Pt}, ¬ ltV b a → ¬ ltV c b → ¬ ltV c a := by
      intro a b c h1 h2 h3
      rcases ltV_tri a b with w | w | w
      · exact h2 (ltV_trans h3 w)
      · rw [w] at h3; exact h2 h3
      · exact h1 w
    have two : ∀ x y, x < (vI g n).1 → y < (vI g n).1 → x ≠ y → onB (g (eS q (s / 2))) ((vI g n).2 x) = true → onB (g (eS q (t / 2))) ((vI g n).2 x) = true → onB (g (eS q (s / 2))) ((vI g n).2 y) = true → onB (g (eS q (t / 2))) ((vI g n).2 y) = true → False := by
      intro x y hx hy hne a1 a2 a3 a4
      have := one_pt hg s1 t1 hseg (onB_iff.mp a1) (onB_iff.mp a2) (onB_iff.mp a3) (onB_iff.mp a4)
      exact hne (vsort_inj hsort hx hy this)
    unfold bg at hb
    by_cases z : s % 2 = 0
    · rw [if_pos z, if_pos (by omega)] at hb
      have hv1 : onB (g (eS q (t / 2))) ((vI g n).2 (eF q (s / 2))) = true := by rw [hb]; exact t4
      have lS := (fu _ s4).1
      have lT := (gu _ hv1).1
      rcases Nat.lt_or_ge (eT q (t / 2)) (eT q (s / 2)) with w | w
      · -- the end of t's edge lies on s
        refine two (eF q (s / 2)) (eT q (t / 2)) (by omega) t2 (by omega) s4 hv1 ?_ t5
        refine onB_iff.mpr ((o1 _).mpr ⟨onL_dir hcr' (hg.1 _ t1) lT lS (gu _ t5).1, ?_, ?_⟩)
        · exact letr (fu _ s4).2.1 (ltV_asymm (lev (by omega) t2))
        · exact letr (ltV_asymm (lev w s2)) (fu _ s5).2.2
      · refine two (eF q (s / 2)) (eT q (s / 2)) (by omega) s2 (by omega) s4 hv1 s5 ?_
        refine onB_iff.mpr ((o2 _).mpr ⟨onL_dir hcr (hg.1 _ s1) lS lT (fu _ s5).1, ?_, ?_⟩)
        · exact letr (gu _ hv1).2.1 (ltV_asymm (lev (by omega) s2))
        · rcases Nat.lt_or_ge (eT q (s / 2)) (eT q (t / 2)) with y | y
          · exact letr (ltV_asymm (lev y t2)) (gu _ t5).2.2
          · have e : eT q (s / 2) = eT q (t / 2) := by omega
            rw [e]; exact (gu _ t5).2.2
    · rw [if_neg z, if_neg (by omega)] at hb
      have hv1 : onB (g (eS q (t / 2))) ((vI g n).2 (eT q (s / 2))) = true := by rw [hb]; exact t5
      have lS := (fu _ s5).1
      have lT := (gu _ hv1).1
      rcases Nat.lt_or_ge (eF q (s / 2)) (eF q (t / 2)) with w | w
      · refine two (eT q (s / 2)) (eF q (t / 2)) s2 (by omega) (by omega) s5 hv1 ?_ t4
        refine onB_iff.mpr ((o1 _).mpr ⟨onL_dir hcr' (hg.1 _ t1) lT lS (gu _ t4).1, ?_, ?_⟩)
        · exact letr (fu _ s4).2.1 (ltV_asymm (lev w (by omega)))
        · exact letr (ltV_asymm (lev (by omega) s2)) (fu _ s5).2.2
      · refine two (eT q (s / 2)) (eF q (s / 2)) s2 (by omega) (by omega) s5 hv1 s4 ?_
        refine onB_iff.mpr ((o2 _).mpr ⟨onL_dir hcr (hg.1 _ s1) lS lT (fu _ s4).1, ?_, ?_⟩)
        · rcases Nat.lt_or_ge (eF q (t / 2)) (eF q (s / 2)) with y | y
          · exact letr (gu _ t4).2.1 (ltV_asymm (lev y (by omega)))
          · have e : eF q (s / 2) = eF q (t / 2) := by omega
            rw [e]; exact (gu _ t4).2.1
        · exact letr (ltV_asymm (lev (by omega) s2)) (gu _ hv1).2.2
end KEYS
