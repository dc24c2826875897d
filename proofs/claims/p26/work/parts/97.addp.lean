/-! The pure side of add: the new segment, what the others keep, the overlap. -/
theorem sgR_lt {x y x2 y2 : Int} (hx : inR x) (hy : inR y) (hx2 : inR x2) (hy2 : inR y2) : sgR (zI x) (zI y) (zI x2) (zI y2) = ltP x y x2 y2 := by
  unfold sgR ltP
  have e1 := zI_lt (inR_32 hx) (inR_32 hx2)
  have e2 := zI_eq (inR_32 hx) (inR_32 hx2)
  have e3 := zI_lt (inR_32 hy) (inR_32 hy2)
  rw [← Bool.decide_and, ← Bool.decide_or]
  refine decide_eq_decide.mpr ?_
  rw [e1, e2, e3]
theorem seg_new {S : CS} {D : CD} {q : Nat} {x y x2 y2 : Int} (hx : inR x) (hy : inR y) (hx2 : inR x2) (hy2 : inR y2) : cSeg (sAdd S q 4 0) (dSg (dNew D q) q (zI x) (zI y) (zI x2) (zI y2)) q (nrm x y x2 y2) := by
  have b : ∀ a c : Int, inR a → inR c → i32 (a - c) := fun a c h1 h2 => ⟨by have := h1.1; have := h2.2; omega, by have := h1.2; have := h2.1; omega⟩
  refine ⟨⟨List.mem_append_right _ (List.mem_singleton.mpr rfl), va_up_self _ _ _⟩, ?_⟩
  unfold dSg nrm
  rw [sgR_lt hx hy hx2 hy2]
  by_cases h : ltP x y x2 y2 = true
  · rw [if_pos h, if_pos h]
    refine ⟨by simp [dSg4, cpF, cpG, va_up], ?_, ?_⟩
    · show (dSg4 _ q _ _ _ _).2.1 q 4 = zL (x2 - x)
      rw [← zI_long (b _ _ hx2 hx), ← zI_sub]
      simp [dSg4, cpF, cpG, va_up]
    · show (dSg4 _ q _ _ _ _).2.1 q 5 = zL (y2 - y)
      rw [← zI_long (b _ _ hy2 hy), ← zI_sub]
      simp [dSg4, cpF, cpG, va_up]
  · rw [if_neg h, if_neg h]
    refine ⟨by simp [dSg4, cpF, cpG, va_up], ?_, ?_⟩
    · show (dSg4 _ q _ _ _ _).2.1 q 4 = zL (x - x2)
      rw [← zI_long (b _ _ hx hx2), ← zI_sub]
      simp [dSg4, cpF, cpG, va_up]
    · show (dSg4 _ q _ _ _ _).2.1 q 5 = zL (y - y2)
      rw [← zI_long (b _ _ hy hy2), ← zI_sub]
      simp [dSg4, cpF, cpG, va_up]
theorem cSeg_keep {S S2 : CS} {D D2 : CD} {a : Nat} {s : Sg} (h : cSeg S D a s) (h1 : a ∈ S2.1) (h2 : S2.2.1 a = S.2.1 a) (h3 : D2.1 a = D.1 a) (h4 : D2.2.1 a = D.2.1 a) : cSeg S2 D2 a s := by
  obtain ⟨⟨a1, a2⟩, a3, a4, a5⟩ := h
  exact ⟨⟨h1, h2.trans a2⟩, by rw [h3]; exact a3, by rw [h4]; exact a4, by rw [h4]; exact a5⟩
theorem cLay_add {S : CS} {A : Nat → Nat} {q kd len : Nat} (h : cLay S A) (hq : q ∉ S.1) : cLay (sAdd S q kd len) A := by
  obtain ⟨h1, h2, h3, h4⟩ := h
  have nq : ∀ i, i < 124 → i ≠ 2 → A i ≠ q := fun i hi h2' w => hq (w ▸ (h1 i hi h2').1)
  have r1 : ∀ t, t ∈ rfR → t.1 < 124 ∧ t.1 ≠ 2 := by decide
  have r2 : ∀ t, t ∈ lnR → t.1 < 124 ∧ t.1 ≠ 2 := by decide
  refine ⟨fun i hi h2' => ⟨List.mem_append_left _ (h1 i hi h2').1, (va_up_ne _ _ (nq i hi h2')).trans (h1 i hi h2').2⟩, h2, fun t ht => ?_, fun t ht => ?_⟩
  · exact (congrFun (va_up_ne _ _ (nq _ (r1 t ht).1 (r1 t ht).2)) _).trans (h3 t ht)
  · exact (va_up_ne _ _ (nq _ (r2 t ht).1 (r2 t ht).2)).trans (h4 t ht)
theorem cLin_add {S : CS} {D : CD} {A sg : Nat → Nat} {n : Nat} {g : Nat → Sg} {q : Nat} (x1 y1 x2 y2 : Int32) (hL : cLay S A) (h : cLin S D A sg n g) (hq : q ∉ S.1) (h2q : A 2 ≠ q) : cLin (sAdd S q 4 0) (dSg (dNew D q) q x1 y1 x2 y2) A sg n g := by
  obtain ⟨h1, ⟨h2, h3⟩, h4, h5, h6⟩ := h
  have n1 : A 1 ≠ q := fun w => hq (w ▸ (hL.1 1 (by decide) (by decide)).1)
  have e2 : (sAdd S q 4 0).2.2.2 (A 2) = S.2.2.2 (A 2) := va_up_ne _ _ h2q
  refine ⟨?_, ⟨by rw [e2]; exact h2, fun hn => ⟨List.mem_append_left _ (h3 hn).1, (va_up_ne _ _ h2q).trans (h3 hn).2⟩⟩, by rw [e2]; exact h4, fun i hi => ?_, fun i hi => ?_⟩
  · rw [(dSn_x D q (A 1) x1 y1 x2 y2 n1).1]; exact h1
  · rw [(dSn_x D q (A 2) x1 y1 x2 y2 h2q).2.2.2]; exact h5 i hi
  · have hs := h6 i hi
    have nq : sg i ≠ q := fun w => hq (w ▸ hs.1.1)
    obtain ⟨g1, g2, -, -⟩ := dSn_x D q (sg i) x1 y1 x2 y2 nq
    exact cSeg_keep hs (List.mem_append_left _ hs.1.1) (va_up_ne _ _ nq) g1 g2
theorem k_overAny {F : Nat} {S : CS} {D : CD} {A sg : Nat → Nat} {n : Nat} {g : Nat → Sg} {q : Nat} {s : Sg} (hF : 1000 ≤ F) (hL : cLay S A) (hl : cLin S D A sg n g) (hn : n ≤ 12) (hg : ∀ i, i < n → sOk (g i)) (hs : sOk s) (hq : cSeg S D q s) : f_X6_overlapsAnyLine F S D (A 0) q = some (bI (anyN (fun i => decide (com (g i) s = 2)) n)) := by
  have lp : ∀ k i : Nat, i + k = n → (∀ j, j < i → com (g j) s ≠ 2) → ∀ m, k + 1 ≤ m → f_X6_overlapsAnyLine_L2 F S D (A 0) m q (nI i) = some (bI (anyN (fun i => decide (com (g i) s = 2)) n)) := by
    intro k
    induction k with
    | zero =>
      intro i hi hno m hm
      obtain ⟨m, rfl⟩ : ∃ m', m = m' + 1 := ⟨m - 1, by omega⟩
      have e0 : anyN (fun i => decide (com (g i) s = 2)) n = false := by
        cases h : anyN (fun i => decide (com (g i) s = 2)) n with
        | false => rfl
        | true =>
          obtain ⟨j, hj, hd⟩ := anyN_iff.mp h
          exact absurd (of_decide_eq_true hd) (hno j (by omega))
      rw [f_X6_overlapsAnyLine_L2, ly_k hL 0 (by decide) (by decide), ly_r hL 0 0 1 (by decide), ly_k hL 1 (by decide) (by decide), k_size hL hl, cal_some, if_pos ((nI_leI (by omega) (by omega)).mpr (by omega)), e0]
      rfl
    | succ k ih =>
      intro i hi hno m hm
      obtain ⟨m, rfl⟩ : ∃ m', m = m' + 1 := ⟨m - 1, by omega⟩
      have hsi := hl.2.2.2.2 i (by omega)
      rw [f_X6_overlapsAnyLine_L2, ly_k hL 0 (by decide) (by decide), ly_r hL 0 0 1 (by decide), ly_k hL 1 (by decide) (by decide), k_size hL hl, cal_some, if_neg (fun w => by have := (nI_leI (a := n) (b := i) (by omega) (by omega)).mp w; omega), ly_r hL 0 0 1 (by decide), ly_k hL 1 (by decide) (by decide), k_lget hL hl hn (by omega), cal_some, ck_ok hsi.1, k_overlaps hsi hq (hg i (by omega)) hs, cal_some]
      by_cases hc : com (g i) s = 2
      · have e1 : anyN (fun i => decide (com (g i) s = 2)) n = true := anyN_iff.mpr ⟨i, by omega, decide_eq_true hc⟩
        rw [decide_eq_true hc, e1]
        rfl
      · rw [decide_eq_false hc]
        have e2 : (bI false : Int32) = 0 := rfl
        rw [if_pos e2, show nI i + 1 = nI (i + 1) from nI_add i 1]
        exact ih (i + 1) (by omega) (fun j hj => by
          by_cases e : j = i
          · rw [e]; exact hc
          · exact hno j (by omega)) m (by omega)
  exact lp n 0 (by omega) (fun j hj => absurd hj (Nat.not_lt_zero j)) F (by omega)
