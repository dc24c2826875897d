/-! The list behind an add: layout and lines. -/
theorem add_pic {S S2 : CS} {D D2 : CD} {A sg w : Nat → Nat} {n : Nat} {g : Nat → Sg} {q b : Nat} {s : Sg} (z : Nat × Nat) (hL : cLay S A) (hl : cLin S D A sg n g) (hw : cW90 D A w) (hq : cSeg S D q s) (hb : ∀ x ∈ S.1, x < b) (h : rAd S D (A 1) (A 2) n q b S2 D2) :
    ∃ A2 sg2 : Nat → Nat, A2 0 = A 0 ∧ A2 1 = A 1 ∧ cRowZ S2 A2 z (n + 1) ∧ cLay S2 A2 ∧ cLin S2 D2 A2 sg2 (n + 1) (adG n g s) ∧ cW90 D2 A2 w := by
  obtain ⟨r, hr, hD, hsz, hel, hnew⟩ := h
  have mA : ∀ i, i < 124 → i ≠ 2 → A i ∈ S.1 := fun i hi h2 => (hL.1 i hi h2).1
  have kA : ∀ i, i < 124 → i ≠ 2 → S.2.1 (A i) = kdR i := fun i hi h2 => (hL.1 i hi h2).2
  have a1b := hb _ (mA 1 (by decide) (by decide))
  obtain ⟨r1, r2, r3, r4⟩ := rRw_at hr a1b
  -- r is none of the others
  have nr : ∀ x ∈ S.1, S.2.1 x ≠ 10 → x ≠ r := by
    intro x hx hk e
    rcases hr with ⟨e2, -, -, h10, -⟩ | ⟨hbr, -⟩
    · rw [e, e2] at hk; exact hk h10
    · have := hb x hx; omega
  have kne : ∀ i, i < 124 → i ≠ 2 → kdR i ≠ 10 := by decide
  have nrA : ∀ i, i < 124 → i ≠ 2 → A i ≠ r := fun i hi h2 => nr _ (mA i hi h2) (by rw [kA i hi h2]; exact kne i hi h2)
  have old : ∀ x, x ∈ S.1 → x ∈ S2.1 ∧ S2.2.1 x = S.2.1 x := fun x hx => rRw_old hr hx (hb x hx)
  have oldr : ∀ x, x ∈ S.1 → x ≠ A 1 → x ≠ r → S2.2.2.1 x = S.2.2.1 x ∧ S2.2.2.2 x = S.2.2.2 x := by
    intro x hx h1 h2
    rcases hr with ⟨-, e, -⟩ | ⟨hbr, L, -, -, e⟩
    · rw [e]; exact ⟨rfl, rfl⟩
    · rw [e]; exact ⟨(va_up_ne _ _ h1).trans (va_up_ne _ _ h2), va_up_ne _ _ h2⟩
  have oldl : ∀ x, x ∈ S.1 → x ≠ r → S2.2.2.2 x = S.2.2.2 x := by
    intro x hx h2
    rcases hr with ⟨-, e, -⟩ | ⟨hbr, L, -, -, e⟩
    · rw [e]
    · rw [e]; exact va_up_ne _ _ h2
  have ref1 : S2.2.2.1 (A 1) 1 = some r := by
    rcases hr with ⟨e1, e, -⟩ | ⟨hbr, L, -, -, e⟩
    · rw [e, e1]; exact hL.2.2.1 (1, 1, 2) (by decide)
    · rw [e]; exact ref_at _ _ _ _
  have injA : ∀ i j, i < 124 → j < 124 → A i = A j → i = j := hL.2.1
  have A2e : ∀ i, i ≠ 2 → (fun i => if i = 2 then r else A i) i = A i := fun i hi => if_neg hi
  refine ⟨fun i => if i = 2 then r else A i, fun i => if i = n then q else sg i, A2e 0 (by decide), A2e 1 (by decide), Or.inr ⟨r1, r2, ?_⟩, ⟨fun i hi h2 => ?_, fun i j hi hj e => ?_, fun t ht => ?_, fun t ht => ?_⟩, ⟨?_, ⟨?_, fun _ => ⟨r1, r2⟩⟩, ?_, fun i hi => ?_, fun i hi => ?_⟩, fun i hi => ?_, hw.2⟩
  · show S2.2.2.2 r = 10 ∨ S2.2.2.2 r = 15
    rcases hr with ⟨e1, e, -, -, h, -⟩ | ⟨hbr, L, hLL, -, e⟩
    · rw [e, e1]; exact h
    · rw [e]
      show va_up S.2.2.2 r L r = 10 ∨ va_up S.2.2.2 r L r = 15
      rw [va_up_self]; exact hLL
  · rw [A2e i h2]
    obtain ⟨o1, o2⟩ := old _ (mA i hi h2)
    exact ⟨o1, o2.trans (kA i hi h2)⟩
  · by_cases i2 : i = 2
    · by_cases j2 : j = 2
      · rw [i2, j2]
      · rw [A2e j j2] at e
        simp only [i2, if_true] at e
        exact absurd e.symm (nrA j hj j2)
    · rw [A2e i i2] at e
      by_cases j2 : j = 2
      · simp only [j2, if_true] at e
        exact absurd e (nrA i hi i2)
      · rw [A2e j j2] at e; exact injA i j hi hj e
  · have hd : ∀ t, t ∈ rfR → t.1 < 124 ∧ t.1 ≠ 2 ∧ t.2.2 < 124 ∧ (t.1 = 1 → t = (1, 1, 2)) ∧ (t.1 ≠ 1 → t.2.2 ≠ 2) := by decide
    obtain ⟨t1, t2, t3, t4, t5⟩ := hd t ht
    by_cases e1 : t.1 = 1
    · rw [t4 e1]
      show S2.2.2.1 (if 1 = 2 then r else A 1) 1 = some (if 2 = 2 then r else A 2)
      exact ref1
    · rw [A2e _ t2, A2e _ (t5 e1), (oldr _ (mA _ t1 t2) (fun w => e1 (injA _ _ t1 (by decide) w)) (nrA _ t1 t2)).1]
      exact hL.2.2.1 t ht
  · have hd : ∀ t, t ∈ lnR → t.1 < 124 ∧ t.1 ≠ 2 := by decide
    obtain ⟨t1, t2⟩ := hd t ht
    rw [A2e _ t2, oldl _ (mA _ t1 t2) (nrA _ t1 t2)]
    exact hL.2.2.2 t ht
  · rw [A2e 1 (by decide)]; exact hsz
  · show n + 1 ≤ S2.2.2.2 r
    exact r3
  · show S2.2.2.2 r < 2147483648
    omega
  · show D2.2.2.2 r i = some (if i = n then q else sg i)
    by_cases e : i = n
    · rw [if_pos e, e]; exact hnew
    · rw [if_neg e, hel i (by omega)]
      exact hl.2.2.2.1 i (by omega)
  · have key : ∀ (a : Nat) (u : Sg), cSeg S D a u → cSeg S2 D2 a u := by
      intro a u hu
      have h1 : a ≠ r := nr a hu.1.1 (by rw [hu.1.2]; decide)
      have h2 : a ≠ A 1 := fun w => by
        have := kA 1 (by decide) (by decide)
        rw [← w, hu.1.2] at this
        exact absurd this (by decide)
      obtain ⟨g1, g2, -, -⟩ := hD a h1 h2
      obtain ⟨o1, o2⟩ := old a hu.1.1
      exact cSeg_keep hu o1 o2 g1 g2
    show cSeg S2 D2 (if i = n then q else sg i) (adG n g s i)
    unfold adG
    by_cases e : i = n
    · rw [if_pos e, if_pos e]; exact key q s hq
    · rw [if_neg e, if_neg e]; exact key _ _ (hl.2.2.2.2 i (by omega))
  · obtain ⟨w1, w2⟩ := hw.1 i hi
    refine ⟨w1, ?_⟩
    rw [A2e 10 (by decide), A2e (34 + w i) (by omega)]
    rw [(hD (A 10) (nrA 10 (by decide) (by decide)) (ly_ne hL 10 1 (by decide) (by decide) (by decide))).2.2.2]
    exact w2
