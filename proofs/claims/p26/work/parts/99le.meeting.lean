/-! What the law's areMeeting comes to. -/
section MTG
variable {F : Nat} {S : CS} {D : CD} {A sg w : Nat → Nat} {n : Nat} {g : Nat → Sg} {root rd : Nat → Nat} {c : Nat} {lo ou : Nat → Nat} {gA mA : Nat}
theorem e_LareMeeting (P : cPic S D A sg w n g root rd c lo ou) (hF : 1000 ≤ F) (hg : gOn S gA) (hr : ∀ i, i < n → rowG D gA i (g i)) {a b : Nat} (ha : a < n) (hb : b < n) : f_L_areMeeting F S D (A 0) gA mA (nI a) (nI b) = some 1 := by
  obtain ⟨bV1, bE1⟩ := pic_V P
  have hn := P.2.2.1
  have hgo := P.2.2.2.2.2.2.2.2.1
  obtain ⟨c1, c2, c3, c4⟩ := k_counts (F := F) P
  have hcv : a ≠ b → covB (g a) (g b) = false := fun hab => by
    rw [cov_com (hgo.1 a ha) (hgo.1 b hb)]
    exact decide_eq_false (com_n2 hgo ha hb hab)
  have hmt : (decide (a = b) || decide (0 < com (g a) (g b))) = (decide (a = b) || anyN (fun v => onB (g a) ((vI g n).2 v) && onB (g b) ((vI g n).2 v)) (vI g n).1) := by
    by_cases hab : a = b
    · rw [decide_eq_true hab]; rfl
    · rw [decide_eq_false hab, Bool.false_or, Bool.false_or, Bool.eq_iff_iff, decide_eq_true_eq, meet_vx hgo ha hb hab, anyN_iff]
      constructor
      · rintro ⟨v, h1, h2, h3⟩; exact ⟨v, h1, by rw [h2, h3]; rfl⟩
      · rintro ⟨v, h1, h2⟩
        rw [Bool.and_eq_true] at h2
        exact ⟨v, h1, h2.1, h2.2⟩
  have hmt2 : (decide (b = a) || decide (0 < com (g b) (g a))) = (decide (a = b) || anyN (fun v => onB (g a) ((vI g n).2 v) && onB (g b) ((vI g n).2 v)) (vI g n).1) := by
    by_cases hab : a = b
    · rw [decide_eq_true hab, decide_eq_true hab.symm]; rfl
    · rw [decide_eq_false hab, decide_eq_false (fun w => hab w.symm), Bool.false_or, Bool.false_or, Bool.eq_iff_iff, decide_eq_true_eq, meet_vx hgo hb ha (fun w => hab w.symm), anyN_iff]
      constructor
      · rintro ⟨v, h1, h2, h3⟩; exact ⟨v, h1, by rw [h2, h3]; rfl⟩
      · rintro ⟨v, h1, h2⟩
        rw [Bool.and_eq_true] at h2
        exact ⟨v, h1, h2.2, h2.1⟩
  have L16 : ∀ (d m i : Nat), i + d = (vI g n).1 → d < m → f_L_areMeeting_L16 F S D m (A 0) gA (nI a) (nI b) (bI (decide (a = b) || anyN (fun v => onB (g a) ((vI g n).2 v) && onB (g b) ((vI g n).2 v)) i)) (nI i) = some 1 := by
    intro d
    induction d with
    | zero =>
      intro m i hi hm
      obtain ⟨m, rfl⟩ : ∃ q, m = q + 1 := ⟨m - 1, by omega⟩
      have e : i = (vI g n).1 := by omega
      subst e
      rw [f_L_areMeeting_L16, ly_k P.1 0 (by decide) (by decide), c1, cal_some, if_pos ((nI_leI (by omega) (by omega)).mpr (by omega)), k_meet P ha hb, cal_some, hmt, if_pos rfl, k_meet P hb ha, cal_some, hmt2, if_pos rfl]
      by_cases hab : a = b
      · rw [if_pos (by rw [hab])]; rfl
      · rw [if_neg (fun w => hab ((nI_eq (by omega) (by omega)).mp w)), e_LisCovering hg (hr a ha) (by omega) (hgo.1 a ha) (hr b hb) (by omega) (hgo.1 b hb), cal_some, hcv hab]
        rfl
    | succ d ih =>
      intro m i hi hm
      obtain ⟨m, rfl⟩ : ∃ q, m = q + 1 := ⟨m - 1, by omega⟩
      have hlt : i < (vI g n).1 := by omega
      have go := ih m (i + 1) (by omega) (by omega)
      rw [anyN, ← Bool.or_assoc] at go
      rw [f_L_areMeeting_L16, ly_k P.1 0 (by decide) (by decide), c1, cal_some, if_neg (fun w => by have := (nI_leI (a := (vI g n).1) (b := i) (by omega) (by omega)).mp w; omega)]
      unfold f_L_areMeeting_b58
      rw [nI_1]
      cases hq : (decide (a = b) || anyN (fun v => onB (g a) ((vI g n).2 v) && onB (g b) ((vI g n).2 v)) i)
      · rw [hq, Bool.false_or] at go
        rw [if_pos (show bI false = 0 from rfl), e_LisOn P hg (hr a ha) (by omega) (hgo.1 a ha) hlt, cal_some]
        cases h1 : onB (g a) ((vI g n).2 i)
        · rw [h1] at go
          rw [if_pos (show bI false = 0 from rfl)]
          exact go
        · rw [h1, Bool.true_and] at go
          rw [if_neg (show ¬ bI true = 0 by decide), e_LisOn P hg (hr b hb) (by omega) (hgo.1 b hb) hlt, cal_some]
          cases h2 : onB (g b) ((vI g n).2 i)
          · rw [h2] at go
            rw [if_pos (show bI false = 0 from rfl)]
            exact go
          · rw [h2] at go
            rw [if_neg (show ¬ bI true = 0 by decide)]
            exact go
      · rw [hq, Bool.true_or] at go
        rw [if_neg (show ¬ bI true = 0 by decide)]
        exact go
  have h0 := L16 (vI g n).1 F 0 (by omega) (by omega)
  unfold f_L_areMeeting
  by_cases hab : a = b
  · rw [if_pos (by rw [hab])]
    rw [decide_eq_true hab] at h0; exact h0
  · rw [if_neg (fun w => hab ((nI_eq (by omega) (by omega)).mp w))]
    rw [decide_eq_false hab] at h0; exact h0
end MTG
