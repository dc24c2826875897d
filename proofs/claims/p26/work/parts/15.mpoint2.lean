/-! ### the reference's point, to its end -/
section MPT3
variable {F : Nat} {n : Nat} {V : Nat → Pt} {a b : Int} {c : Nat}
theorem upL_s {f : Nat → Int64} {k : Nat} {x : Int64} : vp_updL f k x k = x := pk_uLs
theorem upL_n {f : Nat → Int64} {k j : Nat} {x : Int64} (h : j ≠ k) : vp_updL f k x j = f j := pk_uLn h
/-- four rows of longs written at k -/
theorem mV4_put {M : MS} {k : Nat} {x1 x2 x3 x4 : Int64} {M2 : MS} (h : M2 = mpL (mpL (mpL (mpL M 6 (vp_updL (M.2.2 6) k x1)) 7 (vp_updL (M.2.2 7) k x2)) 8 (vp_updL (M.2.2 8) k x3)) 9 (vp_updL (M.2.2 9) k x4)) :
    (M2.2.2 6 k = x1 ∧ M2.2.2 7 k = x2 ∧ M2.2.2 8 k = x3 ∧ M2.2.2 9 k = x4) ∧ (∀ i p, i ≠ k → mV4 M i p → mV4 M2 i p) ∧ M2.1 = M.1 ∧ M2.2.1 = M.2.1 := by
  subst h
  refine ⟨⟨?_, ?_, ?_, ?_⟩, fun i p hi hp => ?_, rfl, rfl⟩
  · exact upL_s
  · exact upL_s
  · exact upL_s
  · exact upL_s
  · obtain ⟨h1, h2, h3, h4⟩ := hp
    exact ⟨(upL_n hi).trans h1, (upL_n hi).trans h2, (upL_n hi).trans h3, (upL_n hi).trans h4⟩
/-- the division that brings a fraction to its lowest terms -/
theorem dv_num {a : Int} {c : Nat} (hc0 : c ≠ 0) (ha : -4000000 ≤ a ∧ a ≤ 4000000) (hc : c ≤ 20000) : zL a / zL (Nat.gcd a.natAbs c) = zL (mkRat a c).num ∧ zL c / zL (Nat.gcd a.natAbs c) = zL (mkRat a c).den ∧ ¬ zL (Nat.gcd a.natAbs c) = 0 := by
  obtain ⟨g, hg, h1, h2, h3⟩ := mkRat_sc a hc0
  rw [← h3]
  have hgc : g ≤ c := by rw [h3]; exact Nat.gcd_le_right _ (Nat.pos_of_ne_zero hc0)
  refine ⟨?_, ?_, fun z => by have := (zL_eq (a := g) ⟨by omega, by omega⟩ i64_0).mp z; omega⟩
  · rw [zL_div ⟨by omega, by omega⟩ ⟨by omega, by omega⟩ (by omega)]
    congr 1
    generalize (mkRat a c).num = u at h1
    rw [h1]; exact Int.mul_tdiv_cancel u (by omega)
  · rw [zL_div ⟨by omega, by omega⟩ ⟨by omega, by omega⟩ (by omega)]
    congr 1
    rw [h2]; exact Int.mul_tdiv_cancel _ (by omega)
/-- the rows while the ones above move up: the place k is free -/
def mSh (M : MS) (n : Nat) (V : Nat → Pt) (k : Nat) : Prop := M.1 5 = nI n ∧ (∀ i, i < k → i < n → mV4 M i (V i)) ∧ ∀ i, k < i → i ≤ n → mV4 M i (V (i - 1))
theorem e_point173 (hF : 1000001 ≤ F) (hn : n ≤ 99) (ha : -4000000 ≤ a ∧ a ≤ 4000000) (hb : -4000000 ≤ b ∧ b ≤ 4000000) (hc : c ≤ 20000) (hc0 : c ≠ 0) (at_ : Nat) :
    ∀ (d m : Nat) (M : MS), d < m → at_ + d ≤ n → mSh M n V (at_ + d) → ∃ M2, f_point_L173 F m M (zL a) (zL b) (zL c) (nI at_) (nI (at_ + d)) = some M2 ∧ mVer M2 (n + 1) (vput V at_ (mkRat a c, mkRat b c)) ∧ mFrV M M2 := by
  intro d
  induction d with
  | zero =>
    intro m M hm hd hs
    obtain ⟨m, rfl⟩ : ∃ q, m = q + 1 := ⟨m - 1, by omega⟩
    obtain ⟨h5, hlo, hhi⟩ := hs
    obtain ⟨a1, a2, a3⟩ := dv_num hc0 ha hc
    obtain ⟨b1, b2, b3⟩ := dv_num hc0 hb hc
    have sa : ∀ M, f_shared F M (zL a) (zL c) = some (zL (Nat.gcd a.natAbs c)) := fun M => e_shared hF ⟨by omega, by omega⟩ (by omega)
    have sb : ∀ M, f_shared F M (zL b) (zL c) = some (zL (Nat.gcd b.natAbs c)) := fun M => e_shared hF ⟨by omega, by omega⟩ (by omega)
    rw [f_point_L173]
    simp only [Nat.add_zero] at hlo hhi hd ⊢
    rw [if_pos (Int32.le_refl _)]
    simp only [sa, sb, cal_some, dvL, if_neg a3, if_neg b3, wrL_at (show at_ < 100 by omega) (show 100 < 2147483648 by decide), a1, a2, b1, b2, wrF]
    refine ⟨_, rfl, ?_⟩
    obtain ⟨g1, g2, g3, g4⟩ := mV4_put (M := M) (k := at_) (x1 := zL (mkRat a c).num) (x2 := zL (mkRat a c).den) (x3 := zL (mkRat b c).num) (x4 := zL (mkRat b c).den) rfl
    refine ⟨⟨?_, fun i hi => ?_⟩, ?_, fun j hj => ?_⟩
    · show M.1 5 + 1 = nI (n + 1)
      rw [h5, nI_1]
    · unfold vput
      rcases Nat.lt_trichotomy i at_ with q | q | q
      · rw [if_pos q]; exact g2 i _ (by omega) (hlo i q (by omega))
      · rw [if_neg (by omega), if_pos q, q]; exact g1
      · rw [if_neg (by omega), if_neg (by omega)]; exact g2 i _ (by omega) (hhi i q (by omega))
    · exact g4
    · exact va_up_ne _ _ hj
  | succ d ih =>
    intro m M hm hd hs
    obtain ⟨m, rfl⟩ : ∃ q, m = q + 1 := ⟨m - 1, by omega⟩
    obtain ⟨h5, hlo, hhi⟩ := hs
    rw [f_point_L173, if_neg (by rw [nI_leI (by omega) (by omega)]; omega)]
    have em : nI (at_ + (d + 1)) - 1 = nI (at_ + d) := nI_pred (at_ + d)
    have em2 : nI (at_ + (d + 1)) + (-1) = nI (at_ + d) := pk_m1 (at_ + d)
    simp only [em, em2, rdL_at (show at_ + d < 100 by omega) (show 100 < 2147483648 by decide), wrL_at (show at_ + (d + 1) < 100 by omega) (show 100 < 2147483648 by decide)]
    obtain ⟨v1, v2, v3, v4⟩ := hlo (at_ + d) (by omega) (by omega)
    generalize hM2 : mpL (mpL (mpL (mpL M 6 (vp_updL (M.2.2 6) (at_ + (d + 1)) (M.2.2 6 (at_ + d)))) 7 (vp_updL (M.2.2 7) (at_ + (d + 1)) (M.2.2 7 (at_ + d)))) 8 (vp_updL (M.2.2 8) (at_ + (d + 1)) (M.2.2 8 (at_ + d)))) 9 (vp_updL (M.2.2 9) (at_ + (d + 1)) (M.2.2 9 (at_ + d))) = M2
    obtain ⟨g1, g2, g3, g4⟩ := mV4_put hM2.symm
    have hsh : mSh M2 n V (at_ + d) := by
      refine ⟨by rw [g3]; exact h5, fun i h1 h2 => g2 i _ (by omega) (hlo i (by omega) h2), fun i h1 h2 => ?_⟩
      rcases Nat.lt_or_ge (at_ + (d + 1)) i with q | q
      · exact g2 i _ (by omega) (hhi i q h2)
      · have e : i = at_ + (d + 1) := by omega
        subst e
        exact ⟨g1.1.trans v1, g1.2.1.trans v2, g1.2.2.1.trans v3, g1.2.2.2.trans v4⟩
    obtain ⟨M3, e1, e2, e3, e4⟩ := ih m M2 (by omega) (by omega) hsh
    refine ⟨M3, ?_, e2, e3.trans g4, fun j hj => (e4 j hj).trans (by rw [g3])⟩
    rw [← e1, ← hM2]
    rfl
theorem mpos_vpos {p : Pt} (hs : vsort n V) (hne : exB V p n = false) : mpos V p n n = vpos V p n := by
  -- the search from above, over a row in order
  have hex : ∀ j, j ≤ n → exB V p j = false → ∀ i, i < j → V i ≠ p := by
    intro j
    induction j with
    | zero => intro _ _ i hi; omega
    | succ j ih =>
      intro hj h i hi
      rw [exB, Bool.or_eq_false_iff] at h
      rcases Nat.lt_or_ge i j with q | q
      · exact ih (by omega) h.1 i q
      · have : i = j := by omega
        subst this; exact of_decide_eq_false h.2
  have hne' := hex n (Nat.le_refl _) hne
  have low : ∀ j a, j ≤ vpos V p n → mpos V p j a = a := by
    intro j
    induction j with
    | zero => intro a _; rfl
    | succ j ih =>
      intro a hj
      rw [mpos, if_neg (ltV_asymm (vpos_lt hs (by omega)))]
      exact ih a (by omega)
  have hi : ∀ j, vpos V p n ≤ j → j ≤ n → mpos V p j j = vpos V p n := by
    intro j
    induction j with
    | zero => intro h _; rw [mpos]; omega
    | succ j ih =>
      intro h1 h2
      rcases Nat.lt_or_ge j (vpos V p n) with q | q
      · have : vpos V p n = j + 1 := by omega
        rw [← this]; exact low _ _ (Nat.le_refl _)
      · have hlt : ltV p (V j) := by
          rcases ltV_tri (V j) p with w | w | w
          · exact absurd w (vpos_ge q (by omega))
          · exact absurd w (hne' j (by omega))
          · exact w
        rw [mpos, if_pos hlt]; exact ih q (by omega)
  exact hi n (vpos_le V p n) (Nat.le_refl _)
theorem exB_iff {p : Pt} (hs : vsort n V) : exB V p n = true ↔ (vpos V p n < n ∧ V (vpos V p n) = p) := by
  have hx : ∀ j, exB V p j = true ↔ ∃ i, i < j ∧ V i = p := by
    intro j
    induction j with
    | zero => simp [exB]
    | succ j ih =>
      rw [exB, Bool.or_eq_true, ih, decide_eq_true_iff]
      constructor
      · rintro (⟨i, h1, h2⟩ | h)
        · exact ⟨i, by omega, h2⟩
        · exact ⟨j, by omega, h⟩
      · rintro ⟨i, h1, h2⟩
        rcases Nat.lt_or_ge i j with q | q
        · exact Or.inl ⟨i, q, h2⟩
        · have : i = j := by omega
          subst this; exact Or.inr h2
  rw [hx]
  constructor
  · rintro ⟨i, h1, h2⟩
    have e : i = vpos V p n := by
      rcases Nat.lt_trichotomy i (vpos V p n) with q | q | q
      · exact absurd (h2 ▸ vpos_lt hs q) (ltV_irr _)
      · exact q
      · have h3 := hs _ _ q h1
        rw [h2] at h3
        exact absurd h3 (vpos_ge (Nat.le_refl _) (by omega))
    subst e; exact ⟨h1, h2⟩
  · rintro ⟨h1, h2⟩; exact ⟨_, h1, h2⟩
end MPT3
