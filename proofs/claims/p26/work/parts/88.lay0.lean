/-! Where the objects of a new SegmentMap stand: cLay, cLin, cW90 of sX6, dX6. -/
def taoL : List Nat := [0, 0, 0, 1, 2, 103, 114, 119, 120, 121, 3, 94, 95, 97, 99, 101, 96, 98, 100, 102, 104, 106, 108, 110, 112, 105, 107, 109, 111, 113, 115, 117, 116, 118]
def tao (i : Nat) : Nat := if i < 34 then taoL.getD i 0 else i - 30
def A6 (a0 sz e i : Nat) : Nat := if i = 0 then a0 else if i = 2 then e else sz + tao i
theorem tao_inj0 : ∀ i, i < 124 → ∀ j, j < 124 → (i = 0 ∨ i = 2 ∨ j = 0 ∨ j = 2 ∨ tao i ≠ tao j ∨ i = j) := by decide +kernel
theorem tao_inj (i : Nat) (hi : i < 124) (j : Nat) (hj : j < 124) (h1 : i ≠ 0) (h2 : i ≠ 2) (h3 : j ≠ 0) (h4 : j ≠ 2) (h : tao i = tao j) : i = j := by
  rcases tao_inj0 i hi j hj with h' | h' | h' | h' | h' | h'
  · exact absurd h' h1
  · exact absurd h' h2
  · exact absurd h' h3
  · exact absurd h' h4
  · exact absurd h h'
  · exact h'
theorem A6_inj {a0 sz e i j : Nat} (h0 : a0 < sz) (he : e < sz) (hne : e ≠ a0) (hi : i < 124) (hj : j < 124) (h : A6 a0 sz e i = A6 a0 sz e j) : i = j := by
  unfold A6 at h
  by_cases i0 : i = 0
  · rw [if_pos i0] at h
    by_cases j0 : j = 0
    · rw [i0, j0]
    · rw [if_neg j0] at h
      by_cases j2 : j = 2
      · rw [if_pos j2] at h; exact absurd h.symm hne
      · rw [if_neg j2] at h; omega
  · rw [if_neg i0] at h
    by_cases i2 : i = 2
    · rw [if_pos i2] at h
      by_cases j0 : j = 0
      · rw [if_pos j0] at h; exact absurd h hne
      · rw [if_neg j0] at h
        by_cases j2 : j = 2
        · rw [i2, j2]
        · rw [if_neg j2] at h; omega
    · rw [if_neg i2] at h
      by_cases j0 : j = 0
      · rw [if_pos j0] at h; omega
      · rw [if_neg j0] at h
        by_cases j2 : j = 2
        · rw [if_pos j2] at h; omega
        · rw [if_neg j2] at h
          exact tao_inj i hi j hj i0 i2 j0 j2 (by omega)
section L0
variable {N : Nat} {S : CS} {D : CD} {a0 sz e : Nat}
theorem lo_1 : sOld (sX6_1 S a0 sz e) (sX6 N S a0 sz e) (sz + 1) a0 := by
  unfold sX6 sX6_6 sX6_5 sX6_4 sX6_3 sX6_2
  exact (sOld.add ((sOld.refN (sOld.add (sOld.add ((sOld.tr (sOld.add ((sOld.tr (sOld.add ((sOld.tr (sOld.add ((sOld.add (sOld.ref sOld.rfl) (by omega)).ref) (by omega)) (rX5_old N _ _ _) (by omega) (by omega)).ref) (by omega)) (rX0_old _ _ _) (by omega) (by omega)).ref) (by omega)) (rX1_old _ _ _) (by omega) (by omega)).ref) (by omega)) (by omega)) (by omega)).ref) (by omega)).ref
theorem lo_2 : sOld (sX6_2 S a0 sz e) (sX6 N S a0 sz e) (sz + 2) a0 := by
  unfold sX6 sX6_6 sX6_5 sX6_4 sX6_3
  exact (sOld.add ((sOld.refN (sOld.add (sOld.add ((sOld.tr (sOld.add ((sOld.tr (sOld.add ((sOld.tr (sOld.add (sOld.ref sOld.rfl) (by omega)) (rX5_old N _ _ _) (by omega) (by omega)).ref) (by omega)) (rX0_old _ _ _) (by omega) (by omega)).ref) (by omega)) (rX1_old _ _ _) (by omega) (by omega)).ref) (by omega)) (by omega)) (by omega)).ref) (by omega)).ref
theorem lo_3 : sOld (sX6_3 N S a0 sz e) (sX6 N S a0 sz e) (sz + 103) a0 := by
  unfold sX6 sX6_6 sX6_5 sX6_4
  exact (sOld.add ((sOld.refN (sOld.add (sOld.add ((sOld.tr (sOld.add ((sOld.tr (sOld.add (sOld.ref sOld.rfl) (by omega)) (rX0_old _ _ _) (by omega) (by omega)).ref) (by omega)) (rX1_old _ _ _) (by omega) (by omega)).ref) (by omega)) (by omega)) (by omega)).ref) (by omega)).ref
theorem lo_4 : sOld (sX6_4 N S a0 sz e) (sX6 N S a0 sz e) (sz + 114) a0 := by
  unfold sX6 sX6_6 sX6_5
  exact (sOld.add ((sOld.refN (sOld.add (sOld.add ((sOld.tr (sOld.add (sOld.ref sOld.rfl) (by omega)) (rX1_old _ _ _) (by omega) (by omega)).ref) (by omega)) (by omega)) (by omega)).ref) (by omega)).ref
theorem lo_5 : sOld (sX6_5 N S a0 sz e) (sX6 N S a0 sz e) (sz + 119) a0 := by
  unfold sX6 sX6_6
  exact (sOld.add ((sOld.refN (sOld.add (sOld.add (sOld.ref sOld.rfl) (by omega)) (by omega)) (by omega)).ref) (by omega)).ref
theorem lo_6 : sOld (sX6_6 N S a0 sz e) (sX6 N S a0 sz e) (sz + 121) a0 := by
  unfold sX6
  exact (sOld.add (sOld.ref sOld.rfl) (by omega)).ref
theorem lo_0 : sOld S (sX6 N S a0 sz e) sz a0 := by
  have h : sOld S (sX6_1 S a0 sz e) sz a0 := by
    unfold sX6_1
    exact sOld.refN (sOld.add sOld.rfl (Nat.le_refl _)) (Nat.le_refl _)
  exact fun x hx => by
    obtain ⟨p1, p2, p3⟩ := h x hx
    obtain ⟨q1, q2, q3⟩ := lo_1 (N := N) (S := S) (a0 := a0) (sz := sz) (e := e) x (by omega)
    exact ⟨q1.trans p1, q2.trans p2, fun hxa => (q3 hxa).trans (p3 hxa)⟩
theorem rw_at (S : CS) (b n : Nat) : (nRow S b n).2.1 b = 3 ∧ (nRow S b n).2.1 (b + 1) = 8 ∧ (nRow S b n).2.2.1 b 0 = some (b + 1) ∧ (nRow S b n).2.2.2 (b + 1) = n := by
  refine ⟨(va_up_ne _ _ (by omega)).trans (va_up_self _ _ _), va_up_self _ _ _, ?_, va_up_self _ _ _⟩
  show va_up _ b (va_up _ 0 (some (b + 1))) b 0 = _
  rw [va_up_self, va_up_self]
/-- what of one stage stands at the end of a later one -/
theorem so_row {S S2 : CS} {b a r n : Nat} (h : sOld (nRow S r n) S2 b a) (hb : r + 1 < b) (ha : r ≠ a) : S2.2.1 r = 3 ∧ S2.2.1 (r + 1) = 8 ∧ S2.2.2.1 r 0 = some (r + 1) ∧ S2.2.2.2 (r + 1) = n := by
  obtain ⟨p1, p2, p3, p4⟩ := rw_at S r n
  obtain ⟨q1, q2, q3⟩ := h r (by omega)
  obtain ⟨r1, r2, r3⟩ := h (r + 1) (by omega)
  exact ⟨q1.trans p1, r1.trans p2, (congrFun (q3 ha) 0).trans p3, r2.trans p4⟩
theorem ref_at (S : CS) (a k v : Nat) : (sRef S a k v).2.2.1 a k = some v := by
  show va_up _ a (va_up _ k (some v)) a k = _
  rw [va_up_self, va_up_self]
theorem ref_ne (S : CS) (a k v j : Nat) (h : j ≠ k) : (sRef S a k v).2.2.1 a j = S.2.2.1 a j := by
  show va_up _ a (va_up _ k (some v)) a j = _
  rw [va_up_self, va_up_ne _ _ h]
theorem nRow_r (S : CS) (b n a : Nat) (h : a < b) : (nRow S b n).2.2.1 a = S.2.2.1 a := (va_up_ne _ _ (by omega)).trans ((va_up_ne _ _ (by omega)).trans (va_up_ne _ _ (by omega)))
theorem sAdd_r (S : CS) (q kd len a : Nat) (h : a < q) : (sAdd S q kd len).2.2.1 a = S.2.2.1 a := va_up_ne _ _ (by omega)
theorem pSt_r (S : CS) (q n a : Nat) (h : a < q) : (pSt S q n).2.2.1 a = S.2.2.1 a := (pSt_old S q n a h).2.1
/-- the four rows of the vertices, the edges' five, the faces' two, within their block -/
theorem x5_at (hN : N = 90) (S : CS) (a sz : Nat) (ha : a < sz) : let T := rX5_init N S a sz
    (T.2.1 sz = 9 ∧ T.2.2.2 sz = 90 ∧ T.2.1 (sz + 91) = 2 ∧ ∀ j, j < 90 → T.2.1 (sz + 1 + j) = 2) ∧ (T.2.2.1 a 0 = some sz ∧ T.2.2.1 a 1 = some (sz + 91) ∧ T.2.2.1 a 2 = some (sz + 92) ∧ T.2.2.1 a 3 = some (sz + 94) ∧ T.2.2.1 a 4 = some (sz + 96) ∧ T.2.2.1 a 5 = some (sz + 98)) ∧
    ∀ i, i < 4 → T.2.1 (sz + (92 + 2 * i)) = 3 ∧ T.2.1 (sz + (92 + 2 * i) + 1) = 8 ∧ T.2.2.1 (sz + (92 + 2 * i)) 0 = some (sz + (92 + 2 * i) + 1) ∧ T.2.2.2 (sz + (92 + 2 * i) + 1) = 90 := by
  intro T
  have hT : T = rX5_init N S a sz := rfl
  have B : sOld (rX5_b N S a sz) T (sz + 92) a := by
    rw [hT]; unfold rX5_init
    exact (sOld.row (sOld.row (sOld.row (sOld.row sOld.rfl (by omega)).ref (by omega)).ref (by omega)).ref (by omega)).ref
  have P : sOld (pSt (rX5_a S a sz) (sz + 1) N) (rX5_b N S a sz) (sz + 91) a := by
    unfold rX5_b
    exact (sOld.add sOld.rfl (by omega)).ref
  have k0 : (rX5_a S a sz).2.1 sz = 9 := va_up_self _ _ _
  have l0 : (rX5_a S a sz).2.2.2 sz = 90 := va_up_self _ _ _
  obtain ⟨p1, p2, p3⟩ := pSt_old (rX5_a S a sz) (sz + 1) N sz (by omega)
  obtain ⟨q1, q2, q3⟩ := P sz (by omega)
  obtain ⟨b1, b2, b3⟩ := B sz (by omega)
  refine ⟨⟨b1.trans (q1.trans (p1.trans k0)), b2.trans (q2.trans (p3.trans l0)), ?_, fun j hj => ?_⟩, ⟨?_, ?_, ?_, ?_, ?_, ?_⟩, fun i hi => ?_⟩
  · exact (B (sz + 91) (by omega)).1.trans (va_up_self _ _ _)
  · exact (B (sz + 1 + j) (by omega)).1.trans ((P (sz + 1 + j) (by omega)).1.trans (pSt_new _ _ _ _ (by omega)))
  · rw [hT]; simp (disch := omega) only [rX5_init, rX5_b, ref_ne, nRow_r, sAdd_r, pSt_r, rX5_a, ref_at]
  · rw [hT]; simp (disch := omega) only [rX5_init, rX5_b, ref_ne, nRow_r, sAdd_r, pSt_r, rX5_a, ref_at]
  · rw [hT]; simp (disch := omega) only [rX5_init, rX5_b, ref_ne, nRow_r, sAdd_r, pSt_r, rX5_a, ref_at]
  · rw [hT]; simp (disch := omega) only [rX5_init, rX5_b, ref_ne, nRow_r, sAdd_r, pSt_r, rX5_a, ref_at]
  · rw [hT]; simp (disch := omega) only [rX5_init, rX5_b, ref_ne, nRow_r, sAdd_r, pSt_r, rX5_a, ref_at]
  · rw [hT]; simp (disch := omega) only [rX5_init, rX5_b, ref_ne, nRow_r, sAdd_r, pSt_r, rX5_a, ref_at]
  · have r0 : sOld (nRow (rX5_b N S a sz) (sz + 92) 90) T (sz + 94) a := by
      rw [hT]; unfold rX5_init
      exact (sOld.row (sOld.row (sOld.row sOld.rfl.ref (by omega)).ref (by omega)).ref (by omega)).ref
    have r1 : sOld (nRow (sRef (nRow (rX5_b N S a sz) (sz + 92) 90) a 2 (sz + 92)) (sz + 94) 90) T (sz + 96) a := by
      rw [hT]; unfold rX5_init
      exact (sOld.row (sOld.row sOld.rfl.ref (by omega)).ref (by omega)).ref
    have r2 : sOld (nRow (sRef (nRow (sRef (nRow (rX5_b N S a sz) (sz + 92) 90) a 2 (sz + 92)) (sz + 94) 90) a 3 (sz + 94)) (sz + 96) 90) T (sz + 98) a := by
      rw [hT]; unfold rX5_init
      exact (sOld.row sOld.rfl.ref (by omega)).ref
    have r3 : sOld (nRow (sRef (nRow (sRef (nRow (sRef (nRow (rX5_b N S a sz) (sz + 92) 90) a 2 (sz + 92)) (sz + 94) 90) a 3 (sz + 94)) (sz + 96) 90) a 4 (sz + 96)) (sz + 98) 90) T (sz + 100) a := by
      rw [hT]; unfold rX5_init
      exact sOld.rfl.ref
    match i, hi with
    | 0, _ => exact so_row r0 (by omega) (by omega)
    | 1, _ => exact so_row r1 (by omega) (by omega)
    | 2, _ => exact so_row r2 (by omega) (by omega)
    | 3, _ => exact so_row r3 (by omega) (by omega)
theorem x0_at (S : CS) (a sz : Nat) (ha : a < sz) : let T := rX0_init S a sz
    (T.2.2.1 a 0 = some sz ∧ T.2.2.1 a 1 = some (sz + 2) ∧ T.2.2.1 a 2 = some (sz + 4) ∧ T.2.2.1 a 3 = some (sz + 6) ∧ T.2.2.1 a 4 = some (sz + 8)) ∧
    (∀ i, i < 5 → T.2.1 (sz + 2 * i) = 3 ∧ T.2.1 (sz + 2 * i + 1) = 8 ∧ T.2.2.1 (sz + 2 * i) 0 = some (sz + 2 * i + 1) ∧ T.2.2.2 (sz + 2 * i + 1) = if i < 3 then 144 else 288) := by
  intro T
  have hT : T = rX0_init S a sz := rfl
  refine ⟨⟨?_, ?_, ?_, ?_, ?_⟩, fun i hi => ?_⟩
  · rw [hT]; simp (disch := omega) only [rX0_init, ref_ne, nRow_r, ref_at, Nat.add_zero]
  · rw [hT]; simp (disch := omega) only [rX0_init, ref_ne, nRow_r, ref_at]
  · rw [hT]; simp (disch := omega) only [rX0_init, ref_ne, nRow_r, ref_at]
  · rw [hT]; simp (disch := omega) only [rX0_init, ref_ne, nRow_r, ref_at]
  · rw [hT]; simp (disch := omega) only [rX0_init, ref_ne, nRow_r, ref_at]
  · match i, hi with
    | 0, _ =>
      have r : sOld (nRow S (sz + 0) 144) T (sz + 2) a := by
        rw [hT]; unfold rX0_init
        exact (sOld.row (sOld.row (sOld.row (sOld.row sOld.rfl.ref (by omega)).ref (by omega)).ref (by omega)).ref (by omega)).ref
      exact so_row r (by omega) (by omega)
    | 1, _ =>
      have r : sOld (nRow (sRef (nRow S (sz + 0) 144) a 0 (sz + 0)) (sz + 2) 144) T (sz + 4) a := by
        rw [hT]; unfold rX0_init
        exact (sOld.row (sOld.row (sOld.row sOld.rfl.ref (by omega)).ref (by omega)).ref (by omega)).ref
      exact so_row r (by omega) (by omega)
    | 2, _ =>
      have r : sOld (nRow (sRef (nRow (sRef (nRow S (sz + 0) 144) a 0 (sz + 0)) (sz + 2) 144) a 1 (sz + 2)) (sz + 4) 144) T (sz + 6) a := by
        rw [hT]; unfold rX0_init
        exact (sOld.row (sOld.row sOld.rfl.ref (by omega)).ref (by omega)).ref
      exact so_row r (by omega) (by omega)
    | 3, _ =>
      have r : sOld (nRow (sRef (nRow (sRef (nRow (sRef (nRow S (sz + 0) 144) a 0 (sz + 0)) (sz + 2) 144) a 1 (sz + 2)) (sz + 4) 144) a 2 (sz + 4)) (sz + 6) 288) T (sz + 8) a := by
        rw [hT]; unfold rX0_init
        exact (sOld.row sOld.rfl.ref (by omega)).ref
      exact so_row r (by omega) (by omega)
    | 4, _ =>
      have r : sOld (nRow (sRef (nRow (sRef (nRow (sRef (nRow (sRef (nRow S (sz + 0) 144) a 0 (sz + 0)) (sz + 2) 144) a 1 (sz + 2)) (sz + 4) 144) a 2 (sz + 4)) (sz + 6) 288) a 3 (sz + 6)) (sz + 8) 288) T (sz + 10) a := by
        rw [hT]; unfold rX0_init
        exact sOld.rfl.ref
      exact so_row r (by omega) (by omega)
theorem x1_at (S : CS) (a sz : Nat) (ha : a < sz) : let T := rX1_init S a sz
    (T.2.2.1 a 0 = some sz ∧ T.2.2.1 a 1 = some (sz + 2)) ∧ ∀ i, i < 2 → T.2.1 (sz + 2 * i) = 3 ∧ T.2.1 (sz + 2 * i + 1) = 8 ∧ T.2.2.1 (sz + 2 * i) 0 = some (sz + 2 * i + 1) ∧ T.2.2.2 (sz + 2 * i + 1) = 56 := by
  intro T
  have hT : T = rX1_init S a sz := rfl
  refine ⟨⟨?_, ?_⟩, fun i hi => ?_⟩
  · rw [hT]; simp (disch := omega) only [rX1_init, ref_ne, nRow_r, ref_at, Nat.add_zero]
  · rw [hT]; simp (disch := omega) only [rX1_init, ref_ne, nRow_r, ref_at]
  · match i, hi with
    | 0, _ =>
      have r : sOld (nRow S (sz + 0) 56) T (sz + 2) a := by
        rw [hT]; unfold rX1_init
        exact (sOld.row sOld.rfl.ref (by omega)).ref
      exact so_row r (by omega) (by omega)
    | 1, _ =>
      have r : sOld (nRow (sRef (nRow S (sz + 0) 56) a 0 (sz + 0)) (sz + 2) 56) T (sz + 4) a := by
        rw [hT]; unfold rX1_init
        exact sOld.rfl.ref
      exact so_row r (by omega) (by omega)
end L0
