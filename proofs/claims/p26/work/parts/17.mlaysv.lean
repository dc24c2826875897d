/-! ### the vertices of the segments, in the order of the search; the reference finds them -/
abbrev VS : Type := Nat × (Nat → Pt)
def ptI (x y : Int) : Pt := (Rat.divInt x 1, Rat.divInt y 1)
def meetP (a b : Sg) : Pt := (Rat.divInt (sX a * cr a b + ct a b b * dX a) (cr a b), Rat.divInt (sY a * cr a b + ct a b b * dY a) (cr a b))
def vJ (g : Nat → Sg) (i : Nat) : Nat → VS → VS
  | 0, q => q
  | j + 1, q => if cr (g i) (g j) ≠ 0 ∧ com (g i) (g j) = 1 then vins (vJ g i j q) (meetP (g i) (g j)) else vJ g i j q
def vI (g : Nat → Sg) : Nat → VS
  | 0 => (0, fun _ => (0, 0))
  | i + 1 => vJ g i i (vins (vins (vI g i) (ptI (sX (g i)) (sY (g i)))) (ptI (eX (g i)) (eY (g i))))
def vGood (q : VS) : Prop := vsort q.1 q.2 ∧ ∀ i, i < q.1 → bV (q.2 i)
theorem vins_good {q : VS} {p : Pt} (h : vGood q) (hp : bV p) : vGood (vins q p) := by
  refine ⟨vins_sort (n := q.1) (V := q.2) p h.1, fun i hi => ?_⟩
  rcases (vins_mem (n := q.1) (V := q.2) p ((vins q p).2 i)).mp ⟨i, hi, rfl⟩ with ⟨k, h1, h2⟩ | h1
  · rw [← h2]; exact h.2 k h1
  · rw [h1]; exact hp
theorem vinsLe (q : VS) (p : Pt) : (vins q p).1 ≤ q.1 + 1 := vins_le (n := q.1) (V := q.2) p
theorem bV_pt {x y : Int} (hx : inR x) (hy : inR y) : bV (ptI x y) := by
  unfold inR at hx hy
  exact ⟨bR_div (by omega) ⟨by omega, by omega⟩ ⟨by omega, by omega⟩, bR_div (by omega) ⟨by omega, by omega⟩ ⟨by omega, by omega⟩⟩
theorem meet_bd {a b : Sg} (ha : sOk a) (hb : sOk b) : (-4000000 ≤ sX a * cr a b + ct a b b * dX a ∧ sX a * cr a b + ct a b b * dX a ≤ 4000000) ∧ (-4000000 ≤ sY a * cr a b + ct a b b * dY a ∧ sY a * cr a b + ct a b b * dY a ≤ 4000000) := by
  have h1 := cr_bd ha hb
  have h2 := ct_bd ha hb hb
  obtain ⟨⟨a1, a2, -, -⟩, -⟩ := id ha
  unfold inR at a1 a2
  have m1 := mul_bd (a := sX a) (A := 100) ⟨by omega, by omega⟩ h1
  have m2 := mul_bd h2 (dX_bd ha)
  have m3 := mul_bd (a := sY a) (A := 100) ⟨by omega, by omega⟩ h1
  have m4 := mul_bd h2 (dY_bd ha)
  omega
theorem bV_meet {a b : Sg} (ha : sOk a) (hb : sOk b) (h : cr a b ≠ 0) : bV (meetP a b) :=
  ⟨bR_div h (meet_bd ha hb).1 (cr_bd ha hb), bR_div h (meet_bd ha hb).2 (cr_bd ha hb)⟩
theorem vJ_good {g : Nat → Sg} {n i : Nat} (hg : ∀ i, i < n → sOk (g i)) (hi : i < n) {q : VS} (hq : vGood q) : ∀ j, j ≤ i → vGood (vJ g i j q) := by
  intro j
  induction j with
  | zero => intro _; exact hq
  | succ j ih =>
    intro h
    rw [vJ]
    split
    · next hc => exact vins_good (ih (by omega)) (bV_meet (hg i hi) (hg j (by omega)) hc.1)
    · exact ih (by omega)
theorem vJ_cnt (g : Nat → Sg) (i : Nat) (q : VS) : ∀ j, (vJ g i j q).1 ≤ q.1 + j := by
  intro j
  induction j with
  | zero => exact Nat.le_refl _
  | succ j ih =>
    rw [vJ]
    split
    · have := vinsLe (vJ g i j q) (meetP (g i) (g j)); omega
    · omega
def tri : Nat → Nat
  | 0 => 0
  | i + 1 => tri i + i
theorem tri_le : ∀ i, i < 13 → 2 * i + tri i ≤ 90 := by decide
theorem vI_cnt (g : Nat → Sg) : ∀ i, (vI g i).1 ≤ 2 * i + tri i := by
  intro i
  induction i with
  | zero => exact Nat.le_refl _
  | succ i ih =>
    rw [vI, tri]
    have h1 := vJ_cnt g i (vins (vins (vI g i) (ptI (sX (g i)) (sY (g i)))) (ptI (eX (g i)) (eY (g i)))) i
    have h2 := vinsLe (vins (vI g i) (ptI (sX (g i)) (sY (g i)))) (ptI (eX (g i)) (eY (g i)))
    have h3 := vinsLe (vI g i) (ptI (sX (g i)) (sY (g i)))
    omega
theorem vI_good {g : Nat → Sg} {n : Nat} (hg : ∀ i, i < n → sOk (g i)) : ∀ i, i ≤ n → vGood (vI g i) := by
  intro i
  induction i with
  | zero => intro _; exact ⟨fun i j h1 h2 => by have : j < 0 := h2; omega, fun i h => by have : i < 0 := h; omega⟩
  | succ i ih =>
    intro h
    obtain ⟨⟨h1, h2, h3, h4⟩, -⟩ := hg i (by omega)
    rw [vI]
    exact vJ_good hg (by omega) (vins_good (vins_good (ih (by omega)) (bV_pt h1 h2)) (bV_pt h3 h4)) i (Nat.le_refl _)
theorem com_32 (a b : Sg) : i32 (com a b) := by
  unfold com onl i32
  repeat' split
  all_goals omega
theorem mCo_fr {M M0 : MS} {n : Nat} {g : Nat → Sg} (h : mCo M0 n g) (hf : M.2.1 = M0.2.1) : mCo M n g := fun i hi => by rw [hf]; exact h i hi
theorem mFrV.trans {M M2 M3 : MS} (h : mFrV M M2) (h2 : mFrV M2 M3) : mFrV M M3 := ⟨h2.1.trans h.1, fun j hj => (h2.2 j hj).trans (h.2 j hj)⟩
section MLV
variable {F : Nat} {M0 : MS} {g : Nat → Sg} {n : Nat}
theorem e_lv55 (hF : 1000001 ≤ F) (hco : mCo M0 n g) (hg : ∀ i, i < n → sOk (g i)) (hn : n ≤ 12) {i : Nat} (hi : i < n) (k7 : MS → Int32 → Option MS) {q0 : VS} (hq : vGood q0) (hq2 : q0.1 + i ≤ 90) :
    ∀ (d m j : Nat) (M : MS), j + d = i → d < m → mVer M (vJ g i j q0).1 (vJ g i j q0).2 → mFrV M0 M → ∃ M2, mVer M2 (vJ g i i q0).1 (vJ g i i q0).2 ∧ mFrV M0 M2 ∧ f_laysVertices_L55 F k7 m M (nI i) (nI j) = k7 M2 (nI (i + 1)) := by
  intro d
  induction d with
  | zero =>
    intro m j M hj hm hv hf
    obtain ⟨m, rfl⟩ : ∃ q, m = q + 1 := ⟨m - 1, by omega⟩
    have e : j = i := by omega
    subst e
    refine ⟨M, hv, hf, ?_⟩
    rw [f_laysVertices_L55, if_pos (Int32.le_refl _), nI_1]
  | succ d ih =>
    intro m j M hj hm hv hf
    obtain ⟨m, rfl⟩ : ∃ q, m = q + 1 := ⟨m - 1, by omega⟩
    have hji : j < n := by omega
    have hM : mCo M n g := mCo_fr hco hf.1
    have k1 := i32_of _ (cr_bd (hg i hi) (hg j hji)) (by omega)
    have k2 := i32_of _ (ct_bd (hg i hi) (hg j hji) (hg j hji)) (by omega)
    have k3 := i32_of _ (dX_bd (hg i hi)) (by omega)
    have k4 := i32_of _ (dY_bd (hg i hi)) (by omega)
    obtain ⟨⟨b1, b2, -, -⟩, -⟩ := id (hg i hi)
    obtain ⟨c1, c2, -, -⟩ := hM i hi
    have skip : vJ g i (j + 1) q0 = vJ g i j q0 → ∃ M2, mVer M2 (vJ g i i q0).1 (vJ g i i q0).2 ∧ mFrV M0 M2 ∧ f_laysVertices_b137 F k7 (f_laysVertices_L55 F k7 m) M (nI i) (nI j) = k7 M2 (nI (i + 1)) := by
      intro e
      unfold f_laysVertices_b137
      rw [nI_1]
      exact ih m (j + 1) M (by omega) (by omega) (by rw [e]; exact hv) hf
    rw [f_laysVertices_L55, if_neg (by rw [nI_leI (by omega) (by omega)]; omega)]
    simp only [e_cross hM hi hji (by omega), e_common hM hg hi hji (by omega), e_crossTo hM hi hji hji (by omega), e_dx hM hi (by omega), e_dy hM hi (by omega), rdI_at (show i < 13 by omega) (show 13 < 2147483648 by decide), cal_some, c1, c2, zI_long k1, zI_long k2, zI_long k3, zI_long k4, zI_long (inR_32 b1), zI_long (inR_32 b2), zL_mul, zL_add]
    by_cases q : cr (g i) (g j) = 0
    · rw [if_pos ((zI_eq0 k1).mpr q)]
      exact skip (by rw [vJ, if_neg (fun w => w.1 q)])
    · rw [if_neg (fun w => q ((zI_eq0 k1).mp w))]
      by_cases r : com (g i) (g j) = 1
      · rw [if_pos (by rw [r]; rfl)]
        have hgood := vJ_good hg hi hq j (by omega)
        have hcnt := vJ_cnt g i q0 j
        obtain ⟨M2, g1, g2, g3⟩ := e_point hF hv hgood.1 hgood.2 (by omega) (meet_bd (hg i hi) (hg j hji)).1 (meet_bd (hg i hi) (hg j hji)).2 q (cr_bd (hg i hi) (hg j hji))
        rw [g1, cal_some]
        unfold f_laysVertices_b137
        rw [nI_1]
        exact ih m (j + 1) M2 (by omega) (by omega) (by rw [vJ, if_pos ⟨q, r⟩]; exact g2) (hf.trans g3)
      · have z1 : ¬ (zI (com (g i) (g j)) = 1) := fun w => r ((zI_eq (com_32 _ _) ⟨by omega, by omega⟩ (b := 1)).mp (w.trans zI_1.symm))
        rw [if_neg z1]
        exact skip (by rw [vJ, if_neg (fun w => r w.2)])
theorem e_lv7 (hF : 1000001 ≤ F) (hco : mCo M0 n g) (h0 : M0.1 0 = nI n) (hg : ∀ i, i < n → sOk (g i)) (hn : n ≤ 12) :
    ∀ (d m i : Nat) (M : MS), i + d = n → d < m → mVer M (vI g i).1 (vI g i).2 → mFrV M0 M → ∃ M2, f_laysVertices_L7 F m M (nI i) = some M2 ∧ mVer M2 (vI g n).1 (vI g n).2 ∧ mFrV M0 M2 := by
  intro d
  induction d with
  | zero =>
    intro m i M hi hm hv hf
    obtain ⟨m, rfl⟩ : ∃ q, m = q + 1 := ⟨m - 1, by omega⟩
    have e : i = n := by omega
    subst e
    refine ⟨M, ?_, hv, hf⟩
    rw [f_laysVertices_L7, hf.2 0 (by decide), h0, if_pos (Int32.le_refl _)]
  | succ d ih =>
    intro m i M hi hm hv hf
    obtain ⟨m, rfl⟩ : ∃ q, m = q + 1 := ⟨m - 1, by omega⟩
    have hin : i < n := by omega
    have hM : mCo M n g := mCo_fr hco hf.1
    obtain ⟨⟨b1, b2, b3, b4⟩, -⟩ := id (hg i hin)
    obtain ⟨c1, c2, -, -⟩ := hM i hin
    have hc := vI_cnt g i
    have ht := tri_le (i + 1) (by omega)
    have ht2 : tri (i + 1) = tri i + i := rfl
    have hgd := vI_good hg i (by omega)
    have pb : ∀ {x : Int}, inR x → -4000000 ≤ x ∧ x ≤ 4000000 := fun h => by unfold inR at h; omega
    obtain ⟨M2, g1, g2, g3⟩ := e_point (d := 1) hF hv hgd.1 hgd.2 (by omega) (pb b1) (pb b2) (by omega) ⟨by omega, by omega⟩
    have hM2 : mCo M2 n g := mCo_fr hM g3.1
    obtain ⟨-, -, d3, d4⟩ := hM2 i hin
    have hgd2 := vins_good hgd (bV_pt b1 b2)
    have hc2 := vins_le (n := (vI g i).1) (V := (vI g i).2) (ptI (sX (g i)) (sY (g i)))
    obtain ⟨M3, r1, r2, r3⟩ := e_point (d := 1) hF g2 hgd2.1 hgd2.2 (by show (vins (vI g i) (ptI (sX (g i)) (sY (g i)))).1 ≤ 99; have : (vins (vI g i) (ptI (sX (g i)) (sY (g i)))).1 ≤ (vI g i).1 + 1 := hc2; omega) (pb b3) (pb b4) (by omega) ⟨by omega, by omega⟩
    have hgd3 := vins_good hgd2 (bV_pt b3 b4)
    have hc3 := vins_le (n := (vins (vI g i) (ptI (sX (g i)) (sY (g i)))).1) (V := (vins (vI g i) (ptI (sX (g i)) (sY (g i)))).2) (ptI (eX (g i)) (eY (g i)))
    obtain ⟨M4, s1, s2, s3⟩ := e_lv55 hF hco hg hn hin (f_laysVertices_L7 F m) hgd3 (by
      have e1 : (vins (vI g i) (ptI (sX (g i)) (sY (g i)))).1 ≤ (vI g i).1 + 1 := hc2
      have e2 : (vins (vins (vI g i) (ptI (sX (g i)) (sY (g i)))) (ptI (eX (g i)) (eY (g i)))).1 ≤ (vins (vI g i) (ptI (sX (g i)) (sY (g i)))).1 + 1 := hc3
      omega) i F 0 M3 (by omega) (by omega) r2 ((hf.trans g3).trans r3)
    rw [f_laysVertices_L7, hf.2 0 (by decide), h0, if_neg (by rw [nI_leI (by omega) (by omega)]; omega)]
    simp only [rdI_at (show i < 13 by omega) (show 13 < 2147483648 by decide), c1, c2, zI_long (inR_32 b1), zI_long (inR_32 b2)]
    rw [show (1 : Int64) = zL 1 from zL_1.symm, g1, cal_some]
    simp only [rdI_at (show i < 13 by omega) (show 13 < 2147483648 by decide), d3, d4, zI_long (inR_32 b3), zI_long (inR_32 b4)]
    rw [r1, cal_some, show (0 : Int32) = nI 0 from rfl, s3]
    exact ih m (i + 1) M4 (by omega) (by omega) (by rw [vI]; exact s1) s2
theorem e_laysVertices (hF : 1000001 ≤ F) (hco : mCo M0 n g) (h0 : M0.1 0 = nI n) (hg : ∀ i, i < n → sOk (g i)) (hn : n ≤ 12) :
    ∃ M2, f_laysVertices F M0 = some M2 ∧ mVer M2 (vI g n).1 (vI g n).2 ∧ mFrV M0 M2 := by
  unfold f_laysVertices wrF
  exact e_lv7 hF hco h0 hg hn n F 0 (mpF M0 5 0) (by omega) (by omega) ⟨rfl, fun i h => by have : i < 0 := h; omega⟩ ⟨rfl, fun j hj => va_up_ne _ _ hj⟩
end MLV
