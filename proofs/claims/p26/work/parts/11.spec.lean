/-! ### Segments in whole numbers, and what the reference's small methods answer -/
abbrev Sg : Type := Int × Int × Int × Int
abbrev sX (s : Sg) : Int := s.1
abbrev sY (s : Sg) : Int := s.2.1
abbrev eX (s : Sg) : Int := s.2.2.1
abbrev eY (s : Sg) : Int := s.2.2.2
def dX (s : Sg) : Int := eX s - sX s
def dY (s : Sg) : Int := eY s - sY s
/-- above 0: b is steeper than a -/
def cr (a b : Sg) : Int := dX a * dY b - dY a * dX b
def ct (a b c : Sg) : Int := (sX b - sX a) * dY c - (sY b - sY a) * dX c
def ltP (x y x2 y2 : Int) : Bool := decide (x < x2 ∨ (x = x2 ∧ y < y2))
def inR (a : Int) : Prop := 0 ≤ a ∧ a ≤ 100
def sOk (s : Sg) : Prop := (inR (sX s) ∧ inR (sY s) ∧ inR (eX s) ∧ inR (eY s)) ∧ ltP (sX s) (sY s) (eX s) (eY s) = true
def onl (a b : Sg) : Int :=
  if ltP (if ltP (sX a) (sY a) (sX b) (sY b) then sX b else sX a) (if ltP (sX a) (sY a) (sX b) (sY b) then sY b else sY a) (if ltP (eX a) (eY a) (eX b) (eY b) then eX a else eX b) (if ltP (eX a) (eY a) (eX b) (eY b) then eY a else eY b) then 2
  else if (if ltP (sX a) (sY a) (sX b) (sY b) then sX b else sX a) = (if ltP (eX a) (eY a) (eX b) (eY b) then eX a else eX b) ∧ (if ltP (sX a) (sY a) (sX b) (sY b) then sY b else sY a) = (if ltP (eX a) (eY a) (eX b) (eY b) then eY a else eY b) then 1 else 0
def prt (p q : Int) : Bool := if 0 < q then decide (0 ≤ p ∧ p ≤ q) else decide (p ≤ 0 ∧ q ≤ p)
/-- how many points two segments have in common: 0, 1, or 2 for more -/
def com (a b : Sg) : Int := if cr a b = 0 then (if ct a b a = 0 then onl a b else 0) else if prt (ct a b b) (cr a b) && prt (ct a b a) (cr a b) then 1 else 0
theorem mul_bd {a b A B : Int} (ha : -A ≤ a ∧ a ≤ A) (hb : -B ≤ b ∧ b ≤ B) : -(A * B) ≤ a * b ∧ a * b ≤ A * B := by
  have h1 : a.natAbs ≤ A.natAbs := by omega
  have h2 : b.natAbs ≤ B.natAbs := by omega
  have h3 := Nat.mul_le_mul h1 h2
  rw [← Int.natAbs_mul, ← Int.natAbs_mul] at h3
  have h4 : 0 ≤ A * B := Int.mul_nonneg (by omega) (by omega)
  omega
theorem dX_bd {s : Sg} (h : sOk s) : -100 ≤ dX s ∧ dX s ≤ 100 := by
  obtain ⟨⟨h1, h2, h3, h4⟩, -⟩ := h; unfold inR at h1 h3; unfold dX; omega
theorem dY_bd {s : Sg} (h : sOk s) : -100 ≤ dY s ∧ dY s ≤ 100 := by
  obtain ⟨⟨h1, h2, h3, h4⟩, -⟩ := h; unfold inR at h2 h4; unfold dY; omega
theorem cr_bd {a b : Sg} (ha : sOk a) (hb : sOk b) : -20000 ≤ cr a b ∧ cr a b ≤ 20000 := by
  have h1 := mul_bd (dX_bd ha) (dY_bd hb); have h2 := mul_bd (dY_bd ha) (dX_bd hb); unfold cr; omega
theorem ct_bd {a b c : Sg} (ha : sOk a) (hb : sOk b) (hc : sOk c) : -20000 ≤ ct a b c ∧ ct a b c ≤ 20000 := by
  obtain ⟨⟨a1, a2, -, -⟩, -⟩ := ha; obtain ⟨⟨b1, b2, -, -⟩, -⟩ := hb; unfold inR at a1 a2 b1 b2
  have h1 := mul_bd (a := sX b - sX a) (A := 100) (by omega) (dY_bd hc); have h2 := mul_bd (a := sY b - sY a) (A := 100) (by omega) (dX_bd hc); unfold ct; omega
theorem i32_of {a : Int} (n : Int) (h : -n ≤ a ∧ a ≤ n) (hn : n ≤ 2000000000) : i32 a := ⟨by omega, by omega⟩
theorem i64_of {a : Int} (n : Int) (h : -n ≤ a ∧ a ≤ n) (hn : n ≤ 9000000000000000000) : i64 a := ⟨by omega, by omega⟩
theorem inR_32 {a : Int} (h : inR a) : i32 a := ⟨by have := h.1; omega, by have := h.2; omega⟩
theorem i32_0 : i32 0 := ⟨by omega, by omega⟩
theorem i64_0 : i64 0 := ⟨by omega, by omega⟩
theorem zI_eq0 {a : Int} (h : i32 a) : zI a = 0 ↔ a = 0 := zI_eq h i32_0
theorem zI_le0 {a : Int} (h : i32 a) : zI a ≤ 0 ↔ a ≤ 0 := zI_le h i32_0
theorem zI_lt0 {a : Int} (h : i32 a) : zI a < 0 ↔ a < 0 := zI_lt h i32_0
theorem zI_0lt {a : Int} (h : i32 a) : 0 < zI a ↔ 0 < a := zI_lt i32_0 h
theorem zI_0le {a : Int} (h : i32 a) : 0 ≤ zI a ↔ 0 ≤ a := zI_le i32_0 h
/-- the reference's rows of ends hold the segments g 0 .. g (k - 1) -/
def mCo (M : MS) (k : Nat) (g : Nat → Sg) : Prop := ∀ i, i < k → M.2.1 1 i = zI (sX (g i)) ∧ M.2.1 2 i = zI (sY (g i)) ∧ M.2.1 3 i = zI (eX (g i)) ∧ M.2.1 4 i = zI (eY (g i))
section MLEAF
variable {F : Nat} {M : MS} {k : Nat} {g : Nat → Sg} {i j q : Nat}
theorem e_isBefore {x y x2 y2 : Int} (h1 : i32 x) (h2 : i32 y) (h3 : i32 x2) (h4 : i32 y2) : f_isBefore F M (zI x) (zI y) (zI x2) (zI y2) = some (bI (ltP x y x2 y2)) := by
  unfold f_isBefore ltP bI okB
  simp only [zI_lt h1 h3, zI_eq h1 h3, zI_le h4 h2]
  repeat' split
  all_goals first | rfl | (simp_all; done) | (simp_all; omega)
theorem e_isPart {a b : Int} (h1 : i32 a) (h2 : i32 b) : f_isPart F M (zI a) (zI b) = some (bI (prt a b)) := by
  unfold f_isPart prt bI okB
  simp only [zI_le0 h2, zI_0lt h1, zI_lt h1 h2, zI_lt0 h1, zI_lt h2 h1]
  repeat' split
  all_goals first | rfl | (simp_all; done) | (simp_all; omega)
theorem e_dx (h : mCo M k g) (hi : i < k) (hk : k ≤ 13) : f_dx F M (nI i) = some (zI (dX (g i))) := by
  unfold f_dx
  rw [rdI_at (by omega) (by decide), rdI_at (by omega) (by decide), (h i hi).2.2.1, (h i hi).1, zI_sub]; rfl
theorem e_dy (h : mCo M k g) (hi : i < k) (hk : k ≤ 13) : f_dy F M (nI i) = some (zI (dY (g i))) := by
  unfold f_dy
  rw [rdI_at (by omega) (by decide), rdI_at (by omega) (by decide), (h i hi).2.2.2, (h i hi).2.1, zI_sub]; rfl
theorem e_cross (h : mCo M k g) (hi : i < k) (hj : j < k) (hk : k ≤ 13) : f_cross F M (nI i) (nI j) = some (zI (cr (g i) (g j))) := by
  unfold f_cross
  rw [e_dx h hi hk, cal_some, e_dy h hj hk, cal_some, e_dy h hi hk, cal_some, e_dx h hj hk, cal_some, zI_mul, zI_mul, zI_sub]; rfl
theorem e_crossTo (h : mCo M k g) (hi : i < k) (hj : j < k) (hq : q < k) (hk : k ≤ 13) : f_crossTo F M (nI i) (nI j) (nI q) = some (zI (ct (g i) (g j) (g q))) := by
  unfold f_crossTo
  simp only [rdI_at (show i < 13 by omega) (show 13 < 2147483648 by decide), rdI_at (show j < 13 by omega) (show 13 < 2147483648 by decide), e_dx h hq hk, e_dy h hq hk, cal_some, (h i hi).1, (h i hi).2.1, (h j hj).1, (h j hj).2.1, zI_sub, zI_mul]
  rfl
end MLEAF
section MLEAF2
variable {F : Nat} {M : MS} {k : Nat} {g : Nat → Sg} {i j q : Nat}
theorem e_onLine (h : mCo M k g) (hg : ∀ i, i < k → sOk (g i)) (hi : i < k) (hj : j < k) (hk : k ≤ 13) : f_onLine F M (nI i) (nI j) = some (zI (onl (g i) (g j))) := by
  obtain ⟨a1, a2, a3, a4⟩ := h i hi
  obtain ⟨b1, b2, b3, b4⟩ := h j hj
  obtain ⟨⟨c1, c2, c3, c4⟩, -⟩ := hg i hi
  obtain ⟨⟨d1, d2, d3, d4⟩, -⟩ := hg j hj
  have ri : ∀ {f : Nat → Int32} {G : Int32 → Option Int32}, rdI 13 f (nI i) G = G (f i) := rdI_at (by omega) (by decide)
  have rj : ∀ {f : Nat → Int32} {G : Int32 → Option Int32}, rdI 13 f (nI j) G = G (f j) := rdI_at (by omega) (by decide)
  have L1 : ∀ (x y u v : Int), i32 x → i32 y → i32 u → i32 v → f_onLine_b141 F M (zI x) (zI y) (zI u) (zI v) = some (zI (if ltP x y u v then 2 else if x = u ∧ y = v then 1 else 0)) := by
    intro x y u v h1 h2 h3 h4
    unfold f_onLine_b141
    rw [e_isBefore h1 h2 h3 h4, cal_some]
    simp only [bI_0, zI_eq h1 h3, zI_eq h2 h4]
    repeat' split
    all_goals first | rfl | (simp_all; done)
  have L2 : ∀ (x y : Int), i32 x → i32 y → f_onLine_b68 F M (nI i) (nI j) (zI x) (zI y) = some (zI (if ltP x y (if ltP (eX (g i)) (eY (g i)) (eX (g j)) (eY (g j)) then eX (g i) else eX (g j)) (if ltP (eX (g i)) (eY (g i)) (eX (g j)) (eY (g j)) then eY (g i) else eY (g j)) then 2 else if x = (if ltP (eX (g i)) (eY (g i)) (eX (g j)) (eY (g j)) then eX (g i) else eX (g j)) ∧ y = (if ltP (eX (g i)) (eY (g i)) (eX (g j)) (eY (g j)) then eY (g i) else eY (g j)) then 1 else 0)) := by
    intro x y h1 h2
    unfold f_onLine_b68
    simp only [ri, rj, a3, a4, b3, b4, e_isBefore (inR_32 c3) (inR_32 c4) (inR_32 d3) (inR_32 d4), cal_some, bI_0, f_onLine_b119]
    cases ltP (eX (g i)) (eY (g i)) (eX (g j)) (eY (g j))
    · simp only [if_true, Bool.false_eq_true, if_false]
      exact L1 x y _ _ h1 h2 (inR_32 d3) (inR_32 d4)
    · simp only [Bool.true_eq_false, if_false, if_true]
      exact L1 x y _ _ h1 h2 (inR_32 c3) (inR_32 c4)
  unfold f_onLine onl
  simp only [ri, rj, a1, a2, b1, b2, e_isBefore (inR_32 c1) (inR_32 c2) (inR_32 d1) (inR_32 d2), cal_some, bI_0, f_onLine_b47]
  cases ltP (sX (g i)) (sY (g i)) (sX (g j)) (sY (g j))
  · simp only [if_true, Bool.false_eq_true, if_false]
    exact L2 _ _ (inR_32 c1) (inR_32 c2)
  · simp only [Bool.true_eq_false, if_false, if_true]
    exact L2 _ _ (inR_32 d1) (inR_32 d2)
theorem e_common (h : mCo M k g) (hg : ∀ i, i < k → sOk (g i)) (hi : i < k) (hj : j < k) (hk : k ≤ 13) : f_common F M (nI i) (nI j) = some (zI (com (g i) (g j))) := by
  have k1 := i32_of _ (cr_bd (hg i hi) (hg j hj)) (by omega)
  have k2 := i32_of _ (ct_bd (hg i hi) (hg j hj) (hg i hi)) (by omega)
  have k3 := i32_of _ (ct_bd (hg i hi) (hg j hj) (hg j hj)) (by omega)
  unfold f_common com
  simp only [e_cross h hi hj hk, e_crossTo h hi hj hi hk, e_crossTo h hi hj hj hk, e_onLine h hg hi hj hk, cal_some, e_isPart k3 k1, e_isPart k2 k1, zI_eq0 k1, zI_eq0 k2, bI_0]
  repeat' split
  all_goals first | rfl | (simp_all; done)
end MLEAF2
