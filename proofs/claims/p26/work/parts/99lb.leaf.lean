/-! What the law's small methods come to. -/
theorem cs_pos {a b : Int} : 0 < zI (csgn a b) ↔ b < a := by
  rcases Int.lt_trichotomy a b with h | h | h
  · rw [csgn_lt h]; exact ⟨fun w => absurd w (by decide), fun w => by omega⟩
  · rw [csgn_eq h]; exact ⟨fun w => absurd w (by decide), fun w => by omega⟩
  · rw [csgn_gt h]; exact ⟨fun _ => h, fun _ => by decide⟩
theorem cs_eq {a b : Int} : zI (csgn a b) = 0 ↔ a = b := by
  rcases Int.lt_trichotomy a b with h | h | h
  · rw [csgn_lt h]; exact ⟨fun w => absurd w (by decide), fun w => by omega⟩
  · rw [csgn_eq h]; exact ⟨fun _ => h, fun _ => by decide⟩
  · rw [csgn_gt h]; exact ⟨fun w => absurd w (by decide), fun w => by omega⟩
theorem cs_lt {a b : Int} : zI (csgn a b) < 0 ↔ a < b := by
  rcases Int.lt_trichotomy a b with h | h | h
  · rw [csgn_lt h]; exact ⟨fun _ => h, fun _ => by decide⟩
  · rw [csgn_eq h]; exact ⟨fun w => absurd w (by decide), fun w => by omega⟩
  · rw [csgn_gt h]; exact ⟨fun w => absurd w (by decide), fun w => by omega⟩
theorem cs_le {a b : Int} : zI (csgn a b) ≤ 0 ↔ a ≤ b := by
  rcases Int.lt_trichotomy a b with h | h | h
  · rw [csgn_lt h]; exact ⟨fun _ => by omega, fun _ => by decide⟩
  · rw [csgn_eq h]; exact ⟨fun _ => by omega, fun _ => by decide⟩
  · rw [csgn_gt h]; exact ⟨fun w => absurd w (by decide), fun w => by omega⟩
theorem cs_ge {a b : Int} : 0 ≤ zI (csgn a b) ↔ b ≤ a := by
  rcases Int.lt_trichotomy a b with h | h | h
  · rw [csgn_lt h]; exact ⟨fun w => absurd w (by decide), fun w => by omega⟩
  · rw [csgn_eq h]; exact ⟨fun _ => by omega, fun _ => by decide⟩
  · rw [csgn_gt h]; exact ⟨fun _ => by omega, fun _ => by decide⟩
theorem ix0 (i : Nat) : 4 * nI i = nI (4 * i) := by
  rw [nI_zI, nI_zI]; show zI 4 * zI i = _; rw [zI_mul]; congr 1
theorem ix1 (i : Nat) : 4 * nI i + 1 = nI (4 * i + 1) := by rw [ix0, nI_1]
theorem ixk (i k : Nat) : nI i + nI k = nI (i + k) := by rw [nI_zI, nI_zI, nI_zI, zI_add]; congr 1
theorem ix2 (i : Nat) : 4 * nI i + 2 = nI (4 * i + 2) := by rw [ix0]; exact ixk _ 2
theorem ix3 (i : Nat) : 4 * nI i + 3 = nI (4 * i + 3) := by rw [ix0]; exact ixk _ 3
/-- the ends of one segment in the law's row -/
def rowG (D : CD) (gA i : Nat) (s : Sg) : Prop := D.2.2.1 gA (4 * i) = zI (sX s) ∧ D.2.2.1 gA (4 * i + 1) = zI (sY s) ∧ D.2.2.1 gA (4 * i + 2) = zI (eX s) ∧ D.2.2.1 gA (4 * i + 3) = zI (eY s)
def gOn (S : CS) (gA : Nat) : Prop := (gA ∈ S.1 ∧ S.2.1 gA = 8) ∧ S.2.2.2 gA = 52
def mOn (S : CS) (mA : Nat) : Prop := (mA ∈ S.1 ∧ S.2.1 mA = 8) ∧ S.2.2.2 mA = 1
section LEAF
variable {F : Nat} {S : CS} {D : CD} {gA i j : Nat} {a b : Sg}
theorem g_rd {α : Type} {k : Nat} {f : Int32 → Option α} (h : gOn S gA) (hk : k < 52) : rdI (S.2.2.2 gA) (D.2.2.1 gA) (nI k) f = f (D.2.2.1 gA k) := rdI_at (by rw [h.2]; exact hk) (by rw [h.2]; decide)
theorem m_rd {α : Type} {f : Int32 → Option α} (h : mOn S gA) : rdI (S.2.2.2 gA) (D.2.2.1 gA) 0 f = f (D.2.2.1 gA 0) := rdI_at (k := 0) (by rw [h.2]; decide) (by rw [h.2]; decide)
theorem e_Ldx (hg : gOn S gA) (hr : rowG D gA i a) (hi : i < 13) (ha : sOk a) : f_L_dx F S D gA (nI i) = some (zL (dX a)) := by
  obtain ⟨r0, r1, r2, r3⟩ := hr
  unfold f_L_dx
  rw [ck_ok hg.1, ix2, g_rd hg (by omega), ix0, g_rd hg (by omega), r0, r2, zI_sub]
  show some ((zI (dX a)).toInt64) = _
  rw [zI_long (i32_of 100 (dX_bd ha) (by omega))]
theorem e_Ldy (hg : gOn S gA) (hr : rowG D gA i a) (hi : i < 13) (ha : sOk a) : f_L_dy F S D gA (nI i) = some (zL (dY a)) := by
  obtain ⟨r0, r1, r2, r3⟩ := hr
  unfold f_L_dy
  rw [ck_ok hg.1, ix3, g_rd hg (by omega), ix1, g_rd hg (by omega), r1, r3, zI_sub]
  show some ((zI (dY a)).toInt64) = _
  rw [zI_long (i32_of 100 (dY_bd ha) (by omega))]
theorem hZ_bd (ha : sOk a) {x : Int} (hx : inR x) : -20000 ≤ hZ a x ∧ hZ a x ≤ 20000 := by
  have ha0 := ha
  obtain ⟨⟨⟨a1, a2⟩, ⟨a3, a4⟩, -, -⟩, -⟩ := ha
  have b1 := mul_bd (a := sY a) (b := dX a) (A := 100) (B := 100) ⟨by omega, by omega⟩ (dX_bd ha0)
  have b2 := mul_bd (a := dY a) (b := x - sX a) (A := 100) (B := 100) (dY_bd ha0) ⟨by have := hx.1; omega, by have := hx.2; omega⟩
  unfold hZ
  omega
theorem e_Lheight (hg : gOn S gA) (hr : rowG D gA i a) (hi : i < 13) (ha : sOk a) {x : Int} (hx : inR x) : f_L_height F S D gA (nI i) (zI x) = some (zL (hZ a x)) := by
  have hr0 := hr
  have ha0 := ha
  obtain ⟨r0, r1, r2, r3⟩ := hr
  obtain ⟨⟨⟨a1, a2⟩, ⟨a3, a4⟩, -, -⟩, -⟩ := ha
  unfold f_L_height
  rw [ck_ok hg.1, ix1, g_rd hg (by omega), e_Ldx hg hr0 hi ha0, cal_some, e_Ldy hg hr0 hi ha0, cal_some, ix0, g_rd hg (by omega), r0, r1, zI_sub, zI_long ⟨by omega, by omega⟩, zI_long ⟨by have := hx.1; omega, by have := hx.2; omega⟩, zL_mul, zL_mul, zL_add]
  rfl
theorem hX_bd (ha : sOk a) (hb : sOk b) {x : Int} (hx : inR x) : -2000000 ≤ hZ a x * dX b ∧ hZ a x * dX b ≤ 2000000 := mul_bd (A := 20000) (B := 100) (hZ_bd ha hx) (dX_bd hb)
theorem e_LisAbove (hg : gOn S gA) (hr : rowG D gA i a) (hi : i < 13) (ha : sOk a) (hr' : rowG D gA j b) (hj : j < 13) (hb : sOk b) {x : Int} (hx : inR x) : f_L_isAbove F S D gA (nI i) (nI j) (zI x) = some (bI (abZ a b x)) := by
  have b1 := hX_bd ha hb hx
  have b2 := hX_bd hb ha hx
  have b3 : -10000 ≤ dY a * dX b ∧ dY a * dX b ≤ 10000 := mul_bd (A := 100) (B := 100) (dY_bd ha) (dX_bd hb)
  have b4 : -10000 ≤ dY b * dX a ∧ dY b * dX a ≤ 10000 := mul_bd (A := 100) (B := 100) (dY_bd hb) (dX_bd ha)
  unfold f_L_isAbove
  rw [e_Lheight hg hr hi ha hx, cal_some, e_Ldx hg hr' hj hb, cal_some, e_Lheight hg hr' hj hb hx, cal_some, e_Ldx hg hr hi ha, cal_some, zL_mul, zL_mul, zL_sub, zL_cmp0 (i64_of 4000000 (by omega) (by omega))]
  have hc : 0 < cr b a ↔ dY b * dX a < dY a * dX b := by
    unfold cr; rw [Int.mul_comm (dX b) (dY a)]; omega
  unfold abZ
  rcases Int.lt_trichotomy (hZ a x * dX b) (hZ b x * dX a) with h | h | h
  · rw [if_neg (fun w => by have := cs_pos.mp w; omega), if_neg (fun w => by have := cs_eq.mp w; omega), decide_eq_false (by omega), decide_eq_false (by omega)]; rfl
  · rw [if_neg (fun w => by have := cs_pos.mp w; omega), if_pos (cs_eq.mpr (by omega)), e_Ldy hg hr hi ha, cal_some, cal_some, e_Ldy hg hr' hj hb, cal_some, cal_some, zL_mul, zL_mul, zL_cmp (i64_of 10000 b3 (by omega)) (i64_of 10000 b4 (by omega)), decide_eq_false (by omega), decide_eq_true h, Bool.false_or, Bool.true_and]
    by_cases w : 0 < cr b a
    · rw [if_neg (fun z => by have := cs_le.mp z; have := hc.mp w; omega), decide_eq_true w]; rfl
    · rw [if_pos (cs_le.mpr (by have := mt hc.mpr w; omega)), decide_eq_false w]; rfl
  · rw [if_pos (cs_pos.mpr (by omega)), decide_eq_true h]; rfl
theorem e_Lcov75 (hg : gOn S gA) (hr : rowG D gA i a) (hi : i < 13) (ha : sOk a) (hr' : rowG D gA j b) (hj : j < 13) (hb : sOk b) (q : Bool) : f_L_isCovering_b75 F S D gA (nI i) (nI j) (bI q) = some (bI (q && (decide (200 * sX a + sY a < 200 * eX b + eY b) && decide (200 * sX b + sY b < 200 * eX a + eY a)))) := by
  obtain ⟨r0, r1, r2, r3⟩ := hr
  obtain ⟨q0, q1, q2, q3⟩ := hr'
  obtain ⟨⟨⟨a1, a2⟩, ⟨a3, a4⟩, ⟨a5, a6⟩, a7, a8⟩, -⟩ := ha
  obtain ⟨⟨⟨b1, b2⟩, ⟨b3, b4⟩, ⟨b5, b6⟩, b7, b8⟩, -⟩ := hb
  have two : ∀ z : Int, 200 * zI z = zI (200 * z) := fun z => by show zI 200 * zI z = _; rw [zI_mul]
  unfold f_L_isCovering_b75
  rw [ck_ok hg.1, ix3 i, ix2 i, ix1 i, ix0 i, ix3 j, ix2 j, ix1 j, ix0 j, g_rd hg (by omega), g_rd hg (by omega), g_rd hg (by omega), g_rd hg (by omega), g_rd hg (by omega), g_rd hg (by omega), g_rd hg (by omega), g_rd hg (by omega), r0, r1, r2, r3, q0, q1, q2, q3, two, two, two, two, zI_add, zI_add, zI_add, zI_add]
  cases q
  · rfl
  · rw [if_neg (show ¬ bI true = 0 by decide), Bool.true_and]
    have e1 : zI (200 * eX b + eY b) ≤ zI (200 * sX a + sY a) ↔ 200 * eX b + eY b ≤ 200 * sX a + sY a := zI_le ⟨by omega, by omega⟩ ⟨by omega, by omega⟩
    have e2 : zI (200 * eX a + eY a) ≤ zI (200 * sX b + sY b) ↔ 200 * eX a + eY a ≤ 200 * sX b + sY b := zI_le ⟨by omega, by omega⟩ ⟨by omega, by omega⟩
    by_cases c1 : 200 * eX b + eY b ≤ 200 * sX a + sY a
    · rw [if_pos (e1.mpr c1), decide_eq_false (show ¬ 200 * sX a + sY a < 200 * eX b + eY b by omega)]; rfl
    · rw [if_neg (mt e1.mp c1), decide_eq_true (show 200 * sX a + sY a < 200 * eX b + eY b by omega)]
      by_cases c2 : 200 * eX a + eY a ≤ 200 * sX b + sY b
      · rw [if_pos (e2.mpr c2), decide_eq_false (show ¬ 200 * sX b + sY b < 200 * eX a + eY a by omega)]; rfl
      · rw [if_neg (mt e2.mp c2), decide_eq_true (show 200 * sX b + sY b < 200 * eX a + eY a by omega)]; rfl
theorem e_LisCovering (hg : gOn S gA) (hr : rowG D gA i a) (hi : i < 13) (ha : sOk a) (hr' : rowG D gA j b) (hj : j < 13) (hb : sOk b) : f_L_isCovering F S D gA (nI i) (nI j) = some (bI (covB a b)) := by
  have b1 : -10000 ≤ dX a * dY b ∧ dX a * dY b ≤ 10000 := mul_bd (A := 100) (B := 100) (dX_bd ha) (dY_bd hb)
  have b2 : -10000 ≤ dY a * dX b ∧ dY a * dX b ≤ 10000 := mul_bd (A := 100) (B := 100) (dY_bd ha) (dX_bd hb)
  have hr0 := hr
  have hr0' := hr'
  obtain ⟨r0, r1, r2, r3⟩ := hr
  obtain ⟨q0, q1, q2, q3⟩ := hr'
  have ha0 := ha
  have hb0 := hb
  obtain ⟨⟨⟨a1, a2⟩, ⟨a3, a4⟩, ⟨a5, a6⟩, a7, a8⟩, -⟩ := ha
  obtain ⟨⟨⟨k1, k2⟩, ⟨k3, k4⟩, ⟨k5, k6⟩, k7, k8⟩, -⟩ := hb
  have b3 : -10000 ≤ dX a * (sY b - sY a) ∧ dX a * (sY b - sY a) ≤ 10000 := mul_bd (A := 100) (B := 100) (dX_bd ha0) ⟨by omega, by omega⟩
  have b4 : -10000 ≤ dY a * (sX b - sX a) ∧ dY a * (sX b - sX a) ≤ 10000 := mul_bd (A := 100) (B := 100) (dY_bd ha0) ⟨by omega, by omega⟩
  unfold f_L_isCovering covB
  rw [e_Ldx hg hr0 hi ha0, cal_some, e_Ldy hg hr0' hj hb0, cal_some, e_Ldy hg hr0 hi ha0, cal_some, e_Ldx hg hr0' hj hb0, cal_some, zL_mul, zL_mul, zL_cmp (i64_of 10000 b1 (by omega)) (i64_of 10000 b2 (by omega))]
  by_cases c0 : cr a b = 0
  · rw [if_pos (cs_eq.mpr (by unfold cr at c0; omega)), cal_some, ck_ok hg.1, ix1 j, ix1 i, ix0 j, ix0 i, g_rd hg (by omega), g_rd hg (by omega), cal_some, g_rd hg (by omega), g_rd hg (by omega), r0, r1, q0, q1, zI_sub, zI_sub, zI_long ⟨by omega, by omega⟩, zI_long ⟨by omega, by omega⟩, zL_mul, zL_mul, zL_cmp (i64_of 10000 b3 (by omega)) (i64_of 10000 b4 (by omega)), decide_eq_true c0, Bool.true_and]
    have hct : ct a b a = 0 ↔ dX a * (sY b - sY a) = dY a * (sX b - sX a) := by
      unfold ct
      rw [Int.mul_comm (sX b - sX a), Int.mul_comm (sY b - sY a)]; omega
    by_cases c1 : ct a b a = 0
    · rw [if_pos (cs_eq.mpr (hct.mp c1)), decide_eq_true c1]
      exact e_Lcov75 hg hr0 hi ha0 hr0' hj hb0 true
    · rw [if_neg (fun w => c1 (hct.mpr (cs_eq.mp w))), decide_eq_false c1]
      exact e_Lcov75 hg hr0 hi ha0 hr0' hj hb0 false
  · rw [if_neg (fun w => c0 (by have := cs_eq.mp w; unfold cr; omega)), decide_eq_false c0]
    exact e_Lcov75 hg hr0 hi ha0 hr0' hj hb0 false
/-- a fraction in lowest terms between 0 and 100 -/
theorem e_LlowL (n0 d0 : Int) (hd0 : 0 < d0) (h1 : 0 ≤ n0) (h2 : n0 ≤ 100 * d0) (hdb : d0 ≤ 20000) : ∀ (m x y : Nat), y < m → x ≤ 4000000 → y ≤ 4000000 → Nat.gcd x y = 1 → f_L_isLowest_L4 F S D m (zI n0) (zI d0) (nI x) (nI y) = some 1 := by
  intro m
  induction m with
  | zero => intro x y h; omega
  | succ m ih =>
    intro x y hm hx hy hg
    rw [f_L_isLowest_L4]
    by_cases h0 : y = 0
    · subst h0
      have hx1 : x = 1 := by rw [Nat.gcd_zero_right] at hg; exact hg
      subst hx1
      have e100 : (100 : Int32) * zI d0 = zI (100 * d0) := by show zI 100 * zI d0 = _; rw [zI_mul]
      rw [if_pos (by decide), if_pos (show nI 1 = 1 from rfl), if_neg (fun w => by have := (zI_le0 ⟨by omega, by omega⟩).mp w; omega), if_neg (fun w => by have := (zI_lt0 ⟨by omega, by omega⟩).mp w; omega), e100, if_neg (fun w => by have := (zI_lt (a := 100 * d0) (b := n0) ⟨by omega, by omega⟩ ⟨by omega, by omega⟩).mp w; omega)]
      rfl
    · have hy0 : ¬ nI y ≤ 0 := fun w => by
        rw [nI_zI] at w
        have := (zI_le0 (a := (y : Int)) ⟨by omega, by omega⟩).mp w; omega
      have hyz : ¬ nI y = 0 := fun w => by
        rw [nI_zI] at w
        have := (zI_eq0 (a := (y : Int)) ⟨by omega, by omega⟩).mp w; omega
      rw [if_neg hy0]
      unfold dvI
      rw [if_neg hyz, pk_rem (a := x) (d := y) (by omega) (by omega) (by omega)]
      have hlt := Nat.mod_lt x (show 0 < y by omega)
      exact ih y (x % y) (by omega) hy (by omega) (by rw [Nat.gcd_comm, ← Nat.gcd_rec, Nat.gcd_comm]; exact hg)
theorem e_LisLowest (hF : 4000001 ≤ F) {r : Rat} (h1 : 0 ≤ r.num) (h2 : r.num ≤ 100 * r.den) (hb : bR r) : f_L_isLowest F S D (zI r.num) (zI r.den) = some 1 := by
  obtain ⟨⟨b1, b2⟩, b3⟩ := hb
  have hd := r.den_pos
  have hr := r.reduced
  unfold f_L_isLowest
  have e1 : zI r.num = nI r.num.natAbs := by rw [nI_zI]; congr 1; omega
  have h := e_LlowL (F := F) (S := S) (D := D) r.num r.den (by omega) h1 h2 (by omega) F r.num.natAbs r.den (by omega) (by omega) (by omega) hr
  rw [← e1, nI_zI r.den] at h
  exact h
end LEAF
