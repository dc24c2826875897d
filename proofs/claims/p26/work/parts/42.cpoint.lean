/-! ### the class's points -/
section CPT
variable {F : Nat} {S : CS} {D : CD} {a b c : Nat} {s t : Sg} {p r : Pt}
theorem k_height (hs : cSeg S D a s) (os : sOk s) (hp : cPt S D c p) : f_X4_height F S D a c = some (zL (hgt s p)) := by
  obtain ⟨⟨a1, a2, -, -⟩, -⟩ := id os
  unfold f_X4_height
  rw [ck_ok hs.1, ck_ok hp.1, hs.2.1.1, hs.2.1.2.1, hs.2.2.1, hs.2.2.2, hp.2.1, hp.2.2.1, zI_long (inR_32 a1), zI_long (inR_32 a2), zL_mul, zL_mul, zL_mul, zL_sub, zL_mul, zL_add]
  congr 2
  unfold hgt
  rw [Int.mul_comm (dY s)]
theorem k_cmpHeight (hs : cSeg S D a s) (os : sOk s) (hp : cPt S D c p) (bp : bV p) : f_X4_compareHeight F S D a c = some (zI (csgn (hgt s p * p.2.den) (p.2.num * (dX s * p.1.den)))) := by
  have m1 := mul_bd (hg_bd os bp.1) (b := (p.2.den : Int)) (B := 20000) ⟨by have := bp.2.2; omega, by have := bp.2.2; omega⟩
  have m2 := mul_bd bp.2.1 (dxd_bd os bp.1)
  unfold f_X4_compareHeight
  rw [ck_ok hs.1, k_height hs os hp, cal_some, ck_ok hp.1, hp.2.2.2.2, hp.2.2.2.1, hs.2.2.1, hp.2.2.1, zL_mul, zL_mul, zL_mul, Int.mul_assoc, j_compare ⟨by omega, by omega⟩ ⟨by omega, by omega⟩, cal_some]
theorem k_cmpHeights (hs : cSeg S D a s) (os : sOk s) (ht : cSeg S D b t) (ot : sOk t) (hp : cPt S D c p) (bp : bV p) : f_X4_compareHeights F S D a b c = some (zI (csgn (hgt s p * dX t) (hgt t p * dX s))) := by
  have m1 := mul_bd (hg_bd os bp.1) (dX_bd ot)
  have m2 := mul_bd (hg_bd ot bp.1) (dX_bd os)
  unfold f_X4_compareHeights
  rw [ck_ok hs.1, k_height hs os hp, cal_some, ck_ok ht.1, k_height ht ot hp, cal_some, ht.2.2.1, hs.2.2.1, zL_mul, zL_mul, j_compare ⟨by omega, by omega⟩ ⟨by omega, by omega⟩, cal_some]
theorem k_spans (hs : cSeg S D a s) (os : sOk s) {x : Int} (hx : i32 x) : f_X4_spans F S D a (zI x) = some (bI (crZ s x)) := by
  obtain ⟨⟨a1, a2, a3, a4⟩, -⟩ := id os
  have l1 := zI_le (inR_32 a3) (inR_32 a1)
  have l2 := zI_lt hx (inR_32 a1)
  have l3 := zI_lt (inR_32 a3) hx
  unfold f_X4_spans crZ dX
  rw [ck_ok hs.1, hs.2.1.1, hs.2.1.2.2.1]
  simp only [l1, l2, l3]
  by_cases h1 : eX s ≤ sX s
  · rw [if_pos h1, decide_eq_false (show ¬ 0 < eX s - sX s by omega)]; rfl
  · rw [if_neg h1, decide_eq_true (show 0 < eX s - sX s by omega)]
    by_cases h2 : x < sX s
    · rw [if_pos h2, decide_eq_false (show ¬ (sX s ≤ x ∧ x ≤ eX s) by omega)]; rfl
    · rw [if_neg h2]
      by_cases h3 : eX s < x
      · rw [if_pos h3, decide_eq_false (show ¬ (sX s ≤ x ∧ x ≤ eX s) by omega)]; rfl
      · rw [if_neg h3, decide_eq_true (show sX s ≤ x ∧ x ≤ eX s by omega)]; rfl
theorem k_holds (hs : cSeg S D a s) (os : sOk s) (hp : cPt S D c p) (bp : bV p) : f_X4_holds F S D a c = some (bI (onB s p)) := by
  obtain ⟨⟨a1, a2, a3, a4⟩, -⟩ := id os
  have l1 := zI_lt (inR_32 a4) (inR_32 a2)
  have l2 := zI_lt (inR_32 a2) (inR_32 a4)
  have e1 : (if zI (eY s) < zI (sY s) then zI (eY s) else zI (sY s)) = zI (if sY s < eY s then sY s else eY s) := by
    by_cases h : sY s < eY s
    · rw [if_neg (fun w => by have := l1.mp w; omega), if_pos h]
    · rw [if_neg h]
      by_cases h2 : eY s < sY s
      · rw [if_pos (l1.mpr h2)]
      · rw [if_neg (fun w => h2 (l1.mp w)), show sY s = eY s by omega]
  have e2 : (if zI (sY s) < zI (eY s) then zI (eY s) else zI (sY s)) = zI (if sY s < eY s then eY s else sY s) := by
    by_cases h : sY s < eY s
    · rw [if_pos (l2.mpr h), if_pos h]
    · rw [if_neg (fun w => h (l2.mp w)), if_neg h]
  have r1 : inR (if sY s < eY s then sY s else eY s) := by split <;> assumption
  have r2 : inR (if sY s < eY s then eY s else sY s) := by split <;> assumption
  have q1 : -20000 ≤ (p.1.den : Int) ∧ (p.1.den : Int) ≤ 20000 := ⟨by omega, by have := bp.1.2; omega⟩
  have q2 : -20000 ≤ (p.2.den : Int) ∧ (p.2.den : Int) ≤ 20000 := ⟨by omega, by have := bp.2.2; omega⟩
  have w1 : ∀ {x : Int}, inR x → ∀ {d : Int}, -20000 ≤ d ∧ d ≤ 20000 → i64 (x * d) := by
    intro x hx d hd
    have := mul_bd (a := x) (A := 100) ⟨by have := hx.1; omega, hx.2⟩ hd
    exact ⟨by omega, by omega⟩
  have n1 : i64 p.1.num := ⟨by have := bp.1.1.1; omega, by have := bp.1.1.2; omega⟩
  have n2 : i64 p.2.num := ⟨by have := bp.2.1.1; omega, by have := bp.2.1.2; omega⟩
  have c0 : ∀ {x y : Int}, i64 x → i64 y → (0 < lg_cmp (zL x) (zL y) ↔ y < x) := by
    intro x y hx hy
    rw [zL_cmp hx hy, zI_0lt (csgn_32 x y)]
    exact (csgn_s x y).2.2
  unfold f_X4_holds onB
  rw [ck_ok hs.1, ck_ok hp.1, hs.2.1.1, hs.2.1.2.1, hs.2.1.2.2.1, hs.2.1.2.2.2, hp.2.1, hp.2.2.1, hp.2.2.2.1, hp.2.2.2.2, e1, e2, zI_long (inR_32 a1), zI_long (inR_32 a3), zI_long (inR_32 r1), zI_long (inR_32 r2), zL_mul, zL_mul, zL_mul, zL_mul]
  simp only [c0 (w1 a1 q1) n1, c0 n1 (w1 a3 q1), c0 (w1 r1 q2) n2, c0 n2 (w1 r2 q2)]
  by_cases h1 : p.1.num < sX s * p.1.den
  · rw [if_pos h1, decide_eq_false (show ¬ sX s * p.1.den ≤ p.1.num by omega)]
    simp only [Bool.false_and, Bool.and_false]; rfl
  · rw [if_neg h1, decide_eq_true (show sX s * p.1.den ≤ p.1.num by omega)]
    by_cases h2 : eX s * p.1.den < p.1.num
    · rw [if_pos h2, decide_eq_false (show ¬ p.1.num ≤ eX s * p.1.den by omega)]
      simp only [Bool.false_and, Bool.and_false]; rfl
    · rw [if_neg h2, decide_eq_true (show p.1.num ≤ eX s * p.1.den by omega)]
      generalize (if sY s < eY s then sY s else eY s) = lo
      generalize (if sY s < eY s then eY s else sY s) = hi
      by_cases h3 : p.2.num < lo * p.2.den
      · rw [if_pos h3, decide_eq_false (show ¬ lo * p.2.den ≤ p.2.num by omega)]
        simp only [Bool.false_and, Bool.and_false]; rfl
      · rw [if_neg h3, decide_eq_true (show lo * p.2.den ≤ p.2.num by omega)]
        by_cases h4 : hi * p.2.den < p.2.num
        · rw [if_pos h4, decide_eq_false (show ¬ p.2.num ≤ hi * p.2.den by omega)]
          simp only [Bool.and_false]; rfl
        · rw [if_neg h4, decide_eq_true (show p.2.num ≤ hi * p.2.den by omega), k_cmpHeight hs os hp bp, cal_some]
          have e := zI_eq0 (csgn_32 (hgt s p * p.2.den) (p.2.num * (dX s * p.1.den)))
          have e3 := (csgn_s (hgt s p * p.2.den) (p.2.num * (dX s * p.1.den))).2.1
          have e4 : hgt s p * p.2.den = p.2.num * (dX s * p.1.den) ↔ dX s * (p.2.num - sY s * p.2.den) * p.1.den = dY s * (p.1.num - sX s * p.1.den) * p.2.den := by
            unfold hgt
            constructor <;> intro h <;> grind
          by_cases h5 : hgt s p * p.2.den = p.2.num * (dX s * p.1.den)
          · rw [if_pos (e.mpr (e3.mpr h5)), decide_eq_true (e4.mp h5)]; rfl
          · rw [if_neg (fun w => h5 (e3.mp (e.mp w))), decide_eq_false (fun w => h5 (e4.mpr w))]; rfl
theorem k_cmpX (hp : cPt S D a p) (hr : cPt S D b r) (bp : bV p) (br : bV r) : f_X2_compareX F S D a b = some (zI (cmpR p.1 r.1)) := by
  have m1 := mul_bd bp.1.1 (b := (r.1.den : Int)) (B := 20000) ⟨by omega, by have := br.1.2; omega⟩
  have m2 := mul_bd br.1.1 (b := (p.1.den : Int)) (B := 20000) ⟨by omega, by have := bp.1.2; omega⟩
  unfold f_X2_compareX
  rw [ck_ok hp.1, ck_ok hr.1, hp.2.1, hr.2.2.1, hr.2.1, hp.2.2.1, zL_mul, zL_mul, j_compare ⟨by omega, by omega⟩ ⟨by omega, by omega⟩, cal_some, csgn_R]
theorem k_cmpY (hp : cPt S D a p) (hr : cPt S D b r) (bp : bV p) (br : bV r) : f_X2_compareY F S D a b = some (zI (cmpR p.2 r.2)) := by
  have m1 := mul_bd bp.2.1 (b := (r.2.den : Int)) (B := 20000) ⟨by omega, by have := br.2.2; omega⟩
  have m2 := mul_bd br.2.1 (b := (p.2.den : Int)) (B := 20000) ⟨by omega, by have := bp.2.2; omega⟩
  unfold f_X2_compareY
  rw [ck_ok hp.1, ck_ok hr.1, hp.2.2.2.1, hr.2.2.2.2, hr.2.2.2.1, hp.2.2.2.2, zL_mul, zL_mul, j_compare ⟨by omega, by omega⟩ ⟨by omega, by omega⟩, cal_some, csgn_R]
theorem k_cmpOrder (hp : cPt S D a p) (hr : cPt S D b r) (bp : bV p) (br : bV r) : f_X2_compareOrder F S D a b = some (zI (cmpV p r)) := by
  unfold f_X2_compareOrder cmpV
  rw [ck_ok hp.1, k_cmpX hp hr bp br, cal_some, k_cmpY hp hr bp br, cal_some]
  have e := zI_eq0 (cmpR_32 p.1 r.1)
  by_cases h : cmpR p.1 r.1 = 0
  · rw [if_pos (e.mpr h), if_pos h]
  · rw [if_neg (fun w => h (e.mp w)), if_neg h]
theorem k_gcdS (m x y i : Nat) (hx : x < 1099511627776) (hy : y < 1099511627776) (hi : i < 100) (h0 : 0 < y) : f_X2_commonDivisor_L15 F S D (m + 1) (zL x) (zL y) (nI i) = f_X2_commonDivisor_L15 F S D m (zL y) (zL (x % y : Nat)) (nI (i + 1)) := by
  have e : lg_cmp (zL y) 0 = zI (csgn y 0) := zL_cmp0 ⟨by omega, by omega⟩
  rw [f_X2_commonDivisor_L15, if_neg (fun w => by have := (nI_leI (a := 100) (b := i) (by omega) (by omega)).mp w; omega), e, csgn_gt (a := (y : Int)) (b := 0) (by omega), if_neg (by decide)]
  unfold dvL
  rw [if_neg (fun z => by have := (zL_eq (a := y) ⟨by omega, by omega⟩ i64_0).mp z; omega), zL_rem ⟨by omega, by omega⟩ ⟨by omega, by omega⟩ (by omega), nI_1]
  rw [show ((x : Int).tmod (y : Int)) = ((x % y : Nat) : Int) from Int.ofNat_tmod x y]
theorem k_gcdL : ∀ (k : Nat) (m x y i : Nat), y ≤ x → x < 2 ^ k → k ≤ 40 → i + 2 * k ≤ 100 → 2 * k < m → f_X2_commonDivisor_L15 F S D m (zL x) (zL y) (nI i) = some (zL (Nat.gcd x y)) := by
  have stop : ∀ (m x i : Nat), f_X2_commonDivisor_L15 F S D (m + 1) (zL x) (zL (0 : Nat)) (nI i) = some (zL x) := by
    intro m x i
    have e : lg_cmp (zL ((0 : Nat) : Int)) 0 = 0 := by decide
    rw [f_X2_commonDivisor_L15, e, if_pos rfl, ite_self]
  intro k
  induction k with
  | zero =>
    intro m x y i h1 h2 _ h3 h4
    obtain ⟨m, rfl⟩ : ∃ q, m = q + 1 := ⟨m - 1, by omega⟩
    have hx : x = 0 := by omega
    have hy : y = 0 := by omega
    subst hx; subst hy
    exact stop m 0 i
  | succ k ih =>
    intro m x y i h1 h2 hk h3 h4
    obtain ⟨m, rfl⟩ : ∃ q, m = q + 2 := ⟨m - 2, by omega⟩
    have hp : 2 ^ (k + 1) ≤ 2 ^ 40 := Nat.pow_le_pow_right (by decide) hk
    have hp2 : (2 : Nat) ^ 40 = 1099511627776 := by decide
    have hp3 : (2 : Nat) ^ (k + 1) = 2 ^ k * 2 := Nat.pow_succ 2 k
    rcases Nat.eq_zero_or_pos y with z | z
    · subst z; rw [Nat.gcd_zero_right]; exact stop (m + 1) x i
    · rw [k_gcdS (m + 1) x y i (by omega) (by omega) (by omega) z]
      have hm := Nat.mod_lt x z
      have hg : Nat.gcd x y = Nat.gcd y (x % y) := by rw [Nat.gcd_comm y, ← Nat.gcd_rec, Nat.gcd_comm]
      rcases Nat.eq_zero_or_pos (x % y) with w | w
      · rw [hg, w, Nat.gcd_zero_right]; exact stop m y (i + 1)
      · rw [k_gcdS m y (x % y) (i + 1) (by omega) (by omega) (by omega) w, hg]
        have hm2 := Nat.mod_lt y w
        have hg2 : Nat.gcd y (x % y) = Nat.gcd (x % y) (y % (x % y)) := by rw [Nat.gcd_comm (x % y) (y % (x % y)), ← Nat.gcd_rec, Nat.gcd_comm]
        rw [hg2]
        refine ih m (x % y) (y % (x % y)) (i + 2) (by omega) ?_ (by omega) (by omega) (by omega)
        rcases Nat.lt_or_ge y (2 ^ k + 1) with u | u
        · omega
        · have : x % y ≤ x - y := by rw [Nat.mod_eq_sub_mod h1]; exact Nat.mod_le _ _
          omega
theorem k_gcd {x y : Int} (hF : 1000 ≤ F) (hx : -4000000 ≤ x ∧ x ≤ 4000000) (hy : -4000000 ≤ y ∧ y ≤ 4000000) : f_X2_commonDivisor F S D (zL x) (zL y) = some (zL (Nat.gcd x.natAbs y.natAbs)) := by
  have ab : ∀ {z : Int}, -4000000 ≤ z ∧ z ≤ 4000000 → (if 0 < zL z then zL z else -zL z) = zL ((z.natAbs : Nat) : Int) := by
    intro z hz
    have l := zL_lt i64_0 (b := z) ⟨by omega, by omega⟩
    rw [zL_0] at l
    by_cases h : 0 < z
    · rw [if_pos (l.mpr h), show ((z.natAbs : Nat) : Int) = z by omega]
    · rw [if_neg (fun w => h (l.mp w)), zL_neg, show ((z.natAbs : Nat) : Int) = -z by omega]
  unfold f_X2_commonDivisor
  rw [ab hx, ab hy]
  have h2 : (2 : Nat) ^ 23 = 8388608 := by decide
  rcases Nat.lt_or_ge x.natAbs y.natAbs with h | h
  · obtain ⟨F, rfl⟩ : ∃ q, F = q + 1 := ⟨F - 1, by omega⟩
    have hg : Nat.gcd x.natAbs y.natAbs = Nat.gcd y.natAbs (x.natAbs % y.natAbs) := by rw [Nat.gcd_comm y.natAbs, ← Nat.gcd_rec, Nat.gcd_comm]
    have h1 := k_gcdS (F := F + 1) (S := S) (D := D) F x.natAbs y.natAbs 0 (by omega) (by omega) (by omega) (by omega)
    rw [hg]
    exact h1.trans (k_gcdL 23 F y.natAbs (x.natAbs % y.natAbs) 1 (by have := Nat.mod_lt x.natAbs (show 0 < y.natAbs by omega); omega) (by omega) (by omega) (by omega) (by omega))
  · exact k_gcdL 23 F x.natAbs y.natAbs 0 h (by omega) (by omega) (by omega) (by omega)
/-- what writing into the point a leaves -/
def cFrP (a : Nat) (D D2 : CD) : Prop := D2.1 = D.1 ∧ D2.2.2 = D.2.2 ∧ ∀ b, b ≠ a → D2.2.1 b = D.2.1 b
theorem cFrP.trans {a : Nat} {D D2 D3 : CD} (h : cFrP a D D2) (h2 : cFrP a D2 D3) : cFrP a D D3 := ⟨h2.1.trans h.1, h2.2.1.trans h.2.1, fun b hb => (h2.2.2 b hb).trans (h.2.2 b hb)⟩
theorem cPt_fr {a b : Nat} {D D2 : CD} {p : Pt} (h : cPt S D b p) (hf : cFrP a D D2) (hb : b ≠ a) : cPt S D2 b p := by
  obtain ⟨h1, h2⟩ := h
  refine ⟨h1, ?_⟩
  rw [hf.2.2 b hb]; exact h2
theorem cSeg_fr {a b : Nat} {D D2 : CD} {s : Sg} (h : cSeg S D b s) (hf : cFrP a D D2) (hb : b ≠ a) : cSeg S D2 b s := by
  obtain ⟨h1, h2⟩ := h
  refine ⟨h1, ?_⟩
  rw [hf.2.2 b hb, hf.1]; exact h2
theorem cpG4 (a : Nat) (x1 x2 x3 x4 : Int64) : ∃ D2, D2 = cpG (cpG (cpG (cpG D a 0 x1) a 1 x2) a 2 x3) a 3 x4 ∧ cFrP a D D2 ∧ D2.2.1 a 0 = x1 ∧ D2.2.1 a 1 = x2 ∧ D2.2.1 a 2 = x3 ∧ D2.2.1 a 3 = x4 := by
  refine ⟨_, rfl, ⟨rfl, rfl, fun b hb => ?_⟩, ?_, ?_, ?_, ?_⟩
  · show va_up (va_up (va_up (va_up D.2.1 a _) a _) a _) a _ b = D.2.1 b
    rw [va_up_ne _ _ hb, va_up_ne _ _ hb, va_up_ne _ _ hb, va_up_ne _ _ hb]
  all_goals simp [cpG, va_up]
theorem zL_div2 {a b : Int} (ha : -9000000000000000000 ≤ a ∧ a ≤ 9000000000000000000) (hb : i64 b) : zL a / zL b = zL (a.tdiv b) := by
  have ha' : i64 a := ⟨by omega, by omega⟩
  rw [← Int64.toInt_inj, Int64.toInt_div_of_ne_left _ _ (by
    intro e
    have h1 := zL_toInt ha'
    rw [e] at h1
    have h2 : (Int64.minValue).toInt = -9223372036854775808 := by decide
    omega), zL_toInt ha', zL_toInt hb]
  have h1 : (a.tdiv b).natAbs = a.natAbs / b.natAbs := Int.natAbs_tdiv a b
  have h2 := Nat.div_le_self a.natAbs b.natAbs
  generalize a.natAbs / b.natAbs = q at h1 h2
  exact (zL_toInt ⟨by omega, by omega⟩).symm
theorem k_put {x y d : Int} (hF : 1000 ≤ F) (ha : a ∈ S.1 ∧ S.2.1 a = 2) (hx : -4000000 ≤ x ∧ x ≤ 4000000) (hy : -4000000 ≤ y ∧ y ≤ 4000000) (hd : d ≠ 0) (hd2 : -20000 ≤ d ∧ d ≤ 20000) :
    ∃ D2, f_X2_put F S D a (zL x) (zL y) (zL d) = some D2 ∧ cPt S D2 a (Rat.divInt x d, Rat.divInt y d) ∧ cFrP a D D2 := by
  have hk : d.natAbs ≠ 0 := by omega
  have hg : ∀ {z : Int}, 0 < Nat.gcd z.natAbs d.natAbs ∧ Nat.gcd z.natAbs d.natAbs ≤ 20000 := by
    intro z
    have h1 := Nat.gcd_pos_of_pos_right z.natAbs (show 0 < d.natAbs by omega)
    have h2 := Nat.gcd_le_right z.natAbs (show 0 < d.natAbs by omega)
    omega
  have key : ∀ {z : Int}, -4000000 ≤ z ∧ z ≤ 4000000 → zL z / zL ((if d < 0 then -1 else 1) * (Nat.gcd z.natAbs d.natAbs : Nat)) = zL (Rat.divInt z d).num ∧ zL d / zL ((if d < 0 then -1 else 1) * (Nat.gcd z.natAbs d.natAbs : Nat)) = zL (Rat.divInt z d).den := by
    intro z hz
    have gz := hg (z := z)
    rw [divInt_mk z hd]
    by_cases h : d < 0
    · simp only [h, if_true]
      obtain ⟨e1, e2, -⟩ := dv_num (a := -z) (c := d.natAbs) hk (by omega) (by omega)
      rw [Int.natAbs_neg] at e1 e2
      rw [← e1, ← e2, Int.neg_mul, Int.one_mul]
      generalize hgg : Nat.gcd z.natAbs d.natAbs = G at gz ⊢
      rw [zL_div2 ⟨by omega, by omega⟩ ⟨by omega, by omega⟩, zL_div2 ⟨by omega, by omega⟩ ⟨by omega, by omega⟩, zL_div2 ⟨by omega, by omega⟩ ⟨by omega, by omega⟩, zL_div2 ⟨by omega, by omega⟩ ⟨by omega, by omega⟩, Int.tdiv_neg, Int.neg_tdiv, Int.tdiv_neg]
      refine ⟨rfl, ?_⟩
      rw [show ((d.natAbs : Nat) : Int) = -d by omega, Int.neg_tdiv]
    · simp only [h, if_false]
      obtain ⟨e1, e2, -⟩ := dv_num (a := z) (c := d.natAbs) hk (by omega) (by omega)
      rw [← e1, ← e2, Int.one_mul, show ((d.natAbs : Nat) : Int) = d by omega]
      exact ⟨rfl, rfl⟩
  have nz : ∀ {z : Int}, ¬ lg_cmp (zL ((if d < 0 then -1 else 1) * (Nat.gcd z.natAbs d.natAbs : Nat))) 0 = 0 ∧ ¬ zL ((if d < 0 then -1 else 1) * (Nat.gcd z.natAbs d.natAbs : Nat)) = 0 := by
    intro z
    have gz := hg (z := z)
    generalize Nat.gcd z.natAbs d.natAbs = G at gz
    have h1 : -20000 ≤ (if d < 0 then -1 else 1) * (G : Int) ∧ (if d < 0 then -1 else 1) * (G : Int) ≤ 20000 ∧ (if d < 0 then -1 else 1) * (G : Int) ≠ 0 := by split <;> omega
    generalize (if d < 0 then -1 else 1) * (G : Int) = w at h1
    refine ⟨fun q => ?_, fun q => ?_⟩
    · rw [zL_cmp0 ⟨by omega, by omega⟩] at q
      exact h1.2.2 ((csgn_s w 0).2.1.mp ((zI_eq0 (csgn_32 w 0)).mp q))
    · exact h1.2.2 ((zL_eq (a := w) ⟨by omega, by omega⟩ i64_0).mp q)
  obtain ⟨kx1, kx2⟩ := key hx
  obtain ⟨ky1, ky2⟩ := key hy
  obtain ⟨nx1, nx2⟩ := nz (z := x)
  obtain ⟨ny1, ny2⟩ := nz (z := y)
  have b22 : ∃ D2, f_X2_put_b22 F S a D (zL x) (zL y) (zL d) (zL (if d < 0 then -1 else 1)) = some D2 ∧ cPt S D2 a (Rat.divInt x d, Rat.divInt y d) ∧ cFrP a D D2 := by
    unfold f_X2_put_b22
    rw [k_gcd hF hx (by omega), cal_some, k_gcd hF hy (by omega), cal_some, zL_mul, zL_mul, if_neg nx1, if_neg ny1]
    simp only [dvL, cgW, nx2, ny2, if_false, ck_ok ha, kx1, kx2, ky1, ky2]
    obtain ⟨D2, e1, e2, e3, e4, e5, e6⟩ := cpG4 (D := D) a (zL (Rat.divInt x d).num) (zL (Rat.divInt x d).den) (zL (Rat.divInt y d).num) (zL (Rat.divInt y d).den)
    exact ⟨D2, by rw [e1], ⟨ha, e3, e4, e5, e6⟩, e2⟩
  have c1 := csgn_s d 0
  have c2 := csgn_32 d 0
  unfold f_X2_put
  rw [zL_cmp0 ⟨by omega, by omega⟩, if_neg (fun w => hd (c1.2.1.mp ((zI_eq0 c2).mp w)))]
  by_cases h : d < 0
  · rw [if_neg (fun w => by have := (zI_0le c2).mp w; have := c1.1.mpr h; omega)]
    simp only [h, if_true] at b22
    exact b22
  · rw [if_pos ((zI_0le c2).mpr (by have : ¬ csgn d 0 < 0 := fun w => h (c1.1.mp w); omega))]
    simp only [h, if_false] at b22
    exact b22
end CPT
