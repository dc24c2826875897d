/-! ### the class's points -/
section CPT
variable {F : Nat} {S : CS} {D : CD} {a b c : Nat} {s t : Sg} {p r : Pt}
theorem k_height (hs : cSeg S D a s) (os : sOk s) (hp : cPt S D c p) : f_X4_height F S D a c = some (zL (hgt s p)) := by
  obtain ⟨⟨a1, a2, -, -⟩, -⟩ := id os
  unfold f_X4_height
  rw [ck_ok hs.1, ck_ok hp.1, hs.2.1.1, hs.2.1.2.1, hs.2.2.1, hs.2.2.2, hp.2.1, hp.2.2.1, zI_long (inR_32 a1), zI_long (inR_32 a2), zL_mul, zL_mul, zL_mul, zL_sub, zL_mul, zL_add]
  congr 2
  unfold hgt
  rw [Int.mul_comm (dY s)]
theorem k_cmpHeight (hs : cSeg S D a s) (os : sOk s) (hp : cPt S D c p) (bp : bV p) : f_X4_compareHeight F S D a c = some (zI (csgn (hgt s p * p.2.den) (p.2.num * (dX s * p.1.den)))) := by
  have m1 := mul_bd (hg_bd os bp.1) (b := (p.2.den : Int)) (B := 20000) ⟨by have := bp.2.2; omega, by have := bp.2.2; omega⟩
  have m2 := mul_bd bp.2.1 (dxd_bd os bp.1)
  unfold f_X4_compareHeight
  rw [ck_ok hs.1, k_height hs os hp, cal_some, ck_ok hp.1, hp.2.2.2.2, hp.2.2.2.1, hs.2.2.1, hp.2.2.1, zL_mul, zL_mul, zL_mul, Int.mul_assoc, j_compare ⟨by omega, by omega⟩ ⟨by omega, by omega⟩, cal_some]
theorem k_cmpHeights (hs : cSeg S D a s) (os : sOk s) (ht : cSeg S D b t) (ot : sOk t) (hp : cPt S D c p) (bp : bV p) : f_X4_compareHeights F S D a b c = some (zI (csgn (hgt s p * dX t) (hgt t p * dX s))) := by
  have m1 := mul_bd (hg_bd os bp.1) (dX_bd ot)
  have m2 := mul_bd (hg_bd ot bp.1) (dX_bd os)
  unfold f_X4_compareHeights
  rw [ck_ok hs.1, k_height hs os hp, cal_some, ck_ok ht.1, k_height ht ot hp, cal_some, ht.2.2.1, hs.2.2.1, zL_mul, zL_mul, j_compare ⟨by omega, by omega⟩ ⟨by omega, by omega⟩, cal_some]
theorem k_spans (hs : cSeg S D a s) (os : sOk s) {x : Int} (hx : i32 x) : f_X4_spans F S D a (zI x) = some (bI (crZ s x)) := by
  obtain ⟨⟨a1, a2, a3, a4⟩, -⟩ := id os
  have l1 := zI_le (inR_32 a3) (inR_32 a1)
  have l2 := zI_lt hx (inR_32 a1)
  have l3 := zI_lt (inR_32 a3) hx
  unfold f_X4_spans crZ dX
  rw [ck_ok hs.1, hs.2.1.1, hs.2.1.2.2.1]
  simp only [l1, l2, l3]
  by_cases h1 : eX s ≤ sX s
  · rw [if_pos h1, decide_eq_false (show ¬ 0 < eX s - sX s by omega)]; rfl
  · rw [if_neg h1, decide_eq_true (show 0 < eX s - sX s by omega)]
    by_cases h2 : x < sX s
    · rw [if_pos h2, decide_eq_false (show ¬ (sX s ≤ x ∧ x ≤ eX s) by omega)]; rfl
    · rw [if_neg h2]
      by_cases h3 : eX s < x
      · rw [if_pos h3, decide_eq_false (show ¬ (sX s ≤ x ∧ x ≤ eX s) by omega)]; rfl
      · rw [if_neg h3, decide_eq_true (show sX s ≤ x ∧ x ≤ eX s by omega)]; rfl
theorem k_holds (hs : cSeg S D a s) (os : sOk s) (hp : cPt S D c p) (bp : bV p) : f_X4_holds F S D a c = some (bI (onB s p)) := by
  obtain ⟨⟨a1, a2, a3, a4⟩, -⟩ := id os
  have l1 := zI_lt (inR_32 a4) (inR_32 a2)
  have l2 := zI_lt (inR_32 a2) (inR_32 a4)
  have e1 : (if zI (eY s) < zI (sY s) then zI (eY s) else zI (sY s)) = zI (if sY s < eY s then sY s else eY s) := by
    by_cases h : sY s < eY s
    · rw [if_neg (fun w => by have := l1.mp w; omega), if_pos h]
    · rw [if_neg h]
      by_cases h2 : eY s < sY s
      · rw [if_pos (l1.mpr h2)]
      · rw [if_neg (fun w => h2 (l1.mp w)), show sY s = eY s by omega]
  have e2 : (if zI (sY s) < zI (eY s) then zI (eY s) else zI (sY s)) = zI (if sY s < eY s then eY s else sY s) := by
    by_cases h : sY s < eY s
    · rw [if_pos (l2.mpr h), if_pos h]
    · rw [if_neg (fun w => h (l2.mp w)), if_neg h]
  have r1 : inR (if sY s < eY s then sY s else eY s) := by split <;> assumption
  have r2 : inR (if sY s < eY s then eY s else sY s) := by split <;> assumption
  have q1 : -20000 ≤ (p.1.den : Int) ∧ (p.1.den : Int) ≤ 20000 := ⟨by omega, by have := bp.1.2; omega⟩
  have q2 : -20000 ≤ (p.2.den : Int) ∧ (p.2.den : Int) ≤ 20000 := ⟨by omega, by have := bp.2.2; omega⟩
  have w1 : ∀ {x : Int}, inR x → ∀ {d : Int}, -20000 ≤ d ∧ d ≤ 20000 → i64 (x * d) := by
    intro x hx d hd
    have := mul_bd (a := x) (A := 100) ⟨by have := hx.1; omega, hx.2⟩ hd
    exact ⟨by omega, by omega⟩
  have n1 : i64 p.1.num := ⟨by have := bp.1.1.1; omega, by have := bp.1.1.2; omega⟩
  have n2 : i64 p.2.num := ⟨by have := bp.2.1.1; omega, by have := bp.2.1.2; omega⟩
  have c0 : ∀ {x y : Int}, i64 x → i64 y → (0 < lg_cmp (zL x) (zL y) ↔ y < x) := by
    intro x y hx hy
    rw [zL_cmp hx hy, zI_0lt (csgn_32 x y)]
    exact (csgn_s x y).2.2
  unfold f_X4_holds onB
  rw [ck_ok hs.1, ck_ok hp.1, hs.2.1.1, hs.2.1.2.1, hs.2.1.2.2.1, hs.2.1.2.2.2, hp.2.1, hp.2.2.1, hp.2.2.2.1, hp.2.2.2.2, e1, e2, zI_long (inR_32 a1), zI_long (inR_32 a3), zI_long (inR_32 r1), zI_long (inR_32 r2), zL_mul, zL_mul, zL_mul, zL_mul]
  simp only [c0 (w1 a1 q1) n1, c0 n1 (w1 a3 q1), c0 (w1 r1 q2) n2, c0 n2 (w1 r2 q2)]
  by_cases h1 : p.1.num < sX s * p.1.den
  · rw [if_pos h1, decide_eq_false (show ¬ sX s * p.1.den ≤ p.1.num by omega)]
    simp only [Bool.false_and, Bool.and_false]; rfl
  · rw [if_neg h1, decide_eq_true (show sX s * p.1.den ≤ p.1.num by omega)]
    by_cases h2 : eX s * p.1.den < p.1.num
    · rw [if_pos h2, decide_eq_false (show ¬ p.1.num ≤ eX s * p.1.den by omega)]
      simp only [Bool.false_and, Bool.and_false]; rfl
    · rw [if_neg h2, decide_eq_true (show p.1.num ≤ eX s * p.1.den by omega)]
      generalize (if sY s < eY s then sY s else eY s) = lo
      generalize (if sY s < eY s then eY s else sY s) = hi
      by_cases h3 : p.2.num < lo * p.2.den
      · rw [if_pos h3, decide_eq_false (show ¬ lo * p.2.den ≤ p.2.num by omega)]
        simp only [Bool.false_and, Bool.and_false]; rfl
      · rw [if_neg h3, decide_eq_true (show lo * p.2.den ≤ p.2.num by omega)]
        by_cases h4 : hi * p.2.den < p.2.num
        · rw [if_pos h4, decide_eq_false (show ¬ p.2.num ≤ hi * p.2.den by omega)]
          simp only [Bool.and_false]; rfl
        · rw [if_neg h4, decide_eq_true (show p.2.num ≤ hi * p.2.den by omega), k_cmpHeight hs os hp bp, cal_some]
          have e := zI_eq0 (csgn_32 (hgt s p * p.2.den) (p.2.num * (dX s * p.1.den)))
          have e3 := (csgn_s (hgt s p * p.2.den) (p.2.num * (dX s * p.1.den))).2.1
          have e4 : hgt s p * p.2.den = p.2.num * (dX s * p.1.den) ↔ dX s * (p.2.num - sY s * p.2.den) * p.1.den = dY s * (p.1.num - sX s * p.1.den) * p.2.den := by
            unfold hgt
            constructor <;> intro h <;> grind
          by_cases h5 : hgt s p * p.2.den = p.2.num * (dX s * p.1.den)
          · rw [if_pos (e.mpr (e3.mpr h5)), decide_eq_true (e4.mp h5)]; rfl
          · rw [if_neg (fun w => h5 (e3.mp (e.mp w))), decide_eq_false (fun w => h5 (e4.mpr w))]; rfl
theorem k_cmpX (hp : cPt S D a p) (hr : cPt S D b r) (bp : bV p) (br : bV r) : f_X2_compareX F S D a b = some (zI (cmpR p.1 r.1)) := by
  have m1 := mul_bd bp.1.1 (b := (r.1.den : Int)) (B := 20000) ⟨by omega, by have := br.1.2; omega⟩
  have m2 := mul_bd br.1.1 (b := (p.1.den : Int)) (B := 20000) ⟨by omega, by have := bp.1.2; omega⟩
  unfold f_X2_compareX
  rw [ck_ok hp.1, ck_ok hr.1, hp.2.1, hr.2.2.1, hr.2.1, hp.2.2.1, zL_mul, zL_mul, j_compare ⟨by omega, by omega⟩ ⟨by omega, by omega⟩, cal_some, csgn_R]
theorem k_cmpY (hp : cPt S D a p) (hr : cPt S D b r) (bp : bV p) (br : bV r) : f_X2_compareY F S D a b = some (zI (cmpR p.2 r.2)) := by
  have m1 := mul_bd bp.2.1 (b := (r.2.den : Int)) (B := 20000) ⟨by omega, by have := br.2.2; omega⟩
  have m2 := mul_bd br.2.1 (b := (p.2.den : Int)) (B := 20000) ⟨by omega, by have := bp.2.2; omega⟩
  unfold f_X2_compareY
  rw [ck_ok hp.1, ck_ok hr.1, hp.2.2.2.1, hr.2.2.2.2, hr.2.2.2.1, hp.2.2.2.2, zL_mul, zL_mul, j_compare ⟨by omega, by omega⟩ ⟨by omega, by omega⟩, cal_some, csgn_R]
theorem k_cmpOrder (hp : cPt S D a p) (hr : cPt S D b r) (bp : bV p) (br : bV r) : f_X2_compareOrder F S D a b = some (zI (cmpV p r)) := by
  unfold f_X2_compareOrder cmpV
  rw [ck_ok hp.1, k_cmpX hp hr bp br, cal_some, k_cmpY hp hr bp br, cal_some]
  have e := zI_eq0 (cmpR_32 p.1 r.1)
  by_cases h : cmpR p.1 r.1 = 0
  · rw [if_pos (e.mpr h), if_pos h]
  · rw [if_neg (fun w => h (e.mp w)), if_neg h]
theorem k_gcdL : ∀ (k : Nat) (m x y i : Nat), y ≤ x → x < 2 ^ k → k ≤ 40 → i + 2 * k ≤ 100 → 2 * k < m → f_X2_commonDivisor_L15 F S D m (zL x) (zL y) (nI i) = some (zL (Nat.gcd x y)) := by
  have step : ∀ (m x y i : Nat), x < 1099511627776 → y < 1099511627776 → i < 100 → 0 < y → f_X2_commonDivisor_L15 F S D (m + 1) (zL x) (zL y) (nI i) = f_X2_commonDivisor_L15 F S D m (zL y) (zL (x % y : Nat)) (nI (i + 1)) := by
    intro m x y i hx hy hi h0
    have e : lg_cmp (zL y) 0 = zI (csgn y 0) := zL_cmp0 ⟨by omega, by omega⟩
    rw [f_X2_commonDivisor_L15, if_neg (fun w => by have := (nI_leI (a := 100) (b := i) (by omega) (by omega)).mp w; omega), e, csgn_gt (a := (y : Int)) (b := 0) (by omega), if_neg (by decide)]
    unfold dvL
    rw [if_neg (fun z => by have := (zL_eq (a := y) ⟨by omega, by omega⟩ i64_0).mp z; omega), zL_rem ⟨by omega, by omega⟩ ⟨by omega, by omega⟩ (by omega), nI_1]
    rw [show ((x : Int).tmod (y : Int)) = ((x % y : Nat) : Int) from Int.ofNat_tmod x y]
  have stop : ∀ (m x i : Nat), f_X2_commonDivisor_L15 F S D (m + 1) (zL x) (zL (0 : Nat)) (nI i) = some (zL x) := by
    intro m x i
    have e : lg_cmp (zL ((0 : Nat) : Int)) 0 = 0 := by decide
    rw [f_X2_commonDivisor_L15, e, if_pos rfl, ite_self]
  intro k
  induction k with
  | zero =>
    intro m x y i h1 h2 _ h3 h4
    obtain ⟨m, rfl⟩ : ∃ q, m = q + 1 := ⟨m - 1, by omega⟩
    have hx : x = 0 := by omega
    have hy : y = 0 := by omega
    subst hx; subst hy
    exact stop m 0 i
  | succ k ih =>
    intro m x y i h1 h2 hk h3 h4
    obtain ⟨m, rfl⟩ : ∃ q, m = q + 2 := ⟨m - 2, by omega⟩
    have hp : 2 ^ (k + 1) ≤ 2 ^ 40 := Nat.pow_le_pow_right (by decide) hk
    have hp2 : (2 : Nat) ^ 40 = 1099511627776 := by decide
    have hp3 : (2 : Nat) ^ (k + 1) = 2 ^ k * 2 := Nat.pow_succ 2 k
    rcases Nat.eq_zero_or_pos y with z | z
    · subst z; rw [Nat.gcd_zero_right]; exact stop (m + 1) x i
    · rw [step (m + 1) x y i (by omega) (by omega) (by omega) z]
      have hm := Nat.mod_lt x z
      have hg : Nat.gcd x y = Nat.gcd y (x % y) := by rw [Nat.gcd_comm y, ← Nat.gcd_rec, Nat.gcd_comm]
      rcases Nat.eq_zero_or_pos (x % y) with w | w
      · rw [hg, w, Nat.gcd_zero_right]; exact stop m y (i + 1)
      · rw [step m y (x % y) (i + 1) (by omega) (by omega) (by omega) w, hg]
        have hm2 := Nat.mod_lt y w
        have hg2 : Nat.gcd y (x % y) = Nat.gcd (x % y) (y % (x % y)) := by rw [Nat.gcd_comm (x % y) (y % (x % y)), ← Nat.gcd_rec, Nat.gcd_comm]
        rw [hg2]
        refine ih m (x % y) (y % (x % y)) (i + 2) (by omega) ?_ (by omega) (by omega) (by omega)
        rcases Nat.lt_or_ge y (2 ^ k + 1) with u | u
        · omega
        · have : x % y ≤ x - y := by rw [Nat.mod_eq_sub_mod h1]; exact Nat.mod_le _ _
          omega
end CPT
