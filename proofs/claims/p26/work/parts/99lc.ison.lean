/-! What the law's isOn and isEnd come to. -/
section ISON
variable {F : Nat} {S : CS} {D : CD} {A sg w : Nat → Nat} {n : Nat} {g : Nat → Sg} {root rd : Nat → Nat} {c : Nat} {lo ou : Nat → Nat} {gA mA : Nat}
theorem vx_bV (P : cPic S D A sg w n g root rd c lo ou) {v : Nat} (hv : v < (vI g n).1) : bV ((vI g n).2 v) := (vI_good P.2.2.2.2.2.2.2.2.1.1 n (Nat.le_refl _)).2 v hv
theorem e_Lon66 (hg : gOn S gA) {i : Nat} {a : Sg} (hr : rowG D gA i a) (hi : i < 13) (ha : sOk a) {p : Pt} (hp : bV p) : f_L_isOn_b66 F S D gA (nI i) (zL p.1.num) (zL p.1.den) (zL p.2.num) (zL p.2.den) (zI (if sY a < eY a then sY a else eY a)) = some (bI (onB a p)) := by
  have hr0 := hr
  have ha0 := ha
  obtain ⟨r0, r1, r2, r3⟩ := hr
  obtain ⟨⟨⟨a1, a2⟩, ⟨a3, a4⟩, ⟨a5, a6⟩, a7, a8⟩, -⟩ := ha
  obtain ⟨⟨⟨p1, p2⟩, p3⟩, ⟨p4, p5⟩, p6⟩ := hp
  have d1 : (0 : Int) ≤ (p.1.den : Int) := Int.natCast_nonneg _
  have d2 : (0 : Int) ≤ (p.2.den : Int) := Int.natCast_nonneg _
  have m1 : -2000000 ≤ sX a * (p.1.den : Int) ∧ sX a * (p.1.den : Int) ≤ 2000000 := mul_bd (A := 100) (B := 20000) ⟨by omega, by omega⟩ ⟨by omega, by omega⟩
  have m2 : -2000000 ≤ eX a * (p.1.den : Int) ∧ eX a * (p.1.den : Int) ≤ 2000000 := mul_bd (A := 100) (B := 20000) ⟨by omega, by omega⟩ ⟨by omega, by omega⟩
  have m3 : -2000000 ≤ sY a * (p.2.den : Int) ∧ sY a * (p.2.den : Int) ≤ 2000000 := mul_bd (A := 100) (B := 20000) ⟨by omega, by omega⟩ ⟨by omega, by omega⟩
  have m4 : -2000000 ≤ (if sY a < eY a then sY a else eY a) * (p.2.den : Int) ∧ (if sY a < eY a then sY a else eY a) * (p.2.den : Int) ≤ 2000000 := mul_bd (A := 100) (B := 20000) ⟨by split <;> omega, by split <;> omega⟩ ⟨by omega, by omega⟩
  have m5 : -2000000 ≤ (if sY a < eY a then eY a else sY a) * (p.2.den : Int) ∧ (if sY a < eY a then eY a else sY a) * (p.2.den : Int) ≤ 2000000 := mul_bd (A := 100) (B := 20000) ⟨by split <;> omega, by split <;> omega⟩ ⟨by omega, by omega⟩
  have l1 := mul_bd (a := dX a) (b := p.2.num - sY a * (p.2.den : Int)) (A := 100) (B := 6000000) (dX_bd ha0) ⟨by omega, by omega⟩
  have l2 := mul_bd (a := dX a * (p.2.num - sY a * (p.2.den : Int))) (b := (p.1.den : Int)) (A := 600000000) (B := 20000) ⟨by omega, by omega⟩ ⟨by omega, by omega⟩
  have l3 := mul_bd (a := dY a) (b := p.1.num - sX a * (p.1.den : Int)) (A := 100) (B := 6000000) (dY_bd ha0) ⟨by omega, by omega⟩
  have l4 := mul_bd (a := dY a * (p.1.num - sX a * (p.1.den : Int))) (b := (p.2.den : Int)) (A := 600000000) (B := 20000) ⟨by omega, by omega⟩ ⟨by omega, by omega⟩
  have hi2 : zI (sY a) + zI (eY a) - zI (if sY a < eY a then sY a else eY a) = zI (if sY a < eY a then eY a else sY a) := by
    rw [zI_add, zI_sub]; congr 1; split <;> omega
  have i1 : i32 (if sY a < eY a then sY a else eY a) := by split <;> exact ⟨by omega, by omega⟩
  have i2 : i32 (if sY a < eY a then eY a else sY a) := by split <;> exact ⟨by omega, by omega⟩
  unfold f_L_isOn_b66 onB
  rw [ck_ok hg.1, ix1, ix3, ix2, ix0, g_rd hg (by omega), g_rd hg (by omega), e_Ldx hg hr0 hi ha0, cal_some, g_rd hg (by omega), e_Ldy hg hr0 hi ha0, cal_some, g_rd hg (by omega), r0, r1, r3, hi2, zI_long ⟨by omega, by omega⟩, zI_long ⟨by omega, by omega⟩, zL_mul, zL_mul, zL_sub, zL_sub, zL_mul, zL_mul, zL_mul, zL_mul, zL_cmp (i64_of 12000000000000 (by omega) (by omega)) (i64_of 12000000000000 (by omega) (by omega))]
  by_cases c0 : dX a * (p.2.num - sY a * (p.2.den : Int)) * (p.1.den : Int) = dY a * (p.1.num - sX a * (p.1.den : Int)) * (p.2.den : Int)
  · rw [if_pos (cs_eq.mpr c0), decide_eq_true c0, Bool.true_and, g_rd hg (by omega), r0, zI_long ⟨by omega, by omega⟩, zL_mul, zL_cmp (i64_of 4000000 (by omega) (by omega)) (i64_of 4000000 (by omega) (by omega))]
    by_cases c1 : sX a * (p.1.den : Int) ≤ p.1.num
    · rw [if_neg (fun w => by have := cs_lt.mp w; omega), decide_eq_true c1, Bool.true_and, g_rd hg (by omega), r2, zI_long ⟨by omega, by omega⟩, zL_mul, zL_cmp (i64_of 4000000 (by omega) (by omega)) (i64_of 4000000 (by omega) (by omega))]
      by_cases c2 : p.1.num ≤ eX a * (p.1.den : Int)
      · rw [if_neg (fun w => by have := cs_pos.mp w; omega), decide_eq_true c2, Bool.true_and, zI_long i1, zL_mul, zL_cmp (i64_of 4000000 (by omega) (by omega)) (i64_of 4000000 (by omega) (by omega))]
        by_cases c3 : (if sY a < eY a then sY a else eY a) * (p.2.den : Int) ≤ p.2.num
        · rw [if_neg (fun w => by have := cs_lt.mp w; omega), decide_eq_true c3, Bool.true_and, zI_long i2, zL_mul, zL_cmp (i64_of 4000000 (by omega) (by omega)) (i64_of 4000000 (by omega) (by omega))]
          by_cases c4 : p.2.num ≤ (if sY a < eY a then eY a else sY a) * (p.2.den : Int)
          · rw [if_neg (fun w => by have := cs_pos.mp w; omega), decide_eq_true c4]; rfl
          · rw [if_pos (cs_pos.mpr (by omega)), decide_eq_false c4]; rfl
        · rw [if_pos (cs_lt.mpr (by omega)), decide_eq_false c3]; rfl
      · rw [if_pos (cs_pos.mpr (by omega)), decide_eq_false c2]; rfl
    · rw [if_pos (cs_lt.mpr (by omega)), decide_eq_false c1]; rfl
  · rw [if_neg (fun w => c0 (cs_eq.mp w)), decide_eq_false c0]; rfl
theorem e_LisOn (P : cPic S D A sg w n g root rd c lo ou) (hg : gOn S gA) {i v : Nat} {a : Sg} (hr : rowG D gA i a) (hi : i < 13) (ha : sOk a) (hv : v < (vI g n).1) : f_L_isOn F S D (A 0) gA (nI i) (nI v) = some (bI (onB a ((vI g n).2 v))) := by
  have hr0 := hr
  have ha0 := ha
  obtain ⟨r0, r1, r2, r3⟩ := hr
  obtain ⟨⟨⟨a1, a2⟩, ⟨a3, a4⟩, ⟨a5, a6⟩, a7, a8⟩, -⟩ := ha
  have hb := vx_bV P hv
  obtain ⟨k1, k2, k3, k4⟩ := k_coord (F := F) P hv
  have h66 := e_Lon66 (F := F) hg hr0 hi ha0 hb
  obtain ⟨⟨⟨p1, p2⟩, p3⟩, ⟨p4, p5⟩, p6⟩ := hb
  have e1 : zI (eY a) ≤ zI (sY a) ↔ eY a ≤ sY a := zI_le ⟨by omega, by omega⟩ ⟨by omega, by omega⟩
  unfold f_L_isOn
  rw [ly_k P.1 0 (by decide) (by decide), k1, cal_some, k2, cal_some, k3, cal_some, k4, cal_some, ck_ok hg.1, ix1, ix3, g_rd hg (by omega), g_rd hg (by omega), r1, r3, zI_long ⟨by omega, by omega⟩, zI_long ⟨by omega, by omega⟩, zI_long ⟨by omega, by omega⟩, zI_long ⟨by omega, by omega⟩]
  by_cases z : sY a < eY a
  · rw [if_neg (fun w => by have := e1.mp w; omega), g_rd hg (by omega), r1]
    rw [if_pos z] at h66; exact h66
  · rw [if_pos (e1.mpr (by omega)), g_rd hg (by omega), r3]
    rw [if_neg z] at h66; exact h66
theorem int_num (x : Int) : ((x : Rat)).num = x ∧ ((x : Rat)).den = 1 := ⟨Rat.num_intCast x, Rat.den_intCast x⟩
theorem e_LisEnd (P : cPic S D A sg w n g root rd c lo ou) {v : Nat} (hv : v < (vI g n).1) {x y : Int} (h : (vI g n).2 v = ((x : Rat), (y : Rat))) : f_L_isEnd F S D (A 0) (nI v) (zI x) (zI y) = some 1 := by
  obtain ⟨k1, k2, k3, k4⟩ := k_coord (F := F) P hv
  rw [h] at k1 k2 k3 k4
  have e1 : (((x : Rat), (y : Rat)) : Pt).1.num = x := (int_num x).1
  have e2 : (((x : Rat), (y : Rat)) : Pt).1.den = 1 := (int_num x).2
  have e3 : (((x : Rat), (y : Rat)) : Pt).2.num = y := (int_num y).1
  have e4 : (((x : Rat), (y : Rat)) : Pt).2.den = 1 := (int_num y).2
  rw [e1] at k1; rw [e2] at k2; rw [e3] at k3; rw [e4] at k4
  unfold f_L_isEnd
  rw [ly_k P.1 0 (by decide) (by decide), k1, cal_some, if_pos rfl, k2, cal_some, if_pos (by decide), k3, cal_some, if_pos rfl, k4, cal_some, if_pos (by decide)]
  rfl
end ISON
