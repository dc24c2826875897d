/-! What the law's isAt comes to. -/
theorem oI_lt0 (o : Option Nat) (h : ∀ k, o = some k → k < 2000000000) : oI o < 0 ↔ o = none := by
  cases o with
  | none => exact ⟨fun _ => rfl, fun _ => by decide⟩
  | some k => exact ⟨fun w => absurd w (nI_pos (by have := h k rfl; omega)), fun w => by cases w⟩
theorem oI_is {o : Option Nat} (h : ∀ k, o = some k → k < 2000000000) {j : Nat} (hj : j < 2000000000) : nI j = oI o ↔ o = some j := by
  cases o with
  | none =>
    refine ⟨fun w => ?_, fun w => by cases w⟩
    have w : nI j = -1 := w
    exact absurd (show nI j < 0 by rw [w]; decide) (nI_pos (by omega))
  | some k => exact ⟨fun w => by rw [(nI_eq (by omega) (by have := h k rfl; omega)).mp w], fun w => by cases w; rfl⟩
section HER
theorem line_hZ (s : Sg) (x y : Int) : dX s * (y - sY s) - dY s * (x - sX s) = y * dX s - hZ s x := by
  unfold hZ
  rw [Int.mul_sub, Int.mul_comm (dX s) y, Int.mul_comm (dX s) (sY s)]; omega
theorem here_v {s : Sg} (hs : sOk s) (h : dX s = 0) (x y : Int) : onB s (ptI x y) = (decide (sX s = x) && (decide (sY s ≤ y) && decide (y ≤ eY s))) := by
  rw [onB_Z hs, Bool.eq_iff_iff]
  unfold onZ ltP
  have hl := line_hZ s x y
  have hdy : 0 < dY s := by
    rcases dirZ hs with w | w
    · omega
    · exact w.2
  have e : eX s = sX s := by unfold dX at h; omega
  rw [Bool.and_eq_true, Bool.and_eq_true, Bool.and_eq_true, Bool.and_eq_true, Bool.not_eq_true', Bool.not_eq_true', decide_eq_true_eq, decide_eq_true_eq, decide_eq_true_eq, decide_eq_true_eq, decide_eq_false_iff_not, decide_eq_false_iff_not]
  rw [h, Int.zero_mul, e]
  constructor
  · rintro ⟨⟨h1, h2⟩, h3⟩
    have : dY s * (x - sX s) = 0 := by omega
    rcases Int.mul_eq_zero.mp this with w | w
    · omega
    · exact ⟨by omega, by omega, by omega⟩
  · rintro ⟨h1, h2, h3⟩
    subst h1
    rw [Int.sub_self, Int.mul_zero]
    exact ⟨⟨by omega, by omega⟩, by omega⟩
theorem here_h {s : Sg} (hs : sOk s) (h : 0 < dX s) (x y : Int) : onB s (ptI x y) = (decide (sX s ≤ x) && (decide (x ≤ eX s) && decide (hZ s x = y * dX s))) := by
  rw [onB_Z hs, Bool.eq_iff_iff]
  unfold onZ ltP
  have hl := line_hZ s x y
  rw [Bool.and_eq_true, Bool.and_eq_true, Bool.and_eq_true, Bool.and_eq_true, Bool.not_eq_true', Bool.not_eq_true', decide_eq_true_eq, decide_eq_true_eq, decide_eq_true_eq, decide_eq_true_eq, decide_eq_false_iff_not, decide_eq_false_iff_not, hl]
  have at0 : x = sX s → hZ s x = sY s * dX s := fun w => by unfold hZ; rw [w, Int.sub_self, Int.mul_zero, Int.add_zero]
  have at1 : x = eX s → hZ s x = eY s * dX s := fun w => by
    unfold hZ
    rw [w]
    show sY s * dX s + dY s * dX s = _
    rw [← Int.add_mul]; congr 1; unfold dY; omega
  constructor
  · rintro ⟨⟨h1, h2⟩, h3⟩
    exact ⟨by omega, by omega, by omega⟩
  · rintro ⟨h1, h2, h3⟩
    refine ⟨⟨by omega, fun w => ?_⟩, fun w => ?_⟩
    · rcases w with w | ⟨w1, w2⟩
      · omega
      · have e1 := at0 w1
        have := Int.mul_lt_mul_of_pos_right w2 h
        omega
    · rcases w with w | ⟨w1, w2⟩
      · omega
      · have e1 := at1 w1.symm
        have := Int.mul_lt_mul_of_pos_right w2 h
        omega
end HER
section ISAT
variable {F : Nat} {S : CS} {D : CD} {A sg w : Nat → Nat} {n : Nat} {g : Nat → Sg} {root rd : Nat → Nat} {c : Nat} {lo ou : Nat → Nat} {gA mA : Nat}
theorem e_at132 (k : CD → Nat → Nat → Nat → Int32 → Int32 → Int32 → Int32 → Int32 → Int32 → Int32 → Option (CD × Int32)) (a0 : Nat) (x3 x4 x5 x7 x8 x9 : Int32) (t h : Bool) : f_L_isAt_b132 F S k D a0 gA mA x3 x4 x5 (bI t) x7 x8 x9 (bI h) = f_L_isAt_b149 F S k D a0 gA mA x3 x4 x5 x7 x8 x9 (bI (t || h)) := by
  unfold f_L_isAt_b132
  cases t <;> cases h <;> rfl
theorem e_at149 (hg : gOn S gA) {i : Nat} {a : Sg} (hr : rowG D gA i a) (hi : i < 13) (ha : sOk a) (k : CD → Nat → Nat → Nat → Int32 → Int32 → Int32 → Int32 → Int32 → Int32 → Int32 → Option (CD × Int32)) (a0 : Nat) {x : Int} (hx : inR x) (x4 x5 x7 x8 : Int32) (s0 : Int32) : f_L_isAt_b149 F S k D a0 gA mA (zI x) x4 x5 x7 x8 (nI i) s0 = f_L_isAt_b189 F S k D a0 gA mA (zI x) x4 x5 s0 x7 x8 (nI i) (bI (goZ a x)) := by
  have hr0 := hr
  have ha0 := ha
  obtain ⟨r0, r1, r2, r3⟩ := hr
  obtain ⟨⟨⟨a1, a2⟩, ⟨a3, a4⟩, ⟨a5, a6⟩, a7, a8⟩, -⟩ := ha
  have hdb := dX_bd ha0
  obtain ⟨x1, x2⟩ := hx
  unfold f_L_isAt_b149 goZ
  rw [e_Ldx hg hr0 hi ha0, cal_some, zL_cmp0 (i64_of 100 hdb (by omega))]
  by_cases c0 : 0 < dX a
  · rw [if_neg (fun w => by have := cs_le.mp w; omega), decide_eq_true c0, ck_ok hg.1, ix2, ix0, g_rd hg (by omega), r0]
    by_cases c1 : sX a ≤ x
    · rw [if_neg (fun w => by have := (zI_lt (a := x) (b := sX a) ⟨by omega, by omega⟩ ⟨by omega, by omega⟩).mp w; omega), decide_eq_true c1, g_rd hg (by omega), r2]
      by_cases c2 : x < eX a
      · rw [if_neg (fun w => by have := (zI_le (a := eX a) (b := x) ⟨by omega, by omega⟩ ⟨by omega, by omega⟩).mp w; omega), decide_eq_true c2]; rfl
      · rw [if_pos ((zI_le (a := eX a) (b := x) ⟨by omega, by omega⟩ ⟨by omega, by omega⟩).mpr (by omega)), decide_eq_false c2]; rfl
    · rw [if_pos ((zI_lt (a := x) (b := sX a) ⟨by omega, by omega⟩ ⟨by omega, by omega⟩).mpr (by omega)), decide_eq_false c1]; rfl
  · rw [if_pos (cs_le.mpr (by omega)), decide_eq_false c0]; rfl
theorem e_at189 (hg : gOn S gA) {i : Nat} {a : Sg} (hr : rowG D gA i a) (hi : i < 13) (ha : sOk a) (k : CD → Nat → Nat → Nat → Int32 → Int32 → Int32 → Int32 → Int32 → Int32 → Int32 → Option (CD × Int32)) (a0 : Nat) {x y : Int} (hx : inR x) (hy : inR y) (x5 x6 x7 x8 : Int32) (q : Bool) : f_L_isAt_b189 F S k D a0 gA mA (zI x) (zI y) x5 x6 x7 x8 (nI i) (bI q) = f_L_isAt_b222 F S k D a0 gA mA (zI x) (zI y) x5 x6 x7 x8 (nI i) (bI q) (bI (q && lwZ a x y)) := by
  have b1 := hZ_bd ha hx
  have hdb := dX_bd ha
  obtain ⟨y1, y2⟩ := hy
  have b2 : -10000 ≤ y * dX a ∧ y * dX a ≤ 10000 := mul_bd (A := 100) (B := 100) ⟨by omega, by omega⟩ hdb
  unfold f_L_isAt_b189
  cases q
  · rw [if_pos (show bI false = 0 from rfl)]; rfl
  · rw [if_neg (show ¬ bI true = 0 by decide), e_Lheight hg hr hi ha hx, cal_some, e_Ldx hg hr hi ha, cal_some, zI_long ⟨by omega, by omega⟩, zL_mul, zL_cmp (i64_of 20000 b1 (by omega)) (i64_of 10000 b2 (by omega)), Bool.true_and]
    unfold lwZ
    by_cases c0 : hZ a x < y * dX a
    · rw [if_neg (fun w => by have := cs_ge.mp w; omega), decide_eq_true c0]; rfl
    · rw [if_pos (cs_ge.mpr (by omega)), decide_eq_false c0]; rfl
theorem e_at222 (hg : gOn S gA) (hr : ∀ i, i < n → rowG D gA i (g i)) (hok : ∀ i, i < n → sOk (g i)) (hn : n ≤ 12) {i : Nat} (hi : i < n) (k : CD → Nat → Nat → Nat → Int32 → Int32 → Int32 → Int32 → Int32 → Int32 → Int32 → Option (CD × Int32)) (a0 : Nat) {x y : Int} (hx : inR x) (x4 x5 x6 x8 : Int32) : f_L_isAt_b222 F S k D a0 gA mA (zI x) x4 x5 x6 (oI (blwS g x y i)) x8 (nI i) (bI (goZ (g i) x)) (bI (goZ (g i) x && lwZ (g i) x y)) = f_L_isAt_b253 F S k D a0 gA mA (zI x) x4 x5 x6 x8 (nI i) (bI (goZ (g i) x)) (bI (goZ (g i) x && lwZ (g i) x y)) (oI (blwS g x y (i + 1))) := by
  have hb := (blw_ok (g := g) x y i).2
  have hlt : ∀ k, blwS g x y i = some k → k < 2000000000 := fun k hk => by have := (hb k hk).1; omega
  have h0 := oI_lt0 _ hlt
  have e1 : blwS g x y (i + 1) = if (goZ (g i) x && lwZ (g i) x y) && (match blwS g x y i with
      | none => true
      | some b => abZ (g i) (g b) x) then some i else blwS g x y i := rfl
  unfold f_L_isAt_b222
  rw [e1]
  cases hp : (goZ (g i) x && lwZ (g i) x y)
  · rw [if_pos (show bI false = 0 from rfl), Bool.false_and, if_neg Bool.false_ne_true]
  · rw [if_neg (show ¬ bI true = 0 by decide), Bool.true_and]
    cases ho : blwS g x y i with
    | none =>
      rw [if_pos (show oI none < 0 by decide)]
      show _ = f_L_isAt_b253 F S k D a0 gA mA (zI x) x4 x5 x6 x8 (nI i) _ _ (oI (if true = true then some i else none))
      rw [if_pos rfl]; rfl
    | some b =>
      have hbl := (hb b ho).1
      rw [if_neg (fun w => by rw [← ho] at w; rw [h0.mp w] at ho; cases ho)]
      show cal (f_L_isAbove F S D gA (nI i) (nI b) (zI x)) _ = _
      rw [e_LisAbove hg (hr i hi) (by omega) (hok i hi) (hr b (by omega)) (by omega) (hok b (by omega)) hx, cal_some]
      show _ = f_L_isAt_b253 F S k D a0 gA mA (zI x) x4 x5 x6 x8 (nI i) _ _ (oI (if abZ (g i) (g b) x = true then some i else some b))
      cases abZ (g i) (g b) x
      · rw [if_pos (show bI false = 0 from rfl), if_neg Bool.false_ne_true]
      · rw [if_neg (show ¬ bI true = 0 by decide), if_pos rfl]; rfl
theorem e_at253 (hg : gOn S gA) (hr : ∀ i, i < n → rowG D gA i (g i)) (hok : ∀ i, i < n → sOk (g i)) (hn : n ≤ 12) {i : Nat} (hi : i < n) (k : CD → Nat → Nat → Nat → Int32 → Int32 → Int32 → Int32 → Int32 → Int32 → Int32 → Option (CD × Int32)) (a0 : Nat) {x y : Int} (hx : inR x) (x4 x5 x6 s0 : Int32) : f_L_isAt_b253 F S k D a0 gA mA (zI x) x4 x5 x6 (oI (abvS g x y i)) (nI i) (bI (goZ (g i) x)) (bI (goZ (g i) x && lwZ (g i) x y)) s0 = f_L_isAt_b289 F S k D a0 gA mA (zI x) x4 x5 x6 s0 (nI i) (oI (abvS g x y (i + 1))) := by
  have hb := (abv_ok (g := g) x y i).2
  have hlt : ∀ k, abvS g x y i = some k → k < 2000000000 := fun k hk => by have := (hb k hk).1; omega
  have h0 := oI_lt0 _ hlt
  have e1 : abvS g x y (i + 1) = if (goZ (g i) x && !lwZ (g i) x y) && (match abvS g x y i with
      | none => true
      | some b => abZ (g b) (g i) x) then some i else abvS g x y i := rfl
  unfold f_L_isAt_b253
  rw [e1]
  cases hp : goZ (g i) x
  · rw [if_pos (show bI false = 0 from rfl), Bool.false_and, Bool.false_and, if_neg Bool.false_ne_true]
  · rw [if_neg (show ¬ bI true = 0 by decide), Bool.true_and, Bool.true_and]
    cases hq : lwZ (g i) x y
    · rw [if_pos (show bI false = 0 from rfl), Bool.not_false, Bool.true_and]
      cases ho : abvS g x y i with
      | none =>
        rw [if_pos (show oI none < 0 by decide)]
        show _ = f_L_isAt_b289 F S k D a0 gA mA (zI x) x4 x5 x6 s0 (nI i) (oI (if true = true then some i else none))
        rw [if_pos rfl]; rfl
      | some b =>
        have hbl := (hb b ho).1
        rw [if_neg (fun w => by rw [← ho] at w; rw [h0.mp w] at ho; cases ho)]
        show cal (f_L_isAbove F S D gA (nI b) (nI i) (zI x)) _ = _
        rw [e_LisAbove hg (hr b (by omega)) (by omega) (hok b (by omega)) (hr i hi) (by omega) (hok i hi) hx, cal_some]
        show _ = f_L_isAt_b289 F S k D a0 gA mA (zI x) x4 x5 x6 s0 (nI i) (oI (if abZ (g b) (g i) x = true then some i else some b))
        cases abZ (g b) (g i) x
        · rw [if_pos (show bI false = 0 from rfl), if_neg Bool.false_ne_true]
        · rw [if_neg (show ¬ bI true = 0 by decide), if_pos rfl]; rfl
    · rw [if_neg (show ¬ bI true = 0 by decide), Bool.not_true, Bool.false_and, if_neg Bool.false_ne_true]
end ISAT
