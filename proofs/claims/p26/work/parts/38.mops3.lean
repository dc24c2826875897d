/-! ### the reference's answers about places -/
def onZ (s : Sg) (x y : Int) : Bool := decide (dX s * (y - sY s) - dY s * (x - sX s) = 0) && !ltP x y (sX s) (sY s) && !ltP (eX s) (eY s) x y
def anyN (P : Nat → Bool) : Nat → Bool
  | 0 => false
  | k + 1 => anyN P k || P k
theorem anyN_iff {P : Nat → Bool} {k : Nat} : anyN P k = true ↔ ∃ i, i < k ∧ P i = true := by
  induction k with
  | zero => exact ⟨fun h => (by cases h), fun ⟨i, h, _⟩ => absurd h (by omega)⟩
  | succ k ih =>
    rw [anyN, Bool.or_eq_true, ih]
    constructor
    · intro h
      rcases h with ⟨i, h1, h2⟩ | h
      · exact ⟨i, by omega, h2⟩
      · exact ⟨k, by omega, h⟩
    · intro ⟨i, h1, h2⟩
      rcases Nat.lt_or_ge i k with z | z
      · exact Or.inl ⟨i, z, h2⟩
      · have e : i = k := by omega
        subst e; exact Or.inr h2
def crZ (s : Sg) (x : Int) : Bool := decide (0 < dX s) && decide (sX s ≤ x ∧ x ≤ eX s)
/-- segment i runs under segment j at x -/
def belZ (g : Nat → Sg) (x : Int) (i j : Nat) : Bool :=
  decide (hgt (g i) (ptI x 0) * dX (g j) < hgt (g j) (ptI x 0) * dX (g i)) || (decide (hgt (g i) (ptI x 0) * dX (g j) = hgt (g j) (ptI x 0) * dX (g i)) && (decide (0 < cr (g i) (g j)) || (decide (cr (g i) (g j) = 0) && decide (i < j))))
def rkZ (g : Nat → Sg) (x : Int) (n i : Nat) : Nat := cnt (fun o => crZ (g o) x && crZ (g i) x && belZ g x o i) n
section MOP3
variable {F : Nat} {M : MS} {n : Nat} {g : Nat → Sg}
theorem e_goesB (k : Int32) (h : k ≠ 0) : f_goes F M k = some (mpF M 23 k, 0) := by
  unfold f_goes wrF
  show (if k = 0 then okB 1 (some (mpF M 23 k, 1)) else okB 0 (some (mpF M 23 k, 0))) = _
  rw [if_neg h]; rfl
theorem e_goes0 : f_goes F M 0 = some (mpF M 23 0, 1) := rfl
theorem e_fatL {x y : Int} (hx : inR x) (hy : inR y) (h0 : M.1 0 = nI n) (hn : n ≤ 12) (hco : mCo M n g) (hg : ∀ i, i < n → sOk (g i)) {t : Int32} (ht : f_faceAbove F M (zL x) 1 (zL y) 1 0 = some t) :
    ∀ (d m e : Nat), e + d = n → d < m → f_faceAt_L33 F m M (zI x) (zI y) (bI (anyN (fun i => onZ (g i) x y) e)) (nI e) = some (M, if anyN (fun i => onZ (g i) x y) n then -1 else t) := by
  intro d
  induction d with
  | zero =>
    intro m e he hm
    obtain ⟨m, rfl⟩ : ∃ q, m = q + 1 := ⟨m - 1, by omega⟩
    have e0 : e = n := by omega
    subst e0
    rw [f_faceAt_L33, h0, if_pos (Int32.le_refl _), zI_long (inR_32 hx), zI_long (inR_32 hy), ht]
    cases anyN (fun i => onZ (g i) x y) e <;> rfl
  | succ d ih =>
    intro m e he hm
    obtain ⟨m, rfl⟩ : ∃ q, m = q + 1 := ⟨m - 1, by omega⟩
    have hen : e < n := by omega
    have i1 := ih m (e + 1) (by omega) (by omega)
    obtain ⟨c1, c2, c3, c4⟩ := hco e hen
    obtain ⟨⟨b1, b2, b3, b4⟩, -⟩ := id (hg e hen)
    have k1 := mul_bd (dX_bd (hg e hen)) (b := y - sY (g e)) (B := 100) (by unfold inR at hy b2; omega)
    have k2 := mul_bd (dY_bd (hg e hen)) (b := x - sX (g e)) (B := 100) (by unfold inR at hx b1; omega)
    have kk : i32 (dX (g e) * (y - sY (g e)) - dY (g e) * (x - sX (g e))) := ⟨by omega, by omega⟩
    rw [anyN] at i1
    have fin : ∀ b : Bool, b = (anyN (fun i => onZ (g i) x y) e || onZ (g e) x y) → f_faceAt_b159 F (f_faceAt_L33 F m) M (zI x) (zI y) (nI e) (bI b) = some (M, if anyN (fun i => onZ (g i) x y) n then -1 else t) := by
      intro b hb
      unfold f_faceAt_b159
      rw [nI_1, hb]; exact i1
    rw [f_faceAt_L33, h0, if_neg (by rw [nI_leI (by omega) (by omega)]; omega), e_dx hco hen (by omega), cal_some, rdI_at (by omega) (by decide), e_dy hco hen (by omega), cal_some, rdI_at (by omega) (by decide), rdI_at (by omega) (by decide), rdI_at (by omega) (by decide), c1, c2, e_isBefore (inR_32 hx) (inR_32 hy) (inR_32 b1) (inR_32 b2), cal_some, zI_sub, zI_sub, zI_mul, zI_mul, zI_sub]
    have hb104 : ∀ b : Bool, b = !ltP x y (sX (g e)) (sY (g e)) → f_faceAt_b104 F (f_faceAt_L33 F m) M (zI x) (zI y) (bI (anyN (fun i => onZ (g i) x y) e)) (nI e) (zI (dX (g e) * (y - sY (g e)) - dY (g e) * (x - sX (g e)))) (bI b) = some (M, if anyN (fun i => onZ (g i) x y) n then -1 else t) := by
      intro b hb
      unfold f_faceAt_b104
      rw [rdI_at (by omega) (by decide), rdI_at (by omega) (by decide), c3, c4, e_isBefore (inR_32 b3) (inR_32 b4) (inR_32 hx) (inR_32 hy), cal_some]
      have hb133 : ∀ b2 : Bool, b2 = !ltP (eX (g e)) (eY (g e)) x y → f_faceAt_b133 F (f_faceAt_L33 F m) M (zI x) (zI y) (bI (anyN (fun i => onZ (g i) x y) e)) (nI e) (zI (dX (g e) * (y - sY (g e)) - dY (g e) * (x - sX (g e)))) (bI b) (bI b2) = some (M, if anyN (fun i => onZ (g i) x y) n then -1 else t) := by
        intro b2 hb2
        unfold f_faceAt_b133
        unfold onZ at fin
        rw [← hb, ← hb2] at fin
        cases ha : anyN (fun i => onZ (g i) x y) e
        · unfold onZ at ha
          rw [ha] at fin
          rw [if_pos (show bI false = 0 from rfl)]
          by_cases z : dX (g e) * (y - sY (g e)) - dY (g e) * (x - sX (g e)) = 0
          · rw [decide_eq_true z] at fin
            rw [if_pos ((zI_eq0 kk).mpr z)]
            cases b
            · rw [if_pos (show bI false = 0 from rfl)]; exact fin false rfl
            · rw [if_neg (show ¬ bI true = 0 by decide)]
              cases b2
              · rw [if_pos (show bI false = 0 from rfl)]; exact fin false rfl
              · rw [if_neg (show ¬ bI true = 0 by decide)]; exact fin true rfl
          · rw [decide_eq_false z] at fin
            rw [if_neg (fun w => z ((zI_eq0 kk).mp w))]; exact fin false rfl
        · unfold onZ at ha
          rw [ha] at fin
          rw [if_neg (show ¬ bI true = 0 by decide)]; exact fin true rfl
      cases hl : ltP (eX (g e)) (eY (g e)) x y
      · rw [if_pos (show bI false = 0 from rfl)]; exact hb133 true (by rw [hl]; rfl)
      · rw [if_neg (show ¬ bI true = 0 by decide)]; exact hb133 false (by rw [hl]; rfl)
    cases hl : ltP x y (sX (g e)) (sY (g e))
    · rw [if_pos (show bI false = 0 from rfl)]; exact hb104 true (by rw [hl]; rfl)
    · rw [if_neg (show ¬ bI true = 0 by decide)]; exact hb104 false (by rw [hl]; rfl)
theorem e_faceAt {x y : Int} (hx : i32 x) (hy : i32 y) (hF : 1000 ≤ F) (h0 : M.1 0 = nI n) (hn : n ≤ 12) (hco : mCo M n g) (hg : ∀ i, i < n → sOk (g i)) {v : Nat} (ht : inR x → inR y → f_faceAbove F (mpF M 23 0) (zL x) 1 (zL y) 1 0 = some (nI v)) :
    f_faceAt F M (zI x) (zI y) = some (mpF M 23 (bI (!(inP x && inP y))), if inP x && inP y then (if anyN (fun i => onZ (g i) x y) n then -1 else nI v) else 0) := by
  unfold f_faceAt f_faceAt_b20
  rw [e_isPlace hx, e_isPlace hy, cal_some, cal_some]
  cases hb : inP x
  · rw [if_pos (show bI false = 0 from rfl), e_goesB 1 (by decide), caM_some]; rfl
  · rw [if_neg (show ¬ bI true = 0 by decide)]
    cases hc : inP y
    · rw [if_pos (show bI false = 0 from rfl), e_goesB 1 (by decide), caM_some]; rfl
    · rw [if_neg (show ¬ bI true = 0 by decide), e_goes0, caM_some, if_neg (by decide)]
      have px : inR x := of_decide_eq_true (p := 0 ≤ x ∧ x ≤ 100) hb
      have py : inR y := of_decide_eq_true (p := 0 ≤ y ∧ y ≤ 100) hc
      exact e_fatL (M := mpF M 23 0) px py h0 hn hco hg (ht px py) n F 0 (by omega) (by omega)
theorem e_isCrossed {x : Int} (hx : i32 x) (hn : n ≤ 12) (hco : mCo M n g) (hg : ∀ i, i < n → sOk (g i)) {i : Nat} (hi : i < n) : f_isCrossed F M (nI i) (zI x) = some (bI (crZ (g i) x)) := by
  obtain ⟨c1, c2, c3, c4⟩ := hco i hi
  obtain ⟨⟨b1, b2, b3, b4⟩, -⟩ := id (hg i hi)
  have kd := i32_of _ (dX_bd (hg i hi)) (by omega)
  unfold f_isCrossed crZ
  rw [e_dx hco hi (by omega), cal_some]
  by_cases z : dX (g i) ≤ 0
  · rw [if_pos ((zI_le0 kd).mpr z), decide_eq_false (show ¬ 0 < dX (g i) by omega)]; rfl
  · rw [if_neg (fun w => z ((zI_le0 kd).mp w)), decide_eq_true (show 0 < dX (g i) by omega), rdI_at (by omega) (by decide), rdI_at (by omega) (by decide), c1, c3, e_isIn hx (inR_32 b1) (inR_32 b3), cal_some]
    cases decide (sX (g i) ≤ x ∧ x ≤ eX (g i))
    · rw [if_pos (show bI false = 0 from rfl)]; rfl
    · rw [if_neg (show ¬ bI true = 0 by decide)]; rfl
theorem e_crossedL {x : Int} (hx : i32 x) (h0 : M.1 0 = nI n) (hn : n ≤ 12) (hco : mCo M n g) (hg : ∀ i, i < n → sOk (g i)) :
    ∀ (d m e : Nat), e + d = n → d < m → f_crossed_L4 F M m (zI x) (nI (cnt (fun i => crZ (g i) x) e)) (nI e) = some (nI (cnt (fun i => crZ (g i) x) n)) := by
  intro d
  induction d with
  | zero =>
    intro m e he hm
    obtain ⟨m, rfl⟩ : ∃ q, m = q + 1 := ⟨m - 1, by omega⟩
    have e0 : e = n := by omega
    subst e0
    rw [f_crossed_L4, h0, if_pos (Int32.le_refl _)]
  | succ d ih =>
    intro m e he hm
    obtain ⟨m, rfl⟩ : ∃ q, m = q + 1 := ⟨m - 1, by omega⟩
    have hen : e < n := by omega
    have i1 := ih m (e + 1) (by omega) (by omega)
    rw [← cnt_s] at i1
    rw [f_crossed_L4, h0, if_neg (by rw [nI_leI (by omega) (by omega)]; omega), e_isCrossed hx hn hco hg hen, cal_some]
    unfold f_crossed_b27
    rw [nI_1 e]
    cases hb : crZ (g e) x
    · rw [hb] at i1
      rw [if_pos (show bI false = 0 from rfl)]; exact i1
    · rw [hb] at i1
      rw [if_neg (show ¬ bI true = 0 by decide)]; exact i1
theorem e_crossed {x : Int} (hx : i32 x) (hF : 1000 ≤ F) (h0 : M.1 0 = nI n) (hn : n ≤ 12) (hco : mCo M n g) (hg : ∀ i, i < n → sOk (g i)) : f_crossed F M (zI x) = some (nI (cnt (fun i => crZ (g i) x) n)) :=
  e_crossedL (F := F) hx h0 hn hco hg n F 0 (by omega) (by omega)
theorem e_crossing {x : Int} (hx : i32 x) (hF : 1000 ≤ F) (h0 : M.1 0 = nI n) (hn : n ≤ 12) (hco : mCo M n g) (hg : ∀ i, i < n → sOk (g i)) :
    f_crossing F M (zI x) = some (mpF M 23 (bI (!inP x)), if inP x then nI (cnt (fun i => crZ (g i) x) n) else 0) := by
  unfold f_crossing f_crossing_b13
  rw [e_isPlace hx, cal_some]
  cases hb : inP x
  · rw [if_pos (show bI false = 0 from rfl), e_goesB 1 (by decide), caM_some]; rfl
  · rw [if_neg (show ¬ bI true = 0 by decide), e_goes0, caM_some, if_neg (by decide), e_crossed (M := mpF M 23 0) hx hF h0 hn hco hg, cal_some]; rfl
theorem e_isBelow {x : Int} (hx : inR x) (hn : n ≤ 12) (hco : mCo M n g) (hg : ∀ i, i < n → sOk (g i)) {i j : Nat} (hi : i < n) (hj : j < n) : f_isBelow F M (nI i) (nI j) (zI x) = some (bI (belZ g x i j)) := by
  have hp := (bV_pt hx (y := 0) ⟨by omega, by omega⟩).1
  have h := e_heights (F := F) hco hg (by omega) hi hj hp
  have e1 : (ptI x 0).1.num = x := by rw [ptI_eq]; exact Rat.num_intCast x
  have e2 : (ptI x 0).1.den = 1 := by rw [ptI_eq]; exact Rat.den_intCast x
  rw [e1, e2] at h
  have kc := csgn_32 (hgt (g i) (ptI x 0) * (dX (g j) * ((1 : Nat) : Int))) (hgt (g j) (ptI x 0) * (dX (g i) * ((1 : Nat) : Int)))
  obtain ⟨s1, s2, s3⟩ := csgn_s (hgt (g i) (ptI x 0) * (dX (g j) * ((1 : Nat) : Int))) (hgt (g j) (ptI x 0) * (dX (g i) * ((1 : Nat) : Int)))
  generalize csgn (hgt (g i) (ptI x 0) * (dX (g j) * ((1 : Nat) : Int))) (hgt (g j) (ptI x 0) * (dX (g i) * ((1 : Nat) : Int))) = z at h kc s1 s2 s3
  have o1 : ∀ a : Int, a * ((1 : Nat) : Int) = a := fun a => by rw [Int.natCast_one, Int.mul_one]
  rw [o1, o1] at s1 s2
  have kr : i32 (-cr (g i) (g j)) := by have := cr_bd (hg i hi) (hg j hj); exact ⟨by omega, by omega⟩
  unfold f_isBelow belZ
  rw [zI_long (inR_32 hx), show (1 : Int64) = zL ((1 : Nat) : Int) from rfl, h, cal_some, e_slopes hco (by omega) hi hj, cal_some]
  by_cases z1 : z < 0
  · rw [if_pos ((zI_lt0 kc).mpr z1), decide_eq_true (s1.mp z1)]; rfl
  · rw [if_neg (fun w => z1 ((zI_lt0 kc).mp w)), decide_eq_false (fun w => z1 (s1.mpr w))]
    by_cases z2 : z = 0
    · rw [if_pos ((zI_eq0 kc).mpr z2), decide_eq_true (s2.mp z2)]
      by_cases z3 : 0 < cr (g i) (g j)
      · rw [if_pos ((zI_lt0 kr).mpr (by omega)), decide_eq_true z3]; rfl
      · rw [if_neg (fun w => z3 (by have := (zI_lt0 kr).mp w; omega)), decide_eq_false z3]
        by_cases z4 : cr (g i) (g j) = 0
        · rw [if_pos ((zI_eq0 kr).mpr (by omega)), decide_eq_true z4]
          by_cases z5 : i < j
          · rw [if_neg (fun w => by have := (nI_leI (by omega) (by omega)).mp w; omega), decide_eq_true z5]; rfl
          · rw [if_pos ((nI_leI (by omega) (by omega)).mpr (by omega)), decide_eq_false z5]; rfl
        · rw [if_neg (fun w => z4 (by have := (zI_eq0 kr).mp w; omega)), decide_eq_false z4]; rfl
    · rw [if_neg (fun w => z2 ((zI_eq0 kc).mp w)), decide_eq_false (fun w => z2 (s2.mpr w))]; rfl
end MOP3
