/-! ### the class's objects: which stands where. Roles: 0 the map, 1 lines, 2 its array, 3 noLine, 4 corners, 5 pieces, 6 regions, 7 bySlope (8 its cells), 9 probe, 10 the array of points, 11 noPoint, 12..15 outgoing lowest top root (16..19 cells), 20..24 line start end above face (25..29 cells), 30 31 first sideCount (32 33 cells), 34..123 the points -/
def kdR (i : Nat) : Nat :=
  if i = 0 then 6 else if i = 1 then 7 else if i = 2 then 10 else if i = 3 then 4 else if i = 4 then 5 else if i = 5 then 0 else if i = 6 then 1 else if i = 7 then 3 else if i = 8 then 8 else if i = 9 then 2 else if i = 10 then 9 else if i = 11 then 2
  else if i < 16 then 3 else if i < 20 then 8 else if i < 25 then 3 else if i < 30 then 8 else if i < 32 then 3 else if i < 34 then 8 else 2
def rfR : List (Nat × Nat × Nat) := [(0, 0, 1), (0, 1, 3), (0, 2, 4), (0, 3, 5), (0, 4, 6), (0, 5, 7), (0, 6, 9), (1, 1, 2), (4, 0, 10), (4, 1, 11), (4, 2, 12), (4, 3, 13), (4, 4, 14), (4, 5, 15), (5, 0, 20), (5, 1, 21), (5, 2, 22), (5, 3, 23), (5, 4, 24), (6, 0, 30), (6, 1, 31), (7, 0, 8), (12, 0, 16), (13, 0, 17), (14, 0, 18), (15, 0, 19), (20, 0, 25), (21, 0, 26), (22, 0, 27), (23, 0, 28), (24, 0, 29), (30, 0, 32), (31, 0, 33)]
def lnR : List (Nat × Nat) := [(8, 12), (10, 90), (16, 90), (17, 90), (18, 90), (19, 90), (25, 144), (26, 144), (27, 144), (28, 288), (29, 288), (32, 56), (33, 56)]
def cLay (S : CS) (A : Nat → Nat) : Prop :=
  (∀ i, i < 124 → i ≠ 2 → A i ∈ S.1 ∧ S.2.1 (A i) = kdR i) ∧ (∀ i j, i < 124 → j < 124 → A i = A j → i = j) ∧ (∀ q, q ∈ rfR → S.2.2.1 (A q.1) q.2.1 = some (A q.2.2)) ∧ ∀ q, q ∈ lnR → S.2.2.2 (A q.1) = q.2
/-- the row r has the cells a -/
def cRow (S : CS) (r a L : Nat) : Prop := (r ∈ S.1 ∧ S.2.1 r = 3) ∧ S.2.2.1 r 0 = some a ∧ (a ∈ S.1 ∧ S.2.1 a = 8) ∧ S.2.2.2 a = L ∧ L < 2147483648
section CLAY
variable {F : Nat} {S : CS} {D : CD} {A : Nat → Nat}
theorem ly_k (h : cLay S A) {α : Type} {g : Option α} (i : Nat) {k : Nat} (hi : i < 124) (hk : kdR i = k) (h2 : i ≠ 2 := by omega) : ckK S (A i) k g = g := by
  subst hk; exact ck_ok (h.1 i hi h2)
theorem ly_r (h : cLay S A) {α : Type} {g : Nat → Option α} (i f j : Nat) (hq : (i, f, j) ∈ rfR) : cal (S.2.2.1 (A i) f) g = g (A j) := by
  rw [h.2.2.1 (i, f, j) hq]; rfl
theorem ly_row (h : cLay S A) (r a L : Nat) (h1 : r < 124) (h2 : kdR r = 3) (h3 : (r, 0, a) ∈ rfR) (h4 : a < 124) (h5 : kdR a = 8) (h6 : (a, L) ∈ lnR) (h7 : L < 2147483648) (hr2 : r ≠ 2 := by omega) (ha2 : a ≠ 2 := by omega) : cRow S (A r) (A a) L := by
  refine ⟨?_, h.2.2.1 (r, 0, a) h3, ?_, h.2.2.2 (a, L) h6, h7⟩
  · rw [← h2]; exact h.1 r h1 hr2
  · rw [← h5]; exact h.1 a h4 ha2
theorem rw_bySlope (h : cLay S A) : cRow S (A 7) (A 8) 12 := ly_row h 7 8 12 (by decide) (by decide) (by decide) (by decide) (by decide) (by decide) (by decide)
theorem rw_out (h : cLay S A) : cRow S (A 12) (A 16) 90 := ly_row h 12 16 90 (by decide) (by decide) (by decide) (by decide) (by decide) (by decide) (by decide)
theorem rw_low (h : cLay S A) : cRow S (A 13) (A 17) 90 := ly_row h 13 17 90 (by decide) (by decide) (by decide) (by decide) (by decide) (by decide) (by decide)
theorem rw_top (h : cLay S A) : cRow S (A 14) (A 18) 90 := ly_row h 14 18 90 (by decide) (by decide) (by decide) (by decide) (by decide) (by decide) (by decide)
theorem rw_root (h : cLay S A) : cRow S (A 15) (A 19) 90 := ly_row h 15 19 90 (by decide) (by decide) (by decide) (by decide) (by decide) (by decide) (by decide)
theorem rw_line (h : cLay S A) : cRow S (A 20) (A 25) 144 := ly_row h 20 25 144 (by decide) (by decide) (by decide) (by decide) (by decide) (by decide) (by decide)
theorem rw_start (h : cLay S A) : cRow S (A 21) (A 26) 144 := ly_row h 21 26 144 (by decide) (by decide) (by decide) (by decide) (by decide) (by decide) (by decide)
theorem rw_end (h : cLay S A) : cRow S (A 22) (A 27) 144 := ly_row h 22 27 144 (by decide) (by decide) (by decide) (by decide) (by decide) (by decide) (by decide)
theorem rw_above (h : cLay S A) : cRow S (A 23) (A 28) 288 := ly_row h 23 28 288 (by decide) (by decide) (by decide) (by decide) (by decide) (by decide) (by decide)
theorem rw_face (h : cLay S A) : cRow S (A 24) (A 29) 288 := ly_row h 24 29 288 (by decide) (by decide) (by decide) (by decide) (by decide) (by decide) (by decide)
theorem rw_first (h : cLay S A) : cRow S (A 30) (A 32) 56 := ly_row h 30 32 56 (by decide) (by decide) (by decide) (by decide) (by decide) (by decide) (by decide)
theorem rw_side (h : cLay S A) : cRow S (A 31) (A 33) 56 := ly_row h 31 33 56 (by decide) (by decide) (by decide) (by decide) (by decide) (by decide) (by decide)
theorem k_get {r a L k : Nat} (h : cRow S r a L) (hk : k < L) : f_X3_get F S D r (nI k) = some (D.2.2.1 a k) := by
  obtain ⟨h1, h2, h3, h4, h5⟩ := h
  unfold f_X3_get
  rw [if_neg (nI_pos (by omega)), ck_ok h1, h2, cal_some, ck_ok h3, h4, if_neg (fun w => by have := (nI_leI (a := L) (b := k) (by omega) (by omega)).mp w; omega), cal_some, ck_ok h3, h4, rdI_at hk h5]
theorem k_set {r a L k : Nat} {v : Int32} (h : cRow S r a L) (hk : k < L) : f_X3_set F S D r (nI k) v = some (cpA D a (upd (D.2.2.1 a) k v)) := by
  obtain ⟨h1, h2, h3, h4, h5⟩ := h
  unfold f_X3_set
  rw [if_neg (nI_pos (by omega)), ck_ok h1, h2, cal_some, ck_ok h3, h4, if_neg (fun w => by have := (nI_leI (a := L) (b := k) (by omega) (by omega)).mp w; omega), cal_some, ck_ok h3, ciW_at (by omega) (by omega)]
theorem cpA_s (D : CD) (a : Nat) (f : Nat → Int32) : (cpA D a f).2.2.1 a = f := va_up_self _ _ _
theorem cpA_n (D : CD) {a b : Nat} (f : Nat → Int32) (h : b ≠ a) : (cpA D a f).2.2.1 b = D.2.2.1 b := va_up_ne _ _ h
theorem cpF_s (D : CD) (a k : Nat) (v : Int32) : (cpF D a k v).1 a k = v := by
  show va_up D.1 a (va_up (D.1 a) k v) a k = v
  rw [va_up_self, va_up_self]
theorem cpF_n (D : CD) {a b k j : Nat} (v : Int32) (h : b ≠ a ∨ j ≠ k) : (cpF D a k v).1 b j = D.1 b j := by
  show va_up D.1 a (va_up (D.1 a) k v) b j = D.1 b j
  by_cases hb : b = a
  · subst hb
    rw [va_up_self, va_up_ne _ _ (h.resolve_left (fun w => w rfl))]
  · rw [va_up_ne _ _ hb]
theorem ly_ne (h : cLay S A) (i j : Nat) (hi : i < 124) (hj : j < 124) (hij : i ≠ j) : A i ≠ A j := fun e => hij (h.2.1 i j hi hj e)
/-- the lines -/
def cLin (S : CS) (D : CD) (A sg : Nat → Nat) (n : Nat) (g : Nat → Sg) : Prop := D.1 (A 1) 2 = nI n ∧ (n ≤ S.2.2.2 (A 2) ∧ (0 < n → A 2 ∈ S.1 ∧ S.2.1 (A 2) = 10)) ∧ S.2.2.2 (A 2) < 2147483648 ∧ (∀ i, i < n → D.2.2.2 (A 2) i = some (sg i)) ∧ (∀ i, i < n → cSeg S D (sg i) (g i))
variable {sg : Nat → Nat} {n : Nat} {g : Nat → Sg}
theorem k_size (hL : cLay S A) (hl : cLin S D A sg n g) : f_Jx4a65c_size_8abf5 F S D (A 1) = some (nI n) := by
  unfold f_Jx4a65c_size_8abf5
  rw [ly_k hL 1 (by decide) (by decide), hl.1]
theorem k_lget (hL : cLay S A) (hl : cLin S D A sg n g) (hn : n ≤ 12) {i : Nat} (hi : i < n) : f_Jx4a65c_get_915e3 F S D (A 1) (nI i) = some (sg i) := by
  obtain ⟨h1, ⟨h2, h2'⟩, h3, h4, -⟩ := hl
  unfold f_Jx4a65c_get_915e3 f_J15_checkIndex_7cf53 f_J3_checkIndex_8e157 f_Jx4a65c_elementData_915e3
  rw [ly_k hL 1 (by decide) (by decide), h1, if_neg (nI_pos (by omega)), if_pos ((nI_ltI (by omega) (by omega)).mpr hi), cal_some, cal_some, ly_k hL 1 (by decide) (by decide), ly_r hL 1 1 2 (by decide), ck_ok (h2' (by omega)), rdA_at (by omega) h3, h4 i hi]
  rfl
theorem k_lineAt (hL : cLay S A) (hl : cLin S D A sg n g) (hn : n ≤ 12) {i : Nat} (hi : i < n) : f_X6_lineAt F S D (A 0) (nI i) = some (sg i) := by
  unfold f_X6_lineAt
  rw [if_neg (nI_pos (by omega)), ly_k hL 0 (by decide) (by decide), ly_r hL 0 0 1 (by decide), ly_k hL 1 (by decide) (by decide), k_size hL hl, cal_some, if_neg (fun w => by have := (nI_leI (a := n) (b := i) (by omega) (by omega)).mp w; omega), ly_r hL 0 0 1 (by decide), ly_k hL 1 (by decide) (by decide), k_lget hL hl hn hi, cal_some, ck_ok (hl.2.2.2.2 i hi).1]
/-- the vertices: w is where each of them stands among the points -/
def cVer (S : CS) (D : CD) (A w : Nat → Nat) (nV : Nat) (V : Nat → Pt) : Prop := D.1 (A 4) 6 = nI nV ∧ (∀ i, i < 90 → w i < 90 ∧ D.2.2.2 (A 10) i = some (A (34 + w i))) ∧ (∀ i j, i < 90 → j < 90 → w i = w j → i = j) ∧ ∀ i, i < nV → cPt S D (A (34 + w i)) (V i)
variable {w : Nat → Nat} {nV : Nat} {V : Nat → Pt}
theorem k_at (hL : cLay S A) (hv : ∀ i, i < 90 → w i < 90 ∧ D.2.2.2 (A 10) i = some (A (34 + w i))) {i : Nat} (hi : i < 90) : f_X5_at F S D (A 4) (nI i) = some (A (34 + w i)) := by
  have e : S.2.2.2 (A 10) = 90 := hL.2.2.2 (10, 90) (by decide)
  unfold f_X5_at
  rw [if_neg (nI_pos (by omega)), ly_k hL 4 (by decide) (by decide), ly_r hL 4 0 10 (by decide), ly_k hL 10 (by decide) (by decide), e, if_neg (fun w => by have := (nI_leI (a := 90) (b := i) (by omega) (by omega)).mp w; omega), ly_r hL 4 0 10 (by decide), ly_k hL 10 (by decide) (by decide), e, rdA_at hi (by decide), (hv i hi).2]
  rfl
end CLAY
