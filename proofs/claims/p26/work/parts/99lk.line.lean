/-! What the law's isLine comes to. -/
theorem th2_a {E1 E2 : String} {r1 r2 : Int32} {D : CD} : th2 E1 r1 E2 r2 (some (D, E1)) = some (D, r1) := by
  show (if E1 = E1 then _ else _) = _
  rw [if_pos rfl]
theorem th2_b {E1 E2 : String} {r1 r2 : Int32} {D : CD} (h : E2 ≠ E1) : th2 E1 r1 E2 r2 (some (D, E2)) = some (D, r2) := by
  show (if E2 = E1 then _ else if E2 = E2 then _ else _) = _
  rw [if_neg h, if_pos rfl]
theorem hgt_hZ (s : Sg) (x : Int) : hgt s (ptI x 0) = hZ s x := by
  obtain ⟨a1, a2⟩ := int_num x
  have e1 : (ptI x 0).1 = (x : Rat) := by rw [ptI_eq]
  unfold hgt hZ
  rw [e1, a1, a2]
  show sY s * dX s * 1 + dY s * (x - sX s * 1) = _
  rw [Int.mul_one, Int.mul_one]
section LIN
variable {F : Nat} {S : CS} {D : CD} {A sg w : Nat → Nat} {n : Nat} {g : Nat → Sg} {root rd : Nat → Nat} {c : Nat} {lo ou : Nat → Nat} {gA mA : Nat}
theorem bel_ab {x : Int} {i j : Nat} (h : belZ g x i j = true) : abZ (g j) (g i) x = true ∨ abZ (g i) (g j) x = false ∧ i < j := by
  have c3 := cr_swap (g i) (g j)
  unfold belZ at h
  rw [hgt_hZ, hgt_hZ, Bool.or_eq_true, Bool.and_eq_true, Bool.or_eq_true, Bool.and_eq_true, decide_eq_true_eq, decide_eq_true_eq, decide_eq_true_eq, decide_eq_true_eq, decide_eq_true_eq] at h
  unfold abZ
  rw [Bool.or_eq_true, Bool.and_eq_true, decide_eq_true_eq, decide_eq_true_eq, decide_eq_true_eq, Bool.or_eq_false_iff, Bool.and_eq_false_iff, decide_eq_false_iff_not, decide_eq_false_iff_not, decide_eq_false_iff_not]
  omega
theorem k_crAt (P : cPic S D A sg w n g root rd c lo ou) (hF : 1000 ≤ F) {x : Int} (hx : inR x) {i p : Nat} (hi : i < n) (hc : crZ (g i) x = true) (hr : rkZ g x n i = p) :
    ∃ D2, f_X6_crossingAt F S D (A 0) (zI x) (nI p) = some (D2, nI i) ∧ D2.2.2 = D.2.2 ∧ cPic S D2 A sg w n g root rd c lo ou := by
  have hn := P.2.2.1
  obtain ⟨D2, p1, p9, p2⟩ := k_caL (F := F) (y := (p : Int)) hF hx hi hc (by rw [hr]) i F 0 D P (by omega) (by omega)
  refine ⟨D2, ?_, p9, p2⟩
  unfold f_X6_crossingAt
  rw [ly_k P.1 0 (by decide) (by decide), k_ckCo hx, cal_some, nI_zI p]
  exact p1
theorem e_Lli149 {k : CD → Nat → Nat → Int32 → Int32 → Int32 → Int32 → Option (CD × Int32)} (hg : gOn S gA) {i : Nat} (hi : i < 13) (hr : rowG D gA i (g i)) (ha : sOk (g i)) {x : Int} (hx : inR x) (hc : crZ (g i) x = true) (x0 : Nat) (x4 x6 s0 : Int32) (h : s0 < 0 ∨ ∃ j, s0 = nI j ∧ j < 13 ∧ rowG D gA j (g j) ∧ sOk (g j) ∧ belZ g x j i = true) :
    f_L_isLine_b149 F S k D x0 gA (zI x) x4 x6 (nI i) s0 = k D x0 gA (zI x) x4 1 (x6 + 1) := by
  have hr0 := hr
  have ha0 := ha
  obtain ⟨r0, r1, r2, r3⟩ := hr
  obtain ⟨⟨⟨a1, a2⟩, ⟨a3, a4⟩, ⟨a5, a6⟩, a7, a8⟩, -⟩ := ha
  obtain ⟨x1, x2⟩ := id hx
  unfold crZ at hc
  rw [Bool.and_eq_true, decide_eq_true_eq, decide_eq_true_eq] at hc
  obtain ⟨c1, c2, c3⟩ := hc
  have d1 := dX_bd ha0
  unfold f_L_isLine_b149
  rw [e_Ldx hg hr0 hi ha0, cal_some, zL_cmp0 (i64_of 100 (by omega) (by omega)), if_neg (fun w => by have := cs_le.mp w; omega), ck_ok hg.1, ix2, ix0, g_rd hg (by omega), r0, if_neg (fun w => by have := (zI_lt (a := x) (b := sX (g i)) ⟨by omega, by omega⟩ ⟨by omega, by omega⟩).mp w; omega), g_rd hg (by omega), r2, if_neg (fun w => by have := (zI_lt (a := eX (g i)) (b := x) ⟨by omega, by omega⟩ ⟨by omega, by omega⟩).mp w; omega)]
  rcases h with h | ⟨j, rfl, h1, h2, h3, h4⟩
  · rw [if_pos h]; rfl
  · rw [if_neg (nI_lt0 (by omega)), e_LisAbove hg hr0 hi ha0 h2 h1 h3 hx, cal_some]
    rcases bel_ab h4 with h5 | ⟨h5, h6⟩
    · rw [h5, if_neg (show ¬ bI true = 0 by decide)]; rfl
    · cases h7 : abZ (g i) (g j) x
      · rw [if_pos (show bI false = 0 from rfl), e_LisAbove hg h2 h1 h3 hr0 hi ha0 hx, cal_some, h5, if_pos (show bI false = 0 from rfl), if_neg (fun w => by have := (nI_leI (a := i) (b := j) (by omega) (by omega)).mp w; omega)]; rfl
      · rw [if_neg (show ¬ bI true = 0 by decide)]; rfl
theorem e_Lli110 (hF : 1000 ≤ F) (hg : gOn S gA) {x : Int} (hx : inR x) : ∀ (d m p : Nat) (D : CD), cPic S D A sg w n g root rd c lo ou → (∀ i, i < n → rowG D gA i (g i)) → p + d = cnt (fun i => crZ (g i) x) n → d < m →
    ∃ D2, f_L_isLine_L110 F S m D (A 0) gA (zI x) (nI (cnt (fun i => crZ (g i) x) n)) 1 (nI p) = some (D2, 1) ∧ D2.2.2 = D.2.2 ∧ cPic S D2 A sg w n g root rd c lo ou := by
  intro d
  induction d with
  | zero =>
    intro m p D P hr hp hm
    obtain ⟨m, rfl⟩ : ∃ q, m = q + 1 := ⟨m - 1, by omega⟩
    refine ⟨D, ?_, rfl, P⟩
    have lc := cnt_le (fun i => crZ (g i) x) n
    have hn := P.2.2.1
    rw [f_L_isLine_L110, if_pos ((nI_leI (by omega) (by omega)).mpr (by omega))]; rfl
  | succ d ih =>
    intro m p D P hr hp hm
    obtain ⟨m, rfl⟩ : ∃ q, m = q + 1 := ⟨m - 1, by omega⟩
    have lc := cnt_le (fun i => crZ (g i) x) n
    have hn := P.2.2.1
    have hgo := P.2.2.2.2.2.2.2.2.1
    obtain ⟨i, i1, i2, i3⟩ := rk_surj hgo (x := x) (r := p) (by omega)
    obtain ⟨D2, p1, p2, p3⟩ := k_crAt (F := F) P hF hx i1 i2 i3
    have hr2 : ∀ i, i < n → rowG D2 gA i (g i) := fun i hi => by unfold rowG; rw [p2]; exact hr i hi
    rw [f_L_isLine_L110, if_neg (fun w => by have := (nI_leI (a := cnt (fun i => crZ (g i) x) n) (b := p) (by omega) (by omega)).mp w; omega), if_neg (by decide), ly_k P.1 0 (by decide) (by decide), p1, caM_some]
    by_cases z : p = 0
    · rw [if_pos (show nI p = 0 by rw [z]; rfl), e_Lli149 hg (by omega) (hr2 i i1) (hgo.1 i i1) hx i2 _ _ _ _ (Or.inl (by decide)), nI_1]
      obtain ⟨D3, q1, q2, q3⟩ := ih m (p + 1) D2 p3 hr2 (by omega) (by omega)
      exact ⟨D3, q1, q2.trans p2, q3⟩
    · obtain ⟨j, j1, j2, j3⟩ := rk_surj hgo (x := x) (r := p - 1) (by omega)
      obtain ⟨D4, v1, v2, v3⟩ := k_crAt (F := F) p3 hF hx j1 j2 j3
      have hr4 : ∀ i, i < n → rowG D4 gA i (g i) := fun i hi => by unfold rowG; rw [v2]; exact hr2 i hi
      have hb : belZ g x j i = true := by
        rcases bel_tot (g := g) (x := x) (i := j) (j := i) (fun e => by rw [e, i3] at j3; omega) with w | w
        · exact w
        · have := rk_lt hgo i1 j1 i2 j2 w; omega
      rw [if_neg (show ¬ nI p = 0 from fun w => z ((nI_eq (b := 0) (by omega) (by omega)).mp w)), nI_sb (by omega), v1, caM_some, e_Lli149 hg (by omega) (hr4 i i1) (hgo.1 i i1) hx i2 _ _ _ _ (Or.inr ⟨j, rfl, by omega, hr4 j j1, hgo.1 j j1, hb⟩), nI_1]
      obtain ⟨D3, q1, q2, q3⟩ := ih m (p + 1) D4 v3 hr4 (by omega) (by omega)
      exact ⟨D3, q1, q2.trans (v2.trans p2), q3⟩
theorem e_LisLine (P : cPic S D A sg w n g root rd c lo ou) (hF : 1000 ≤ F) (hg : gOn S gA) (hm : mOn S mA) (hr : ∀ i, i < n → rowG D gA i (g i)) (hn0 : D.2.2.1 mA 0 = nI n) {x : Int} (hx : inR x) :
    ∃ D2, f_L_isLine F S D (A 0) gA mA (zI x) = some (D2, 1) ∧ D2.2.2 = D.2.2 ∧ cPic S D2 A sg w n g root rd c lo ou := by
  have hn := P.2.2.1
  have hgo := P.2.2.2.2.2.2.2.2.1
  have lc := cnt_le (fun i => crZ (g i) x) n
  obtain ⟨D2, p1, p2, p3⟩ := tp_crossingAtB (F := F) P hF hx (y := (cnt (fun i => crZ (g i) x) n : Int)) ⟨by omega, by omega⟩ (decide_eq_false (by omega))
  obtain ⟨D3, q1, q2, q3⟩ := tp_crossingAtB (F := F) p3 hF hx (y := -1) ⟨by omega, by omega⟩ (decide_eq_false (by omega))
  have hr3 : ∀ i, i < n → rowG D3 gA i (g i) := fun i hi => by unfold rowG; rw [q2, p2]; exact hr i hi
  obtain ⟨D4, v1, v2, v3⟩ := e_Lli110 (F := F) hF hg hx (cnt (fun i => crZ (g i) x) n) F 0 D3 q3 hr3 (by omega) (by omega)
  refine ⟨D4, ?_, v2.trans (q2.trans p2), v3⟩
  have o1 : f_L_at F S D (A 0) 2 (zI x) (nI (cnt (fun i => crZ (g i) x) n)) = some (D2, -601) := by
    unfold f_L_at
    rw [ly_k P.1 0 (by decide) (by decide), if_neg (by decide), if_neg (by decide), if_pos (by decide), nI_zI, p1, th2_b (by decide)]
  have o2 : f_L_at F S D2 (A 0) 2 (zI x) (-1) = some (D3, -601) := by
    unfold f_L_at
    rw [ly_k P.1 0 (by decide) (by decide), if_neg (by decide), if_neg (by decide), if_pos (by decide), show (-1 : Int32) = zI (-1) from rfl, q1, th2_b (by decide)]
  have L6 : ∀ (d m i : Nat), i + d = n → d < m → f_L_isLine_L6 F S m D (A 0) gA mA (zI x) (nI (cnt (fun i => crZ (g i) x) i)) (nI i) = some (D4, 1) := by
    intro d
    induction d with
    | zero =>
      intro m i hi hm2
      obtain ⟨m, rfl⟩ : ∃ q, m = q + 1 := ⟨m - 1, by omega⟩
      rw [show i = n by omega, f_L_isLine_L6, ck_ok hm.1, m_rd hm, hn0, if_pos (Int32.le_refl _), ly_k P.1 0 (by decide) (by decide), k_crossing P hF hx, cal_some, if_pos rfl, o1, caM_some, if_pos rfl, o2, caM_some, if_pos rfl]
      exact v1
    | succ d ih =>
      intro m i hi hm2
      obtain ⟨m, rfl⟩ : ∃ q, m = q + 1 := ⟨m - 1, by omega⟩
      have hin : i < n := by omega
      have go := ih m (i + 1) (by omega) (by omega)
      rw [cnt] at go
      have ha0 := hgo.1 i hin
      obtain ⟨r0, r1, r2, r3⟩ := hr i hin
      obtain ⟨⟨⟨a1, a2⟩, ⟨a3, a4⟩, ⟨a5, a6⟩, a7, a8⟩, -⟩ := hgo.1 i hin
      obtain ⟨x1, x2⟩ := id hx
      have d1 := dX_bd ha0
      have e1 : zI x < zI (sX (g i)) ↔ x < sX (g i) := zI_lt ⟨by omega, by omega⟩ ⟨by omega, by omega⟩
      have e2 : zI (eX (g i)) < zI x ↔ eX (g i) < x := zI_lt ⟨by omega, by omega⟩ ⟨by omega, by omega⟩
      have e3 : zI (csgn (dX (g i)) 0) ≤ 0 ↔ dX (g i) ≤ 0 := cs_le
      have h54 : ∀ b : Bool, crZ (g i) x = b → f_L_isLine_b54 F S (f_L_isLine_L6 F S m) D (A 0) gA mA (zI x) (nI i) (bI b) (nI (cnt (fun i => crZ (g i) x) i)) = some (D4, 1) := by
        intro b hb
        unfold f_L_isLine_b54
        rw [nI_b, nI_1]
        rw [hb] at go
        exact go
      unfold crZ at h54
      rw [f_L_isLine_L6, ck_ok hm.1, m_rd hm, hn0, if_neg (fun w => by have := (nI_leI (a := n) (b := i) (by omega) (by omega)).mp w; omega), e_Ldx hg (hr i hin) (by omega) ha0, cal_some, zL_cmp0 (i64_of 100 (by omega) (by omega))]
      by_cases c1 : dX (g i) ≤ 0
      · rw [if_pos (e3.mpr c1)]
        exact h54 false (by rw [decide_eq_false (show ¬ 0 < dX (g i) by omega)]; rfl)
      · rw [if_neg (mt e3.mp c1), ck_ok hg.1, ix2, ix0, g_rd hg (by omega), r0]
        by_cases c2 : x < sX (g i)
        · rw [if_pos (e1.mpr c2)]
          exact h54 false (by rw [decide_eq_false (show ¬ (sX (g i) ≤ x ∧ x ≤ eX (g i)) by omega), Bool.and_false])
        · rw [if_neg (mt e1.mp c2), g_rd hg (by omega), r2]
          by_cases c3 : eX (g i) < x
          · rw [if_pos (e2.mpr c3)]
            exact h54 false (by rw [decide_eq_false (show ¬ (sX (g i) ≤ x ∧ x ≤ eX (g i)) by omega), Bool.and_false])
          · rw [if_neg (mt e2.mp c3)]
            exact h54 true (by rw [decide_eq_true (show 0 < dX (g i) by omega), decide_eq_true (show sX (g i) ≤ x ∧ x ≤ eX (g i) by omega)]; rfl)
  exact L6 n F 0 (by omega) (by omega)
end LIN
