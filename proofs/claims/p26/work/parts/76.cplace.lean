/-! ### the class's answers about places -/
section CPL
variable {F : Nat} {S : CS} {D : CD} {A sg w : Nat → Nat} {n : Nat} {g : Nat → Sg} {root rd lo ou : Nat → Nat} {c : Nat}
/-- the probe may move -/
theorem cPic_P {D2 : CD} (P : cPic S D A sg w n g root rd c lo ou) (hf : cFrP (A 9) D D2) : cPic S D2 A sg w n g root rd c lo ou := by
  obtain ⟨hL, hl, hn, hV, hE, hd, h7, hs, hH⟩ := P
  have k1 := (EE_facts hH.1 hn).1
  have k1 : (vI g n).1 ≤ 90 := k1
  have r : ∀ b, D2.2.2.1 b = D.2.2.1 b := fun b => by rw [hf.2.1]
  refine ⟨hL, ?_, hn, ?_, ⟨by rw [hf.1]; exact hE.1, fun i hi => by rw [r, r, r]; exact hE.2 i hi⟩, fun v hv => by rw [r]; exact hd v hv, by rw [hf.1]; exact h7, ?_, hH⟩
  · obtain ⟨a1, a2, a3, a4, a5⟩ := hl
    refine ⟨by rw [hf.1]; exact a1, a2, a3, fun i hi => by rw [hf.2.1]; exact a4 i hi, fun i hi => ?_⟩
    exact cSeg_fr (a5 i hi) hf (kd_ne hL (by omega) (a5 i hi).1.2 (by decide))
  · obtain ⟨a1, a2, a3, a4⟩ := hV
    refine ⟨by rw [hf.1]; exact a1, fun i hi => by rw [hf.2.1]; exact a2 i hi, a3, fun i hi => ?_⟩
    exact cPt_fr (a4 i hi) hf (ly_ne hL _ 9 (by have := (a2 i (by omega)).1; omega) (by omega) (by omega))
  · obtain ⟨s1, s2, s3, s4, s5, s6⟩ := hs
    exact ⟨fun s hs => by rw [r]; exact s1 s hs, by rw [hf.1]; exact s2, by rw [r]; exact s3, fun u hu ha hlt => by rw [r]; exact s4 u hu ha hlt, fun x hx => by rw [r]; exact s5 x hx, s6⟩
theorem k_ckCo {x : Int} (hx : inR x) (a : Nat) : f_X6_checkCoordinate F S D a (zI x) = some () := by
  unfold f_X6_checkCoordinate
  unfold inR at hx
  have k : i32 x := ⟨by omega, by omega⟩
  rw [if_neg (fun w => by have := (zI_lt0 k).mp w; omega), show (100 : Int32) = zI 100 from rfl, if_pos ((zI_le k ⟨by omega, by omega⟩).mpr hx.2)]
theorem gPre_of (P : cPic S D A sg w n g root rd c lo ou) {a : Nat} {p : Pt} (hp : cPt S D a p) (bp : bV p) (hF : 1000 ≤ F) : f_X6_faceLeftOf F S D (A 0) a = some (nI (fcO (fun s => foF n g (EE g n) root rd c lo ou (rd s)) (fL g (vI g n).2 (EE g n) p (EE g n).1))) := by
  obtain ⟨hL, hl, hn, hV, hE, hd, h7, hs, hH⟩ := P
  obtain ⟨f1, f2, f3, f4, f5, f6, f7, f8, f9⟩ := EE_facts hH.1 hn
  unfold f_X6_faceLeftOf
  have h := k_fl4 (F := F) (D := D) hL hl hn hH.1.1 hV (vI_good hH.1.1 n (Nat.le_refl _)).2 f1 hE f2 f4 f5 hp bp (EE g n).1 F 0 (by omega) (by omega)
  have h : f_X6_faceLeftOf_L4 F S D (A 0) F a (-1) 0 = _ := h
  rw [h]
  congr 1
  cases ho : fL g (vI g n).2 (EE g n) p (EE g n).1 with
  | none => rfl
  | some e =>
    have he := (fL_lt g (vI g n).2 (EE g n) p _ e ho).1
    show D.2.2.1 (A 29) (2 * e) = _
    rw [hs.1 (2 * e) (by omega)]
    rfl
theorem k_faceAt (P : cPic S D A sg w n g root rd c lo ou) (hF : 1000 ≤ F) {x y : Int} (hx : inR x) (hy : inR y) :
    ∃ D2, f_X6_faceAt F S D (A 0) (zI x) (zI y) = some (D2, if anyN (fun i => onB (g i) (ptI x y)) n then -1 else nI (fcO (fun s => foF n g (EE g n) root rd c lo ou (rd s)) (fL g (vI g n).2 (EE g n) (ptI x y) (EE g n).1))) ∧ cPic S D2 A sg w n g root rd c lo ou := by
  have hL := P.1
  have hn := P.2.2.1
  have h9 : A 9 ∈ S.1 ∧ S.2.1 (A 9) = 2 := hL.1 9 (by omega) (by omega)
  obtain ⟨D2, p1, p2, p3⟩ := k_put (F := F) (S := S) (D := D) (x := x) (y := y) (d := 1) hF h9 ⟨by have := hx.1; omega, by have := hx.2; omega⟩ ⟨by have := hy.1; omega, by have := hy.2; omega⟩ (by decide) ⟨by omega, by omega⟩
  have P2 := cPic_P P p3
  have hl := P2.2.1
  have bp := bV_pt hx hy
  have hog := P2.2.2.2.2.2.2.2.2.1.1
  refine ⟨D2, ?_, P2⟩
  have loop : ∀ (d m i : Nat), i + d = n → d < m → anyN (fun i => onB (g i) (ptI x y)) i = false → f_X6_faceAt_L24 F S (A 0) m D2 (nI i) = some (D2, if anyN (fun i => onB (g i) (ptI x y)) n then -1 else nI (fcO (fun s => foF n g (EE g n) root rd c lo ou (rd s)) (fL g (vI g n).2 (EE g n) (ptI x y) (EE g n).1))) := by
    intro d
    induction d with
    | zero =>
      intro m i hi hm ha
      obtain ⟨m, rfl⟩ : ∃ q, m = q + 1 := ⟨m - 1, by omega⟩
      have e : i = n := by omega
      subst e
      rw [f_X6_faceAt_L24, ly_k hL 0 (by decide) (by decide), ly_r hL 0 0 1 (by decide), ly_k hL 1 (by decide) (by decide), k_size hL hl, cal_some, if_pos (Int32.le_refl _), ly_r hL 0 6 9 (by decide), gPre_of P2 p2 bp hF, cal_some, ha]
      rfl
    | succ d ih =>
      intro m i hi hm ha
      obtain ⟨m, rfl⟩ : ∃ q, m = q + 1 := ⟨m - 1, by omega⟩
      have hin : i < n := by omega
      rw [f_X6_faceAt_L24, ly_k hL 0 (by decide) (by decide), ly_r hL 0 0 1 (by decide), ly_k hL 1 (by decide) (by decide), k_size hL hl, cal_some, if_neg (by rw [nI_leI (by omega) (by omega)]; omega), ly_r hL 0 0 1 (by decide), ly_k hL 1 (by decide) (by decide), k_lget hL hl hn hin, cal_some, ck_ok (hl.2.2.2.2 i hin).1, ly_r hL 0 6 9 (by decide), k_holds (hl.2.2.2.2 i hin) (hog i hin) p2 bp, cal_some]
      cases ho : onB (g i) (Rat.divInt x 1, Rat.divInt y 1)
      · rw [if_pos (show bI false = 0 from rfl), nI_1]
        exact ih m (i + 1) (by omega) (by omega) (by rw [anyN, ha]; exact ho)
      · rw [if_neg (show ¬ bI true = 0 by decide), if_pos (anyN_iff.mpr ⟨i, hin, ho⟩)]
  unfold f_X6_faceAt
  rw [ly_k hL 0 (by decide) (by decide), k_ckCo hx, cal_some, k_ckCo hy, cal_some, ly_r hL 0 6 9 (by decide), ck_ok h9, zI_long (inR_32 hx), zI_long (inR_32 hy), show (1 : Int64) = zL 1 from rfl, p1, cal_some]
  exact loop n F 0 (by omega) (by omega) rfl
theorem onB_Z {s : Sg} (h : sOk s) (x y : Int) : onB s (ptI x y) = onZ s x y := by
  rw [Bool.eq_iff_iff, onB_iff, onS_iff h, ptI_eq]
  unfold onZ
  rw [Bool.and_eq_true, Bool.and_eq_true, decide_eq_true_eq, Bool.not_eq_true', Bool.not_eq_true']
  have e1 : onL s ((x : Rat), (y : Rat)) ↔ dX s * (y - sY s) - dY s * (x - sX s) = 0 := by
    rw [← Rat.intCast_inj, Rat.intCast_sub, Rat.intCast_mul, Rat.intCast_mul, Rat.intCast_sub, Rat.intCast_sub, Rat.intCast_zero]
    unfold onL
    constructor
    · intro w
      have w : (dX s : Rat) * ((y : Rat) - (sY s : Rat)) = (dY s : Rat) * ((x : Rat) - (sX s : Rat)) := w
      grind
    · intro w
      show (dX s : Rat) * ((y : Rat) - (sY s : Rat)) = (dY s : Rat) * ((x : Rat) - (sX s : Rat))
      grind
  have e2 := ltP_V (x := x) (y := y) (u := sX s) (v := sY s)
  have e3 := ltP_V (x := eX s) (y := eY s) (u := x) (v := y)
  rw [e1, ← Bool.not_eq_true, ← Bool.not_eq_true, e2, e3, and_assoc]
theorem k_crossing (P : cPic S D A sg w n g root rd c lo ou) (hF : 1000 ≤ F) {x : Int} (hx : inR x) : f_X6_crossing F S D (A 0) (zI x) = some (nI (cnt (fun i => crZ (g i) x) n)) := by
  have hL := P.1
  have hl := P.2.1
  have hn := P.2.2.1
  have hog := P.2.2.2.2.2.2.2.2.1.1
  have loop : ∀ (d m i : Nat), i + d = n → d < m → f_X6_crossing_L9 F S D (A 0) m (zI x) (nI (cnt (fun i => crZ (g i) x) i)) (nI i) = some (nI (cnt (fun i => crZ (g i) x) n)) := by
    intro d
    induction d with
    | zero =>
      intro m i hi hm
      obtain ⟨m, rfl⟩ : ∃ q, m = q + 1 := ⟨m - 1, by omega⟩
      have e : i = n := by omega
      subst e
      rw [f_X6_crossing_L9, ly_k hL 0 (by decide) (by decide), ly_r hL 0 0 1 (by decide), ly_k hL 1 (by decide) (by decide), k_size hL hl, cal_some, if_pos (Int32.le_refl _)]
    | succ d ih =>
      intro m i hi hm
      obtain ⟨m, rfl⟩ : ∃ q, m = q + 1 := ⟨m - 1, by omega⟩
      have hin : i < n := by omega
      rw [f_X6_crossing_L9, ly_k hL 0 (by decide) (by decide), ly_r hL 0 0 1 (by decide), ly_k hL 1 (by decide) (by decide), k_size hL hl, cal_some, if_neg (by rw [nI_leI (by omega) (by omega)]; omega), ly_r hL 0 0 1 (by decide), ly_k hL 1 (by decide) (by decide), k_lget hL hl hn hin, cal_some, ck_ok (hl.2.2.2.2 i hin).1, k_spans (hl.2.2.2.2 i hin) (hog i hin) (inR_32 hx), cal_some]
      have go := ih m (i + 1) (by omega) (by omega)
      rw [cnt] at go
      unfold f_X6_crossing_b41
      rw [nI_1]
      cases hc : crZ (g i) x
      · rw [hc] at go
        rw [if_pos (show bI false = 0 from rfl)]
        exact go
      · rw [hc] at go
        rw [if_neg (show ¬ bI true = 0 by decide), nI_1]
        exact go
  unfold f_X6_crossing
  rw [ly_k hL 0 (by decide) (by decide), k_ckCo hx, cal_some]
  exact loop n F 0 (by omega) (by omega)
theorem k_isBefore (P : cPic S D A sg w n g root rd c lo ou) {x : Int} (hx : inR x) {a : Nat} (ha : cPt S D a (ptI x 0)) {i j : Nat} (hi : i < n) (hj : j < n) : f_X6_isBefore F S D (A 0) (nI i) (nI j) a = some (bI (belZ g x i j)) := by
  have hL := P.1
  have hl := P.2.1
  have hn := P.2.2.1
  have hog := P.2.2.2.2.2.2.2.2.1.1
  have bp := bV_pt hx (y := 0) ⟨by omega, by omega⟩
  have h1 := hl.2.2.2.2 i hi
  have h2 := hl.2.2.2.2 j hj
  have kc := csgn_32 (hgt (g i) (ptI x 0) * dX (g j)) (hgt (g j) (ptI x 0) * dX (g i))
  obtain ⟨s1, s2, s3⟩ := csgn_s (hgt (g i) (ptI x 0) * dX (g j)) (hgt (g j) (ptI x 0) * dX (g i))
  have kr := csgn_32 0 (cr (g i) (g j))
  obtain ⟨r1, r2, r3⟩ := csgn_s 0 (cr (g i) (g j))
  unfold f_X6_isBefore belZ
  rw [ly_k hL 0 (by decide) (by decide), k_lineAt hL hl hn hi, cal_some, k_lineAt hL hl hn hj, cal_some, ck_ok h1.1, k_cmpHeights h1 (hog i hi) h2 (hog j hj) ha bp, cal_some]
  generalize csgn (hgt (g i) (ptI x 0) * dX (g j)) (hgt (g j) (ptI x 0) * dX (g i)) = z at *
  by_cases z2 : z = 0
  · rw [if_pos ((zI_eq0 kc).mpr z2), k_slopes h1 h2 (hog i hi) (hog j hj), cal_some, decide_eq_false (fun w => by have := s1.mpr w; omega), decide_eq_true (s2.mp z2), Bool.false_or, Bool.true_and]
    by_cases z3 : 0 < cr (g i) (g j)
    · rw [if_pos ((zI_lt0 kr).mpr (r1.mpr z3)), decide_eq_true z3]; rfl
    · rw [if_neg (fun w => z3 (r1.mp ((zI_lt0 kr).mp w))), decide_eq_false z3, Bool.false_or]
      by_cases z4 : cr (g i) (g j) = 0
      · rw [if_pos ((zI_eq0 kr).mpr (r2.mpr z4.symm)), decide_eq_true z4, Bool.true_and]
        by_cases z5 : i < j
        · rw [if_neg (fun w => by have := (nI_leI (a := j) (b := i) (by omega) (by omega)).mp w; omega), decide_eq_true z5]; rfl
        · rw [if_pos ((nI_leI (by omega) (by omega)).mpr (by omega)), decide_eq_false z5]; rfl
      · rw [if_neg (fun w => z4 (r2.mp ((zI_eq0 kr).mp w)).symm), decide_eq_false z4]; rfl
  · rw [if_neg (fun w => z2 ((zI_eq0 kc).mp w)), decide_eq_false (fun w => z2 (s2.mpr w)), Bool.false_and, Bool.or_false]
    by_cases z1 : z < 0
    · rw [if_neg (fun w => by have := (zI_0le kc).mp w; omega), decide_eq_true (s1.mp z1)]; rfl
    · rw [if_pos ((zI_0le kc).mpr (by omega)), decide_eq_false (fun w => z1 (s1.mpr w))]; rfl
theorem k_placeAt (P : cPic S D A sg w n g root rd c lo ou) (hF : 1000 ≤ F) {x : Int} (hx : inR x) {i : Nat} (hi : i < n) (hci : crZ (g i) x = true) :
    ∃ D2, f_X6_placeAt F S D (A 0) (zI x) (nI i) = some (D2, nI (rkZ g x n i)) ∧ cPic S D2 A sg w n g root rd c lo ou := by
  have hL := P.1
  have hn := P.2.2.1
  have h9 : A 9 ∈ S.1 ∧ S.2.1 (A 9) = 2 := hL.1 9 (by omega) (by omega)
  obtain ⟨D2, p1, p2, p3⟩ := k_put (F := F) (S := S) (D := D) (x := x) (y := 0) (d := 1) hF h9 ⟨by have := hx.1; omega, by have := hx.2; omega⟩ ⟨by omega, by omega⟩ (by decide) ⟨by omega, by omega⟩
  have P2 := cPic_P P p3
  have hl := P2.2.1
  have hog := P2.2.2.2.2.2.2.2.2.1.1
  refine ⟨D2, ?_, P2⟩
  have loop : ∀ (d m o : Nat), o + d = n → d < m → f_X6_placeAt_L16 F S (A 0) m D2 (zI x) (nI i) (nI (cnt (fun o => crZ (g o) x && crZ (g i) x && belZ g x o i) o)) (nI o) = some (D2, nI (rkZ g x n i)) := by
    intro d
    induction d with
    | zero =>
      intro m o ho hm
      obtain ⟨m, rfl⟩ : ∃ q, m = q + 1 := ⟨m - 1, by omega⟩
      have e : o = n := by omega
      subst e
      rw [f_X6_placeAt_L16, ly_k hL 0 (by decide) (by decide), ly_r hL 0 0 1 (by decide), ly_k hL 1 (by decide) (by decide), k_size hL hl, cal_some, if_pos (Int32.le_refl _)]
      rfl
    | succ d ih =>
      intro m o ho hm
      obtain ⟨m, rfl⟩ : ∃ q, m = q + 1 := ⟨m - 1, by omega⟩
      have hin : o < n := by omega
      rw [f_X6_placeAt_L16, ly_k hL 0 (by decide) (by decide), ly_r hL 0 0 1 (by decide), ly_k hL 1 (by decide) (by decide), k_size hL hl, cal_some, if_neg (by rw [nI_leI (by omega) (by omega)]; omega), ly_r hL 0 0 1 (by decide), ly_k hL 1 (by decide) (by decide), k_lget hL hl hn hin, cal_some, ck_ok (hl.2.2.2.2 o hin).1, k_spans (hl.2.2.2.2 o hin) (hog o hin) (inR_32 hx), cal_some]
      have go := ih m (o + 1) (by omega) (by omega)
      rw [cnt, hci] at go
      unfold f_X6_placeAt_b64
      rw [nI_1]
      cases hc : crZ (g o) x
      · rw [hc] at go
        rw [if_pos (show bI false = 0 from rfl), hci]
        exact go
      · rw [hc] at go
        rw [if_neg (show ¬ bI true = 0 by decide), ly_r hL 0 6 9 (by decide), k_isBefore P2 hx p2 hin hi, cal_some, hci]
        cases hb : belZ g x o i
        · rw [hb] at go
          rw [if_pos (show bI false = 0 from rfl)]
          exact go
        · rw [hb] at go
          rw [if_neg (show ¬ bI true = 0 by decide), nI_1]
          exact go
  unfold f_X6_placeAt
  rw [ly_k hL 0 (by decide) (by decide), ly_r hL 0 6 9 (by decide), ck_ok h9, zI_long (inR_32 hx), show (0 : Int64) = zL 0 from rfl, show (1 : Int64) = zL 1 from rfl, p1, cal_some]
  exact loop n F 0 (by omega) (by omega)
/-- the order of crossed segments is one row -/
theorem bel_tr (hg : gOk n g) {x : Int} {i j k : Nat} (hi : i < n) (hj : j < n) (hk : k < n) (ci : crZ (g i) x = true) (cj : crZ (g j) x = true) (ck : crZ (g k) x = true) (h1 : belZ g x i j = true) (h2 : belZ g x j k = true) : belZ g x i k = true := by
  have pos : ∀ i, crZ (g i) x = true → 0 < dX (g i) := fun i h => of_decide_eq_true (Bool.and_eq_true_iff.mp h).1
  have di := pos i ci
  have dj := pos j cj
  have dk := pos k ck
  have ii : ∀ a b : Nat, a < n → b < n → 0 < dX (g a) → 0 < dX (g b) → (belZ g x a b = true ↔ lny (g a) (ptI x 0).1 < lny (g b) (ptI x 0).1 ∨ (lny (g a) (ptI x 0).1 = lny (g b) (ptI x 0).1 ∧ (slp (g a) < slp (g b) ∨ (slp (g a) = slp (g b) ∧ a < b)))) := by
    intro a b ha hb da db
    obtain ⟨-, -, q1, q2⟩ := hgt_cmp da db (ptI x 0)
    obtain ⟨-, -, q3, q4⟩ := hgt_cmp db da (ptI x 0)
    have c1 := slp_cr da db
    have c2 := slp_cr db da
    have c3 := cr_swap (g a) (g b)
    have c4 : cr (g a) (g b) = 0 ↔ slp (g a) = slp (g b) := by
      constructor
      · intro w
        rcases rat_tri (slp (g a)) (slp (g b)) with z | z | z
        · have := c1.mpr z; omega
        · exact z
        · have := c2.mpr z; omega
      · intro w
        rcases Int.lt_trichotomy 0 (cr (g a) (g b)) with z | z | z
        · have := c1.mp z; rw [w] at this; exact absurd this Rat.lt_irrefl
        · exact z.symm
        · have := c2.mp (show 0 < cr (g b) (g a) by omega); rw [w] at this; exact absurd this Rat.lt_irrefl
    unfold belZ
    rw [Bool.or_eq_true, Bool.and_eq_true, Bool.or_eq_true, Bool.and_eq_true, decide_eq_true_eq, decide_eq_true_eq, decide_eq_true_eq, decide_eq_true_eq, decide_eq_true_eq, q3, q2, c1, c4]
    constructor
    · rintro (w | ⟨w1, w2⟩)
      · exact Or.inl w
      · exact Or.inr ⟨w1.symm, w2⟩
    · rintro (w | ⟨w1, w2⟩)
      · exact Or.inl w
      · exact Or.inr ⟨w1.symm, w2⟩
  rw [ii i j hi hj di dj] at h1
  rw [ii j k hj hk dj dk] at h2
  rw [ii i k hi hk di dk]
  rcases h1 with h1 | ⟨h1, h3 | ⟨h3, h5⟩⟩ <;> rcases h2 with h2 | ⟨h2, h4 | ⟨h4, h6⟩⟩
  · left; grind
  · left; grind
  · left; grind
  · left; grind
  · right; exact ⟨by grind, Or.inl (by grind)⟩
  · right; exact ⟨by grind, Or.inl (by grind)⟩
  · left; grind
  · right; exact ⟨by grind, Or.inl (by grind)⟩
  · right; exact ⟨by grind, Or.inr ⟨by grind, by omega⟩⟩
theorem bel_irr {x : Int} (i : Nat) : belZ g x i i = false := by
  unfold belZ
  rw [decide_eq_false (Int.lt_irrefl _), cr_self, decide_eq_false (show ¬ i < i by omega), decide_eq_false (Int.lt_irrefl _)]
  simp
theorem bel_tot {x : Int} {i j : Nat} (hne : i ≠ j) : belZ g x i j = true ∨ belZ g x j i = true := by
  have c3 := cr_swap (g i) (g j)
  unfold belZ
  rw [Bool.or_eq_true, Bool.and_eq_true, Bool.or_eq_true, Bool.and_eq_true, decide_eq_true_eq, decide_eq_true_eq, decide_eq_true_eq, decide_eq_true_eq, decide_eq_true_eq, Bool.or_eq_true, Bool.and_eq_true, Bool.or_eq_true, Bool.and_eq_true, decide_eq_true_eq, decide_eq_true_eq, decide_eq_true_eq, decide_eq_true_eq, decide_eq_true_eq]
  omega
theorem rk_lt (hg : gOk n g) {x : Int} {i j : Nat} (hi : i < n) (hj : j < n) (ci : crZ (g i) x = true) (cj : crZ (g j) x = true) (h : belZ g x i j = true) : rkZ g x n i < rkZ g x n j := by
  unfold rkZ
  refine cnt_lt (i := i) (fun k hk hp => ?_) hi ?_ ?_
  · rw [Bool.and_eq_true, Bool.and_eq_true] at hp ⊢
    exact ⟨⟨hp.1.1, cj⟩, bel_tr hg hk hi hj hp.1.1 ci cj hp.2 h⟩
  · rw [bel_irr, Bool.and_false]
  · rw [ci, cj, h]; rfl
theorem rk_inj (hg : gOk n g) {x : Int} {i j : Nat} (hi : i < n) (hj : j < n) (ci : crZ (g i) x = true) (cj : crZ (g j) x = true) (h : rkZ g x n i = rkZ g x n j) : i = j := by
  apply Classical.byContradiction
  intro hne
  rcases bel_tot (g := g) (x := x) hne with z | z
  · have := rk_lt hg hi hj ci cj z; omega
  · have := rk_lt hg hj hi cj ci z; omega
theorem rk_bd {x : Int} {i : Nat} (hi : i < n) (ci : crZ (g i) x = true) : rkZ g x n i < cnt (fun i => crZ (g i) x) n := by
  unfold rkZ
  refine cnt_lt (i := i) (fun k hk hp => ?_) hi ?_ ci
  · rw [Bool.and_eq_true, Bool.and_eq_true] at hp
    exact hp.1.1
  · rw [bel_irr, Bool.and_false]
theorem rk_surj (hg : gOk n g) {x : Int} {r : Nat} (hr : r < cnt (fun i => crZ (g i) x) n) : ∃ i, i < n ∧ crZ (g i) x = true ∧ rkZ g x n i = r := by
  apply Classical.byContradiction
  intro hno
  have hp := pigeon (cnt (fun i => crZ (g i) x) n - 1) n (fun i => crZ (g i) x) (fun i => if rkZ g x n i < r then rkZ g x n i else rkZ g x n i - 1) (fun i hi hc => by
    have h1 := rk_bd hi hc
    have h2 : rkZ g x n i ≠ r := fun e => hno ⟨i, hi, hc, e⟩
    show (if rkZ g x n i < r then rkZ g x n i else rkZ g x n i - 1) < _
    split <;> omega) (fun i j hi hj hci hcj e => by
    have h2 : rkZ g x n i ≠ r := fun e => hno ⟨i, hi, hci, e⟩
    have h3 : rkZ g x n j ≠ r := fun e => hno ⟨j, hj, hcj, e⟩
    have e : (if rkZ g x n i < r then rkZ g x n i else rkZ g x n i - 1) = (if rkZ g x n j < r then rkZ g x n j else rkZ g x n j - 1) := e
    refine rk_inj hg hi hj hci hcj ?_
    split at e <;> split at e <;> omega)
  omega
end CPL
