/-! faceAt, placeAt and crossingAt in the class's pictures, with the rows that stay; the throws of crossingAt and add. -/
theorem thr_some {α β : Type} {x : α} {t : Option β} {g : α → Option β} : thr (some x) t g = g x := rfl
theorem thr_none {α β : Type} {t : Option β} {g : α → Option β} : thr none t g = t := rfl
section CAT
variable {F : Nat} {S : CS} {D : CD} {A sg w : Nat → Nat} {n : Nat} {g : Nat → Sg} {root rd : Nat → Nat} {c : Nat} {lo ou : Nat → Nat}
theorem k_faceAt2 (P : cPic S D A sg w n g root rd c lo ou) (hF : 1000 ≤ F) {x y : Int} (hx : inR x) (hy : inR y) :
    ∃ D2, f_X6_faceAt F S D (A 0) (zI x) (zI y) = some (D2, if anyN (fun i => onB (g i) (ptI x y)) n then -1 else nI (fcO (fun s => foF n g (EE g n) root rd c lo ou (rd s)) (fL g (vI g n).2 (EE g n) (ptI x y) (EE g n).1))) ∧ D2.2.2 = D.2.2 ∧ cPic S D2 A sg w n g root rd c lo ou := by
  have hL := P.1
  have hn := P.2.2.1
  have h9 : A 9 ∈ S.1 ∧ S.2.1 (A 9) = 2 := hL.1 9 (by omega) (by omega)
  obtain ⟨D2, p1, p2, p3⟩ := k_put (F := F) (S := S) (D := D) (x := x) (y := y) (d := 1) hF h9 ⟨by have := hx.1; omega, by have := hx.2; omega⟩ ⟨by have := hy.1; omega, by have := hy.2; omega⟩ (by decide) ⟨by omega, by omega⟩
  have P2 := cPic_P P p3
  have hl := P2.2.1
  have bp := bV_pt hx hy
  have hog := P2.2.2.2.2.2.2.2.2.1.1
  refine ⟨D2, ?_, p3.2.1, P2⟩
  have loop : ∀ (d m i : Nat), i + d = n → d < m → anyN (fun i => onB (g i) (ptI x y)) i = false → f_X6_faceAt_L24 F S (A 0) m D2 (nI i) = some (D2, if anyN (fun i => onB (g i) (ptI x y)) n then -1 else nI (fcO (fun s => foF n g (EE g n) root rd c lo ou (rd s)) (fL g (vI g n).2 (EE g n) (ptI x y) (EE g n).1))) := by
    intro d
    induction d with
    | zero =>
      intro m i hi hm ha
      obtain ⟨m, rfl⟩ : ∃ q, m = q + 1 := ⟨m - 1, by omega⟩
      have e : i = n := by omega
      subst e
      rw [f_X6_faceAt_L24, ly_k hL 0 (by decide) (by decide), ly_r hL 0 0 1 (by decide), ly_k hL 1 (by decide) (by decide), k_size hL hl, cal_some, if_pos (Int32.le_refl _), ly_r hL 0 6 9 (by decide), gPre_of P2 p2 bp hF, cal_some, ha]
      rfl
    | succ d ih =>
      intro m i hi hm ha
      obtain ⟨m, rfl⟩ : ∃ q, m = q + 1 := ⟨m - 1, by omega⟩
      have hin : i < n := by omega
      rw [f_X6_faceAt_L24, ly_k hL 0 (by decide) (by decide), ly_r hL 0 0 1 (by decide), ly_k hL 1 (by decide) (by decide), k_size hL hl, cal_some, if_neg (by rw [nI_leI (by omega) (by omega)]; omega), ly_r hL 0 0 1 (by decide), ly_k hL 1 (by decide) (by decide), k_lget hL hl hn hin, cal_some, ck_ok (hl.2.2.2.2 i hin).1, ly_r hL 0 6 9 (by decide), k_holds (hl.2.2.2.2 i hin) (hog i hin) p2 bp, cal_some]
      cases ho : onB (g i) (Rat.divInt x 1, Rat.divInt y 1)
      · rw [if_pos (show bI false = 0 from rfl), nI_1]
        exact ih m (i + 1) (by omega) (by omega) (by rw [anyN, ha]; exact ho)
      · rw [if_neg (show ¬ bI true = 0 by decide), if_pos (anyN_iff.mpr ⟨i, hin, ho⟩)]
  unfold f_X6_faceAt
  rw [ly_k hL 0 (by decide) (by decide), k_ckCo hx, cal_some, k_ckCo hy, cal_some, ly_r hL 0 6 9 (by decide), ck_ok h9, zI_long (inR_32 hx), zI_long (inR_32 hy), show (1 : Int64) = zL 1 from rfl, p1, cal_some]
  exact loop n F 0 (by omega) (by omega) rfl
theorem k_placeAt2 (P : cPic S D A sg w n g root rd c lo ou) (hF : 1000 ≤ F) {x : Int} (hx : inR x) {i : Nat} (hi : i < n) (hci : crZ (g i) x = true) :
    ∃ D2, f_X6_placeAt F S D (A 0) (zI x) (nI i) = some (D2, nI (rkZ g x n i)) ∧ D2.2.2 = D.2.2 ∧ cPic S D2 A sg w n g root rd c lo ou := by
  have hL := P.1
  have hn := P.2.2.1
  have h9 : A 9 ∈ S.1 ∧ S.2.1 (A 9) = 2 := hL.1 9 (by omega) (by omega)
  obtain ⟨D2, p1, p2, p3⟩ := k_put (F := F) (S := S) (D := D) (x := x) (y := 0) (d := 1) hF h9 ⟨by have := hx.1; omega, by have := hx.2; omega⟩ ⟨by omega, by omega⟩ (by decide) ⟨by omega, by omega⟩
  have P2 := cPic_P P p3
  have hl := P2.2.1
  have hog := P2.2.2.2.2.2.2.2.2.1.1
  refine ⟨D2, ?_, p3.2.1, P2⟩
  have loop : ∀ (d m o : Nat), o + d = n → d < m → f_X6_placeAt_L16 F S (A 0) m D2 (zI x) (nI i) (nI (cnt (fun o => crZ (g o) x && crZ (g i) x && belZ g x o i) o)) (nI o) = some (D2, nI (rkZ g x n i)) := by
    intro d
    induction d with
    | zero =>
      intro m o ho hm
      obtain ⟨m, rfl⟩ : ∃ q, m = q + 1 := ⟨m - 1, by omega⟩
      have e : o = n := by omega
      subst e
      rw [f_X6_placeAt_L16, ly_k hL 0 (by decide) (by decide), ly_r hL 0 0 1 (by decide), ly_k hL 1 (by decide) (by decide), k_size hL hl, cal_some, if_pos (Int32.le_refl _)]
      rfl
    | succ d ih =>
      intro m o ho hm
      obtain ⟨m, rfl⟩ : ∃ q, m = q + 1 := ⟨m - 1, by omega⟩
      have hin : o < n := by omega
      rw [f_X6_placeAt_L16, ly_k hL 0 (by decide) (by decide), ly_r hL 0 0 1 (by decide), ly_k hL 1 (by decide) (by decide), k_size hL hl, cal_some, if_neg (by rw [nI_leI (by omega) (by omega)]; omega), ly_r hL 0 0 1 (by decide), ly_k hL 1 (by decide) (by decide), k_lget hL hl hn hin, cal_some, ck_ok (hl.2.2.2.2 o hin).1, k_spans (hl.2.2.2.2 o hin) (hog o hin) (inR_32 hx), cal_some]
      have go := ih m (o + 1) (by omega) (by omega)
      rw [cnt, hci] at go
      unfold f_X6_placeAt_b64
      rw [nI_1]
      cases hc : crZ (g o) x
      · rw [hc] at go
        rw [if_pos (show bI false = 0 from rfl), hci]
        exact go
      · rw [hc] at go
        rw [if_neg (show ¬ bI true = 0 by decide), ly_r hL 0 6 9 (by decide), k_isBefore P2 hx p2 hin hi, cal_some, hci]
        cases hb : belZ g x o i
        · rw [hb] at go
          rw [if_pos (show bI false = 0 from rfl)]
          exact go
        · rw [hb] at go
          rw [if_neg (show ¬ bI true = 0 by decide), nI_1]
          exact go
  unfold f_X6_placeAt
  rw [ly_k hL 0 (by decide) (by decide), ly_r hL 0 6 9 (by decide), ck_ok h9, zI_long (inR_32 hx), show (0 : Int64) = zL 0 from rfl, show (1 : Int64) = zL 1 from rfl, p1, cal_some]
  exact loop n F 0 (by omega) (by omega)
theorem k_caL (hF : 1000 ≤ F) {x y : Int} (hx : inR x) {i0 : Nat} (h0 : i0 < n) (hc0 : crZ (g i0) x = true) (hr : (rkZ g x n i0 : Int) = y) :
    ∀ (d m i : Nat) (D : CD), cPic S D A sg w n g root rd c lo ou → i + d = i0 → d < m → ∃ D2, f_X6_crossingAt_L7 F S (A 0) m D (zI x) (zI y) (nI i) = some (D2, nI i0) ∧ D2.2.2 = D.2.2 ∧ cPic S D2 A sg w n g root rd c lo ou := by
  intro d
  induction d with
  | zero =>
    intro m i D P hi hm
    obtain ⟨m, rfl⟩ : ∃ q, m = q + 1 := ⟨m - 1, by omega⟩
    have e : i = i0 := by omega
    subst e
    have hL := P.1
    have hl := P.2.1
    have hn := P.2.2.1
    have hog := P.2.2.2.2.2.2.2.2.1.1
    obtain ⟨D2, p1, p9, p2⟩ := k_placeAt2 P hF hx h0 hc0
    refine ⟨D2, ?_, p9, p2⟩
    rw [f_X6_crossingAt_L7, ly_k hL 0 (by decide) (by decide), ly_r hL 0 0 1 (by decide), ly_k hL 1 (by decide) (by decide), k_size hL hl, cal_some, if_neg (by rw [nI_leI (by omega) (by omega)]; omega), ly_r hL 0 0 1 (by decide), ly_k hL 1 (by decide) (by decide), k_lget hL hl hn h0, cal_some, ck_ok (hl.2.2.2.2 i h0).1, k_spans (hl.2.2.2.2 i h0) (hog i h0) (inR_32 hx), cal_some, hc0, if_neg (show ¬ bI true = 0 by decide), p1, caM_some, if_pos (by rw [nI_zI, hr])]
  | succ d ih =>
    intro m i D P hi hm
    obtain ⟨m, rfl⟩ : ∃ q, m = q + 1 := ⟨m - 1, by omega⟩
    have hin : i < n := by omega
    have hL := P.1
    have hl := P.2.1
    have hn := P.2.2.1
    have hog := P.2.2.2.2.2.2.2.2.1.1
    rw [f_X6_crossingAt_L7, ly_k hL 0 (by decide) (by decide), ly_r hL 0 0 1 (by decide), ly_k hL 1 (by decide) (by decide), k_size hL hl, cal_some, if_neg (by rw [nI_leI (by omega) (by omega)]; omega), ly_r hL 0 0 1 (by decide), ly_k hL 1 (by decide) (by decide), k_lget hL hl hn hin, cal_some, ck_ok (hl.2.2.2.2 i hin).1, k_spans (hl.2.2.2.2 i hin) (hog i hin) (inR_32 hx), cal_some]
    cases hc : crZ (g i) x
    · rw [if_pos (show bI false = 0 from rfl)]
      unfold f_X6_crossingAt_b48
      rw [nI_1]
      exact ih m (i + 1) D P (by omega) (by omega)
    · obtain ⟨D2, p1, p9, p2⟩ := k_placeAt2 P hF hx hin hc
      have hne : ¬ nI (rkZ g x n i) = zI y := fun e => by
        rw [← hr, ← nI_zI] at e
        have l1 := rk_bd (x := x) hin hc
        have l2 := rk_bd (x := x) h0 hc0
        have l3 := cnt_le (fun i => crZ (g i) x) n
        have e2 := (nI_eq (by omega) (by omega)).mp e
        have := rk_inj P.2.2.2.2.2.2.2.2.1 hin h0 hc hc0 e2
        omega
      rw [if_neg (show ¬ bI true = 0 by decide), p1, caM_some, if_neg hne]
      unfold f_X6_crossingAt_b48
      rw [nI_1]
      obtain ⟨D3, w1, w2, w3⟩ := ih m (i + 1) D2 p2 (by omega) (by omega)
      exact ⟨D3, w1, w2.trans p9, w3⟩
theorem k_crossingAt (P : cPic S D A sg w n g root rd c lo ou) (hF : 1000 ≤ F) {x y : Int} (hx : inR x) (hy : inB y (cnt (fun i => crZ (g i) x) n) = true) :
    ∃ D2, f_X6_crossingAt F S D (A 0) (zI x) (zI y) = some (D2, lstI (fun i => crZ (g i) x && decide ((rkZ g x n i : Int) = y)) (fun i => i) n) ∧ D2.2.2 = D.2.2 ∧ cPic S D2 A sg w n g root rd c lo ou := by
  obtain ⟨v, h1, h2, h3⟩ := inB_nat hy
  have hog := P.2.2.2.2.2.2.2.2.1
  obtain ⟨i0, a1, a2, a3⟩ := rk_surj hog h1
  have hr : (rkZ g x n i0 : Int) = y := by rw [a3, h2]
  have hn := P.2.2.1
  obtain ⟨D2, p1, p9, p2⟩ := k_caL (F := F) hF hx a1 a2 hr i0 F 0 D P (by omega) (by omega)
  refine ⟨D2, ?_, p9, p2⟩
  unfold f_X6_crossingAt
  rw [ly_k P.1 0 (by decide) (by decide), k_ckCo hx, cal_some]
  have p1 : f_X6_crossingAt_L7 F S (A 0) F D (zI x) (zI y) 0 = some (D2, nI i0) := p1
  rw [p1, lstI_one (x := i0) n a1 (by rw [a2, Bool.true_and]; exact decide_eq_true hr) (fun i hi h => by
    have h := Bool.and_eq_true_iff.mp h
    have e := of_decide_eq_true h.2
    exact rk_inj hog hi a1 h.1 a2 (by omega))]
theorem t_caL (hF : 1000 ≤ F) {x y : Int} (hx : inR x) (hy : i32 y) (hr : inB y (cnt (fun i => crZ (g i) x) n) = false) :
    ∀ (d m i : Nat) (D : CD), cPic S D A sg w n g root rd c lo ou → i + d = n → d < m → ∃ D2, t_X6_crossingAt_L7 F S (A 0) m D (zI x) (zI y) (nI i) = some (D2, "java/lang/IndexOutOfBoundsException") ∧ D2.2.2 = D.2.2 ∧ cPic S D2 A sg w n g root rd c lo ou := by
  intro d
  induction d with
  | zero =>
    intro m i D P hi hm
    obtain ⟨m, rfl⟩ : ∃ q, m = q + 1 := ⟨m - 1, by omega⟩
    have e : i = n := by omega
    subst e
    have hL := P.1
    have hl := P.2.1
    refine ⟨D, ?_, rfl, P⟩
    rw [t_X6_crossingAt_L7, ly_k hL 0 (by decide) (by decide), ly_r hL 0 0 1 (by decide), ly_k hL 1 (by decide) (by decide), k_size hL hl, cal_some, if_pos (Int32.le_refl _)]
  | succ d ih =>
    intro m i D P hi hm
    obtain ⟨m, rfl⟩ : ∃ q, m = q + 1 := ⟨m - 1, by omega⟩
    have hin : i < n := by omega
    have hL := P.1
    have hl := P.2.1
    have hn := P.2.2.1
    have hog := P.2.2.2.2.2.2.2.2.1.1
    rw [t_X6_crossingAt_L7, ly_k hL 0 (by decide) (by decide), ly_r hL 0 0 1 (by decide), ly_k hL 1 (by decide) (by decide), k_size hL hl, cal_some, if_neg (by rw [nI_leI (by omega) (by omega)]; omega), ly_r hL 0 0 1 (by decide), ly_k hL 1 (by decide) (by decide), k_lget hL hl hn hin, cal_some, ck_ok (hl.2.2.2.2 i hin).1, k_spans (hl.2.2.2.2 i hin) (hog i hin) (inR_32 hx), cal_some]
    cases hc : crZ (g i) x
    · rw [if_pos (show bI false = 0 from rfl)]
      unfold t_X6_crossingAt_b48
      rw [nI_1]
      exact ih m (i + 1) D P (by omega) (by omega)
    · obtain ⟨D2, p1, p9, p2⟩ := k_placeAt2 P hF hx hin hc
      have l1 := rk_bd (x := x) hin hc
      have l3 := cnt_le (fun i => crZ (g i) x) n
      have hne : ¬ nI (rkZ g x n i) = zI y := fun e => by
        rw [nI_zI] at e
        have e2 := (zI_eq (a := (rkZ g x n i : Int)) (b := y) ⟨by omega, by omega⟩ hy).mp e
        have : inB y (cnt (fun i => crZ (g i) x) n) = true := decide_eq_true ⟨by omega, by omega⟩
        rw [hr] at this; cases this
      rw [if_neg (show ¬ bI true = 0 by decide), p1, caM_some, if_neg hne]
      unfold t_X6_crossingAt_b48
      rw [nI_1]
      obtain ⟨D3, w1, w2, w3⟩ := ih m (i + 1) D2 p2 (by omega) (by omega)
      exact ⟨D3, w1, w2.trans p9, w3⟩
theorem tp_crossingAtB (P : cPic S D A sg w n g root rd c lo ou) (hF : 1000 ≤ F) {x y : Int} (hx : inR x) (hy : i32 y) (hr : inB y (cnt (fun i => crZ (g i) x) n) = false) :
    ∃ D2, t_X6_crossingAt F S D (A 0) (zI x) (zI y) = some (D2, "java/lang/IndexOutOfBoundsException") ∧ D2.2.2 = D.2.2 ∧ cPic S D2 A sg w n g root rd c lo ou := by
  have hn := P.2.2.1
  obtain ⟨D2, p1, p9, p2⟩ := t_caL (F := F) hF hx hy hr n F 0 D P (by omega) (by omega)
  refine ⟨D2, ?_, p9, p2⟩
  unfold t_X6_crossingAt
  rw [ly_k P.1 0 (by decide) (by decide), k_ckCo hx, thr_some]
  exact p1
theorem tp_crossingAtA (P : cPic S D A sg w n g root rd c lo ou) {x : Int} (hx : i32 x) (h : ¬ inR x) (y : Int32) : t_X6_crossingAt F S D (A 0) (zI x) y = some (D, "java/lang/IllegalArgumentException") := by
  obtain ⟨h1, h2⟩ := t_ckCo (F := F) (S := S) (D := D) hx h (A 0)
  unfold t_X6_crossingAt
  rw [ly_k P.1 0 (by decide) (by decide), h1, h2]
  rfl
theorem tp_addA (P : cPic S D A sg w n g root rd c lo ou) {x y x2 y2 : Int} (hx : i32 x) (hy : i32 y) (hx2 : i32 x2) (hy2 : i32 y2) (h : adP x y x2 y2 = false) : t_X6_add F S D (A 0) (zI x) (zI y) (zI x2) (zI y2) = some (D, "java/lang/IllegalArgumentException") := by
  have no : ∀ {v : Int}, i32 v → ¬ inR v → t_X6_checkCoordinate F S D (A 0) (zI v) = some (D, "java/lang/IllegalArgumentException") ∧ f_X6_checkCoordinate F S D (A 0) (zI v) = none := fun hv h => t_ckCo hv h (A 0)
  unfold t_X6_add
  rw [ly_k P.1 0 (by decide) (by decide)]
  by_cases a1 : inR x
  · rw [k_ckCo a1, thr_some]
    by_cases a2 : inR y
    · rw [k_ckCo a2, thr_some]
      by_cases a3 : inR x2
      · rw [k_ckCo a3, thr_some]
        by_cases a4 : inR y2
        · rw [k_ckCo a4, thr_some]
          unfold adP at h
          rw [show inP x = true from decide_eq_true a1, show inP y = true from decide_eq_true a2, show inP x2 = true from decide_eq_true a3, show inP y2 = true from decide_eq_true a4] at h
          simp only [Bool.true_and, Bool.not_eq_false', Bool.and_eq_true, decide_eq_true_eq] at h
          rw [if_pos (by rw [h.1]), if_pos (by rw [h.2])]
        · rw [(no hy2 a4).2, thr_none, (no hy2 a4).1]
      · rw [(no hx2 a3).2, thr_none, (no hx2 a3).1]
    · rw [(no hy a2).2, thr_none, (no hy a2).1]
  · rw [(no hx a1).2, thr_none, (no hx a1).1]
theorem tp_addS (P : cPic S D A sg w n g root rd c lo ou) {x y x2 y2 : Int} (h : adP x y x2 y2 = true) (hn : n = 12) : t_X6_add F S D (A 0) (zI x) (zI y) (zI x2) (zI y2) = some (D, "java/lang/IllegalStateException") := by
  obtain ⟨⟨a1, a2, a3, a4⟩, a5⟩ := adP_el h
  have hL := P.1
  have hl := P.2.1
  have b42 : t_X6_add_b42 F S (A 0) D = some (D, "java/lang/IllegalStateException") := by
    unfold t_X6_add_b42
    rw [ly_k hL 0 (by decide) (by decide), ly_r hL 0 0 1 (by decide), ly_k hL 1 (by decide) (by decide), k_size hL hl, cal_some, hn, if_neg (by decide)]
  unfold t_X6_add
  rw [ly_k P.1 0 (by decide) (by decide), k_ckCo a1, thr_some, k_ckCo a2, thr_some, k_ckCo a3, thr_some, k_ckCo a4, thr_some, b42]
  by_cases z1 : zI x = zI x2
  · rw [if_pos z1]
    have e1 := (zI_eq (inR_32 a1) (inR_32 a3)).mp z1
    rw [if_neg (fun z2 => a5 ⟨e1, (zI_eq (inR_32 a2) (inR_32 a4)).mp z2⟩)]
  · rw [if_neg z1]
end CAT
