/-! What the law's isAt comes to, the rest. -/
section IST2
variable {F : Nat} {S : CS} {D : CD} {A sg w : Nat → Nat} {n : Nat} {g : Nat → Sg} {root rd : Nat → Nat} {c : Nat} {lo ou : Nat → Nat} {gA mA : Nat}
theorem fc_lt (P : cPic S D A sg w n g root rd c lo ou) {s : Nat} (hs : s < 2 * (EE g n).1) : foF n g (EE g n) root rd c lo ou (rd s) < nFc n g root rd c := by
  have hH := P.2.2.2.2.2.2.2.2
  exact P.2.2.2.2.2.2.2.1.2.2.2.2.2 (rd s) (hH.2.2.2.2.2.1 s hs) rfl
theorem e_at438 (P : cPic S D A sg w n g root rd c lo ou) (k : CD → Nat → Int32 → Int32 → Int32 → Int32 → Int32 → Int32 → Option (CD × Int32)) (x3 : Int32) {f e : Nat} (hf : f < 2000000000) (he : e < (EE g n).1) {ob oa : Option Nat} (hob : ∀ k, ob = some k → k < 2000000000) (hoa : ∀ k, oa = some k → k < 2000000000) (sp : Bool) (h1 : ob = some (eS (EE g n) e) → sp = true → foF n g (EE g n) root rd c lo ou (rd (2 * e)) = f) (h2 : oa = some (eS (EE g n) e) → sp = true → foF n g (EE g n) root rd c lo ou (rd (2 * e + 1)) = f) :
    f_L_isAt_b438 F S k D (A 0) x3 (nI f) (oI ob) (oI oa) (nI e) (nI (eS (EE g n) e)) (bI sp) = k D (A 0) x3 (nI f) (oI ob) (oI oa) 1 (nI (e + 1)) := by
  have hn := P.2.2.1
  have hS : eS (EE g n) e < 2000000000 := by have := (P.2.2.2.2.2.2.2.2.2.1.1 e he).1; omega
  have k1 := nFc_le P
  have l1 := fc_lt P (s := 2 * e) (by omega)
  have l2 := fc_lt P (s := 2 * e + 1) (by omega)
  obtain ⟨e4, e5⟩ := k_lr (F := F) P he
  have b463 : f_L_isAt_b463 F S k D (A 0) x3 (nI f) (oI ob) (oI oa) (nI e) (nI (eS (EE g n) e)) (bI sp) = k D (A 0) x3 (nI f) (oI ob) (oI oa) 1 (nI (e + 1)) := by
    unfold f_L_isAt_b463 f_L_isAt_b491
    rw [nI_1]
    by_cases z : oa = some (eS (EE g n) e)
    · rw [if_pos ((oI_is hoa hS).mpr z)]
      cases sp
      · rw [if_pos (show bI false = 0 from rfl)]
      · rw [if_neg (show ¬ bI true = 0 by decide), ly_k P.1 0 (by decide) (by decide), e5, cal_some, h2 z rfl, if_pos rfl]
    · rw [if_neg (fun w => z ((oI_is hoa hS).mp w))]
  unfold f_L_isAt_b438
  rw [b463]
  by_cases z : ob = some (eS (EE g n) e)
  · rw [if_pos ((oI_is hob hS).mpr z)]
    cases sp
    · rw [if_pos (show bI false = 0 from rfl)]
    · rw [if_neg (show ¬ bI true = 0 by decide), ly_k P.1 0 (by decide) (by decide), e4, cal_some, h1 z rfl, if_pos rfl]
  · rw [if_neg (fun w => z ((oI_is hob hS).mp w))]
theorem e_at353 (P : cPic S D A sg w n g root rd c lo ou) {x : Int} (hx : inR x) {f : Nat} (hf : f < 2000000000) {ob oa : Option Nat} (hob : ∀ k, ob = some k → k < 2000000000) (hoa : ∀ k, oa = some k → k < 2000000000) (h1 : ∀ e, e < (EE g n).1 → ob = some (eS (EE g n) e) → spB false g n (EE g n) (x : Rat) e = true → foF n g (EE g n) root rd c lo ou (rd (2 * e)) = f) (h2 : ∀ e, e < (EE g n).1 → oa = some (eS (EE g n) e) → spB false g n (EE g n) (x : Rat) e = true → foF n g (EE g n) root rd c lo ou (rd (2 * e + 1)) = f) :
    ∀ (d m e : Nat), e + d = (EE g n).1 → d < m → f_L_isAt_L353 F S m D (A 0) (zI x) (nI f) (oI ob) (oI oa) 1 (nI e) = some (D, 1) := by
  obtain ⟨bV1, bE1⟩ := pic_V P
  obtain ⟨c1, c2, c3, c4⟩ := k_counts (F := F) P
  obtain ⟨x1, x2⟩ := hx
  intro d
  induction d with
  | zero =>
    intro m e he hm
    obtain ⟨m, rfl⟩ : ∃ q, m = q + 1 := ⟨m - 1, by omega⟩
    rw [f_L_isAt_L353, ly_k P.1 0 (by decide) (by decide), c2, cal_some, if_pos ((nI_leI (by omega) (by omega)).mpr (by omega))]
    rfl
  | succ d ih =>
    intro m e he hm
    obtain ⟨m, rfl⟩ : ∃ q, m = q + 1 := ⟨m - 1, by omega⟩
    have hlt : e < (EE g n).1 := by omega
    obtain ⟨e1, e2, e3⟩ := k_ends (F := F) P hlt
    obtain ⟨v1, v2⟩ := eF_lt P.2.2.2.2.2.2.2.2.2.1 hlt
    obtain ⟨k1, k2, k3, k4⟩ := k_coord (F := F) P v1
    obtain ⟨q1, q2, q3, q4⟩ := k_coord (F := F) P v2
    obtain ⟨⟨p1, p2⟩, p3⟩ := (vx_bV P v1).1
    obtain ⟨⟨r1, r2⟩, r3⟩ := (vx_bV P v2).1
    have m1 : -2000000 ≤ x * (((vI g n).2 (eF (EE g n) e)).1.den : Int) ∧ x * (((vI g n).2 (eF (EE g n) e)).1.den : Int) ≤ 2000000 := mul_bd (A := 100) (B := 20000) ⟨by omega, by omega⟩ ⟨by omega, by omega⟩
    have m2 : -2000000 ≤ x * (((vI g n).2 (eT (EE g n) e)).1.den : Int) ∧ x * (((vI g n).2 (eT (EE g n) e)).1.den : Int) ≤ 2000000 := mul_bd (A := 100) (B := 20000) ⟨by omega, by omega⟩ ⟨by omega, by omega⟩
    have go := ih m (e + 1) (by omega) (by omega)
    rw [f_L_isAt_L353, ly_k P.1 0 (by decide) (by decide), c2, cal_some, if_neg (fun w => by have := (nI_leI (a := (EE g n).1) (b := e) (by omega) (by omega)).mp w; omega), if_neg (by decide), e1, cal_some, e2, cal_some, k1, cal_some, cal_some, k2, cal_some, zI_long ⟨by omega, by omega⟩, zI_long ⟨by omega, by omega⟩, zI_long ⟨by omega, by omega⟩, zL_mul, zL_cmp (i64_of 4000000 (by omega) (by omega)) (i64_of 4000000 (by omega) (by omega))]
    have fl := rat_le (k := x) (r := ((vI g n).2 (eF (EE g n) e)).1)
    have tl := rat_le (k := x) (r := ((vI g n).2 (eT (EE g n) e)).1)
    by_cases z1 : ((vI g n).2 (eF (EE g n) e)).1.num ≤ x * (((vI g n).2 (eF (EE g n) e)).1.den : Int)
    · rw [if_neg (fun w => by have := cs_pos.mp w; omega), e3, cal_some, q1, cal_some, cal_some, q2, cal_some, zI_long ⟨by omega, by omega⟩, zI_long ⟨by omega, by omega⟩, zL_mul, zL_cmp (i64_of 4000000 (by omega) (by omega)) (i64_of 4000000 (by omega) (by omega))]
      by_cases z2 : ((vI g n).2 (eT (EE g n) e)).1.num ≤ x * (((vI g n).2 (eT (EE g n) e)).1.den : Int)
      · rw [if_pos (cs_le.mpr z2)]
        exact (e_at438 P _ (zI x) hf hlt hob hoa false (fun _ w => by cases w) (fun _ w => by cases w)).trans go
      · rw [if_neg (fun w => z2 (cs_le.mp w))]
        have hsp : spB false g n (EE g n) (x : Rat) e = true := spB_R.mpr ⟨fl.mpr z1, by have := mt tl.mp z2; grind⟩
        exact (e_at438 P _ (zI x) hf hlt hob hoa true (fun a _ => h1 e hlt a hsp) (fun a _ => h2 e hlt a hsp)).trans go
    · rw [if_pos (cs_pos.mpr (by omega))]
      exact (e_at438 P _ (zI x) hf hlt hob hoa false (fun _ w => by cases w) (fun _ w => by cases w)).trans go
/-- the point's own face, and what the law finds under and over it -/
theorem at_facts (P : cPic S D A sg w n g root rd c lo ou) {x y : Int} (hoff : anyN (fun i => onB (g i) (ptI x y)) n = false) :
    (fcO (fun s => foF n g (EE g n) root rd c lo ou (rd s)) (fL g (vI g n).2 (EE g n) (ptI x y) (EE g n).1) < nFc n g root rd c) ∧
    (fcO (fun s => foF n g (EE g n) root rd c lo ou (rd s)) (fL g (vI g n).2 (EE g n) (ptI x y) (EE g n).1) ≠ 0 → blwS g x y n ≠ none ∧ abvS g x y n ≠ none) ∧
    (∀ e, e < (EE g n).1 → blwS g x y n = some (eS (EE g n) e) → spB false g n (EE g n) (x : Rat) e = true → foF n g (EE g n) root rd c lo ou (rd (2 * e)) = fcO (fun s => foF n g (EE g n) root rd c lo ou (rd s)) (fL g (vI g n).2 (EE g n) (ptI x y) (EE g n).1)) ∧
    (∀ e, e < (EE g n).1 → abvS g x y n = some (eS (EE g n) e) → spB false g n (EE g n) (x : Rat) e = true → foF n g (EE g n) root rd c lo ou (rd (2 * e + 1)) = fcO (fun s => foF n g (EE g n) root rd c lo ou (rd s)) (fL g (vI g n).2 (EE g n) (ptI x y) (EE g n).1)) := by
  have h := P.2.2.2.2.2.2.2.2
  have hp : ∀ i, i < n → ¬ onS (g i) ((x : Rat), (y : Rat)) := fun i hi ho => by
    have : anyN (fun i => onB (g i) (ptI x y)) n = true := anyN_iff.mpr ⟨i, hi, by rw [ptI_eq]; exact onB_iff.mpr ho⟩
    rw [hoff] at this; cases this
  have hL := cls_top h.1 h.2.1 (ptI x y)
  rw [ptI_eq] at hL ⊢
  have lr : ∀ o', topE false g n (EE g n) ((x : Rat), (y : Rat)) o' → fcO (fun s => foF n g (EE g n) root rd c lo ou (rd s)) (fL g (vI g n).2 (EE g n) ((x : Rat), (y : Rat)) (EE g n).1) = fcO (fun s => foF n g (EE g n) root rd c lo ou (rd s)) o' := fun o' ho' =>
    left_right h.1 h.2.1 h.2.2.1 h.2.2.2.1 (fc := fun s => foF n g (EE g n) root rd c lo ou (rd s)) (fo_nxt h) h.2.2.2.2.1 (fc_roots h) hp hL ho'
  obtain ⟨oR, hR, -⟩ := ref_top h.1 h.2.1 false ((x : Rat), (y : Rat))
  refine ⟨?_, fun hne => ⟨fun hb => ?_, fun ha => ?_⟩, fun e he hb hs => ?_, fun e he ha hs => ?_⟩
  · cases ho : fL g (vI g n).2 (EE g n) ((x : Rat), (y : Rat)) (EE g n).1 with
    | none => show 0 < 1 + _; omega
    | some e =>
      rw [ho] at hL
      exact fc_lt P (s := 2 * e) (by have := hL.1; omega)
  · exact hne (lr none (top_none h.1 h.2.1 hb))
  · rw [lr oR hR] at hne
    exact hne (abv_none h ha hR)
  · rw [lr (some e) (top_blw h.1 h.2.1 he hs hb)]; rfl
  · rw [lr oR hR]
    exact abv_right h hp he hs ha hR
theorem e_at21 (P : cPic S D A sg w n g root rd c lo ou) (hF : 1000 ≤ F) (hg : gOn S gA) (hm : mOn S mA) (hr : ∀ i, i < n → rowG D gA i (g i)) (hmn : D.2.2.1 mA 0 = nI n) {x y : Int} (hx : inR x) (hy : inR y) :
    ∀ (d m i : Nat), i + d = n → d < m → f_L_isAt_L21 F S m D (A 0) gA mA (zI x) (zI y) (if anyN (fun i => onB (g i) (ptI x y)) n then -1 else nI (fcO (fun s => foF n g (EE g n) root rd c lo ou (rd s)) (fL g (vI g n).2 (EE g n) (ptI x y) (EE g n).1))) (bI (anyN (fun i => onB (g i) (ptI x y)) i)) (oI (blwS g x y i)) (oI (abvS g x y i)) (nI i) = some (D, 1) := by
  have hn := P.2.2.1
  have hok := P.2.2.2.2.2.2.2.2.1.1
  obtain ⟨bV1, bE1⟩ := pic_V P
  obtain ⟨c1, c2, c3, c4⟩ := k_counts (F := F) P
  have k1 := nFc_le P
  have c3 : f_X6_faces F S D (A 0) = some (nI (nFc n g root rd c)) := c3
  intro d
  induction d with
  | zero =>
    intro m i hi hm2
    obtain ⟨m, rfl⟩ : ∃ q, m = q + 1 := ⟨m - 1, by omega⟩
    have e : i = n := by omega
    subst e
    have hb := (blw_ok (g := g) x y i).2
    have ha := (abv_ok (g := g) x y i).2
    have hlb : ∀ k, blwS g x y i = some k → k < 2000000000 := fun k hk => by have := (hb k hk).1; omega
    have hla : ∀ k, abvS g x y i = some k → k < 2000000000 := fun k hk => by have := (ha k hk).1; omega
    rw [f_L_isAt_L21, ck_ok hm.1, m_rd hm, hmn, if_pos (Int32.le_refl _)]
    cases ho : anyN (fun j => onB (g j) (ptI x y)) i
    · obtain ⟨f1, f2, f3, f4⟩ := at_facts P ho
      rw [if_pos (show bI false = 0 from rfl), if_neg Bool.false_ne_true, if_neg (nI_pos (by omega)), ly_k P.1 0 (by decide) (by decide), c3, cal_some, if_neg (fun w => by have := (nI_leI (by omega) (by omega)).mp w; omega)]
      have fin := e_at353 (F := F) P hx (f := fcO (fun s => foF i g (EE g i) root rd c lo ou (rd s)) (fL g (vI g i).2 (EE g i) (ptI x y) (EE g i).1)) (by omega) hlb hla f3 f4 (EE g i).1 F 0 (by omega) (by omega)
      by_cases z : fcO (fun s => foF i g (EE g i) root rd c lo ou (rd s)) (fL g (vI g i).2 (EE g i) (ptI x y) (EE g i).1) = 0
      · rw [if_pos (by rw [z]; rfl)]; exact fin
      · obtain ⟨n1, n2⟩ := f2 z
        have hz : ¬ nI (fcO (fun s => foF i g (EE g i) root rd c lo ou (rd s)) (fL g (vI g i).2 (EE g i) (ptI x y) (EE g i).1)) = 0 := fun w => z ((nI_eq (b := 0) (by omega) (by omega)).mp w)
        rw [if_neg hz, if_neg (fun w => n1 ((oI_lt0 _ hlb).mp w)), if_neg (fun w => n2 ((oI_lt0 _ hla).mp w))]
        exact fin
    · rw [if_neg (show ¬ bI true = 0 by decide), if_pos rfl, if_pos rfl]; rfl
  | succ d ih =>
    intro m i hi hm2
    obtain ⟨m, rfl⟩ : ∃ q, m = q + 1 := ⟨m - 1, by omega⟩
    have hin : i < n := by omega
    have go := ih m (i + 1) (by omega) (by omega)
    rw [anyN] at go
    have hri := hr i hin
    have ha := hok i hin
    have b1 := hZ_bd ha hx
    have hdb := dX_bd ha
    have hx0 := hx
    have hy0 := hy
    obtain ⟨x1, x2⟩ := hx
    obtain ⟨y1, y2⟩ := hy
    have b2 : -10000 ≤ y * dX (g i) ∧ y * dX (g i) ≤ 10000 := mul_bd (A := 100) (B := 100) ⟨by omega, by omega⟩ hdb
    have step : ∀ h : Bool, h = onB (g i) (ptI x y) → f_L_isAt_b132 F S (f_L_isAt_L21 F S m) D (A 0) gA mA (zI x) (zI y) (if anyN (fun i => onB (g i) (ptI x y)) n then -1 else nI (fcO (fun s => foF n g (EE g n) root rd c lo ou (rd s)) (fL g (vI g n).2 (EE g n) (ptI x y) (EE g n).1))) (bI (anyN (fun i => onB (g i) (ptI x y)) i)) (oI (blwS g x y i)) (oI (abvS g x y i)) (nI i) (bI h) = some (D, 1) := fun h hh => by
      rw [e_at132, hh, e_at149 hg hri (by omega) ha _ _ hx0, e_at189 hg hri (by omega) ha _ _ hx0 hy0, e_at222 hg hr hok hn hin _ _ hx0, e_at253 hg hr hok hn hin _ _ hx0]
      unfold f_L_isAt_b289
      rw [nI_1]
      exact go
    obtain ⟨r0, r1, r2, r3⟩ := hri
    obtain ⟨⟨⟨a1, a2⟩, ⟨a3, a4⟩, ⟨a5, a6⟩, a7, a8⟩, -⟩ := id ha
    have i0 : i32 (sX (g i)) := ⟨by omega, by omega⟩
    have i1 : i32 (sY (g i)) := ⟨by omega, by omega⟩
    have i2 : i32 (eX (g i)) := ⟨by omega, by omega⟩
    have i3 : i32 (eY (g i)) := ⟨by omega, by omega⟩
    have ix : i32 x := ⟨by omega, by omega⟩
    have iy : i32 y := ⟨by omega, by omega⟩
    rw [f_L_isAt_L21, ck_ok hm.1, m_rd hm, hmn, if_neg (fun w => by have := (nI_leI (a := n) (b := i) (by omega) (by omega)).mp w; omega), e_Ldx hg (hr i hin) (by omega) ha, cal_some, zL_cmp0 (i64_of 100 hdb (by omega))]
    by_cases c0 : dX (g i) = 0
    · have hv := here_v ha c0 x y
      rw [if_pos (cs_eq.mpr c0), ck_ok hg.1, ix1, ix3, ix0, g_rd hg (by omega), r0]
      by_cases d0 : sX (g i) = x
      · rw [if_pos (by rw [d0]), g_rd hg (by omega), r1]
        rw [decide_eq_true d0, Bool.true_and] at hv
        by_cases d1 : sY (g i) ≤ y
        · rw [if_neg (fun w => by have := (zI_lt iy i1).mp w; omega), g_rd hg (by omega), r3]
          rw [decide_eq_true d1, Bool.true_and] at hv
          by_cases d2 : y ≤ eY (g i)
          · rw [if_neg (fun w => by have := (zI_lt i3 iy).mp w; omega)]
            exact step true (by rw [hv, decide_eq_true d2])
          · rw [if_pos ((zI_lt i3 iy).mpr (by omega))]
            exact step false (by rw [hv, decide_eq_false d2])
        · rw [if_pos ((zI_lt iy i1).mpr (by omega))]
          exact step false (by rw [hv, decide_eq_false d1]; rfl)
      · rw [if_neg (fun w => d0 ((zI_eq i0 ix).mp w))]
        exact step false (by rw [hv, decide_eq_false d0]; rfl)
    · have dz := dirZ ha
      have hv := here_h ha (show 0 < dX (g i) by omega) x y
      rw [if_neg (fun w => c0 (cs_eq.mp w)), ck_ok hg.1, ix2, ix0, g_rd hg (by omega), r0]
      by_cases d0 : sX (g i) ≤ x
      · rw [if_neg (fun w => by have := (zI_lt ix i0).mp w; omega), g_rd hg (by omega), r2]
        rw [decide_eq_true d0, Bool.true_and] at hv
        by_cases d1 : x ≤ eX (g i)
        · rw [if_neg (fun w => by have := (zI_lt i2 ix).mp w; omega), e_Lheight hg (hr i hin) (by omega) ha hx0, cal_some, cal_some, zI_long iy, zL_mul, zL_cmp (i64_of 20000 b1 (by omega)) (i64_of 10000 b2 (by omega))]
          rw [decide_eq_true d1, Bool.true_and] at hv
          by_cases d2 : hZ (g i) x = y * dX (g i)
          · rw [if_pos (cs_eq.mpr d2)]
            exact step true (by rw [hv, decide_eq_true d2])
          · rw [if_neg (fun w => d2 (cs_eq.mp w))]
            exact step false (by rw [hv, decide_eq_false d2])
        · rw [if_pos ((zI_lt i2 ix).mpr (by omega))]
          exact step false (by rw [hv, decide_eq_false d1]; rfl)
      · rw [if_pos ((zI_lt ix i0).mpr (by omega))]
        exact step false (by rw [hv, decide_eq_false d0]; rfl)
theorem e_LisAt (P : cPic S D A sg w n g root rd c lo ou) (hF : 1000 ≤ F) (hg : gOn S gA) (hm : mOn S mA) (hr : ∀ i, i < n → rowG D gA i (g i)) (hmn : D.2.2.1 mA 0 = nI n) {x y : Int} (hx : inR x) (hy : inR y) :
    ∃ D2, f_L_isAt F S D (A 0) gA mA (zI x) (zI y) = some (D2, 1) ∧ D2.2.2 = D.2.2 ∧ cPic S D2 A sg w n g root rd c lo ou := by
  obtain ⟨D2, p1, p2, p3⟩ := k_faceAt2 (F := F) P hF hx hy
  refine ⟨D2, ?_, p2, p3⟩
  unfold f_L_isAt
  rw [ly_k P.1 0 (by decide) (by decide), p1, caM_some]
  exact e_at21 p3 hF hg hm (fun i hi => by unfold rowG; rw [p2]; exact hr i hi) (by rw [p2]; exact hmn) hx hy n F 0 (by omega) (by have := P.2.2.1; omega)
end IST2
