/-! What the law's areVertices comes to. -/
theorem th1_of {E : String} {r : Int32} {D : CD} : th1 E r (some (D, E)) = some (D, r) := by
  show (if E = E then _ else _) = _
  rw [if_pos rfl]
theorem two_nI (k : Nat) : 2 * nI k = nI (2 * k) := by
  rw [nI_zI, nI_zI]; show zI 2 * zI k = _; rw [zI_mul]; congr 1
theorem r_int {r : Rat} {x : Int} : r = (x : Rat) ↔ x = r.num ∧ r.den = 1 := by
  constructor
  · intro h; rw [h]; exact ⟨(int_num x).1.symm, (int_num x).2⟩
  · rintro ⟨h1, h2⟩
    rw [rat_eq_iff, (int_num x).1, (int_num x).2, h1, h2]
theorem end_iff (s : Sg) (p : Pt) : endB s p = (decide (p.1.den = 1) && (decide (p.2.den = 1) && ((decide (sX s = p.1.num) && decide (sY s = p.2.num)) || (decide (eX s = p.1.num) && decide (eY s = p.2.num))))) := by
  have e : ∀ x y : Int, p = ((x : Rat), (y : Rat)) ↔ (p.1.den = 1 ∧ p.2.den = 1) ∧ (x = p.1.num ∧ y = p.2.num) := fun x y => by
    constructor
    · intro h
      have h1 : p.1 = (x : Rat) := congrArg Prod.fst h
      have h2 : p.2 = (y : Rat) := congrArg Prod.snd h
      have h1 := r_int.mp h1
      have h2 := r_int.mp h2
      exact ⟨⟨h1.2, h2.2⟩, h1.1, h2.1⟩
    · rintro ⟨⟨h1, h2⟩, h3, h4⟩
      exact Prod.ext (r_int.mpr ⟨h3, h1⟩) (r_int.mpr ⟨h4, h2⟩)
  have e1 := e (sX s) (sY s)
  have e2 := e (eX s) (eY s)
  unfold endB
  rw [Bool.eq_iff_iff, Bool.or_eq_true, decide_eq_true_eq, decide_eq_true_eq, Bool.and_eq_true, Bool.and_eq_true, Bool.or_eq_true, Bool.and_eq_true, Bool.and_eq_true, decide_eq_true_eq, decide_eq_true_eq, decide_eq_true_eq, decide_eq_true_eq, decide_eq_true_eq, decide_eq_true_eq]
  show (p = ((sX s : Rat), (sY s : Rat)) ∨ p = ((eX s : Rat), (eY s : Rat))) ↔ _
  rw [e1, e2]
  constructor
  · rintro (⟨⟨h1, h2⟩, h3⟩ | ⟨⟨h1, h2⟩, h3⟩)
    · exact ⟨h1, h2, Or.inl h3⟩
    · exact ⟨h1, h2, Or.inr h3⟩
  · rintro ⟨h1, h2, h3 | h3⟩
    · exact Or.inl ⟨⟨h1, h2⟩, h3⟩
    · exact Or.inr ⟨⟨h1, h2⟩, h3⟩
section AVX
variable {F : Nat} {S : CS} {D : CD} {A sg w : Nat → Nat} {n : Nat} {g : Nat → Sg} {root rd : Nat → Nat} {c : Nat} {lo ou : Nat → Nat} {gA mA : Nat}
theorem e_Lav152 {k45 : CD → Nat → Nat → Nat → Int32 → Int32 → Int32 → Option (CD × Int32)} {k68 : CD → Nat → Nat → Nat → Int32 → Int32 → Int32 → Int32 → Int32 → Option (CD × Int32)} (P : cPic S D A sg w n g root rd c lo ou) (hg : gOn S gA) {i v : Nat} {a : Sg} (hr : rowG D gA i a) (hi : i < 13) (ha : sOk a) (hv : v < (vI g n).1) (x3 x6 x7 : Int32) :
    f_L_areVertices_b152 F S k45 k68 D (A 0) gA mA x3 (nI v) x6 (nI i) x7 = k68 D (A 0) gA mA x3 (nI v) x6 (x7 + bI (decide (eX a = ((vI g n).2 v).1.num) && decide (eY a = ((vI g n).2 v).2.num))) (nI i + 1) := by
  obtain ⟨k1, k2, k3, k4⟩ := k_coord (F := F) P hv
  obtain ⟨⟨⟨p1, p2⟩, p3⟩, ⟨p4, p5⟩, p6⟩ := vx_bV P hv
  obtain ⟨r0, r1, r2, r3⟩ := hr
  obtain ⟨⟨⟨a1, a2⟩, ⟨a3, a4⟩, ⟨a5, a6⟩, a7, a8⟩, -⟩ := ha
  have e1 : zI (eX a) = zI ((vI g n).2 v).1.num ↔ _ := zI_eq ⟨by omega, by omega⟩ ⟨by omega, by omega⟩
  have e2 : zI (eY a) = zI ((vI g n).2 v).2.num ↔ _ := zI_eq ⟨by omega, by omega⟩ ⟨by omega, by omega⟩
  unfold f_L_areVertices_b152
  rw [ck_ok hg.1, ix2, ix3, g_rd hg (by omega), r2, ly_k P.1 0 (by decide) (by decide), k1, cal_some]
  by_cases z1 : eX a = ((vI g n).2 v).1.num
  · rw [if_pos (e1.mpr z1), decide_eq_true z1, Bool.true_and, g_rd hg (by omega), r3, k3, cal_some]
    by_cases z2 : eY a = ((vI g n).2 v).2.num
    · rw [if_pos (e2.mpr z2), decide_eq_true z2]; rfl
    · rw [if_neg (mt e2.mp z2), decide_eq_false z2]; rfl
  · rw [if_neg (mt e1.mp z1), decide_eq_false z1]; rfl
theorem e_Lav95 {k45 : CD → Nat → Nat → Nat → Int32 → Int32 → Int32 → Option (CD × Int32)} {k68 : CD → Nat → Nat → Nat → Int32 → Int32 → Int32 → Int32 → Int32 → Option (CD × Int32)} (P : cPic S D A sg w n g root rd c lo ou) (hg : gOn S gA) {i v : Nat} {a : Sg} (hr : rowG D gA i a) (hi : i < 13) (ha : sOk a) (hv : v < (vI g n).1) (x3 x6 x7 s0 : Int32) :
    f_L_areVertices_b95 F S k45 k68 D (A 0) gA mA x3 (nI v) x7 (nI i) s0 x6 = k68 D (A 0) gA mA x3 (nI v) (x6 + s0) (x7 + bI (endB a ((vI g n).2 v))) (nI i + 1) := by
  obtain ⟨k1, k2, k3, k4⟩ := k_coord (F := F) P hv
  have h152 := e_Lav152 (F := F) (k45 := k45) (k68 := k68) (mA := mA) P hg hr hi ha hv x3 (x6 + s0) x7
  obtain ⟨⟨⟨p1, p2⟩, p3⟩, ⟨p4, p5⟩, p6⟩ := vx_bV P hv
  obtain ⟨r0, r1, r2, r3⟩ := hr
  obtain ⟨⟨⟨a1, a2⟩, ⟨a3, a4⟩, ⟨a5, a6⟩, a7, a8⟩, -⟩ := ha
  have e1 : zI (sX a) = zI ((vI g n).2 v).1.num ↔ _ := zI_eq ⟨by omega, by omega⟩ ⟨by omega, by omega⟩
  have e2 : zI (sY a) = zI ((vI g n).2 v).2.num ↔ _ := zI_eq ⟨by omega, by omega⟩ ⟨by omega, by omega⟩
  have e3 : zI (((vI g n).2 v).1.den : Int) = zI 1 ↔ _ := zI_eq ⟨by omega, by omega⟩ ⟨by omega, by omega⟩
  have e4 : zI (((vI g n).2 v).2.den : Int) = zI 1 ↔ _ := zI_eq ⟨by omega, by omega⟩ ⟨by omega, by omega⟩
  rw [end_iff]
  unfold f_L_areVertices_b95
  rw [ly_k P.1 0 (by decide) (by decide), k2, cal_some]
  by_cases z3 : ((vI g n).2 v).1.den = 1
  · rw [if_pos (show zI (((vI g n).2 v).1.den : Int) = 1 from e3.mpr (by omega)), decide_eq_true z3, Bool.true_and, k4, cal_some]
    by_cases z4 : ((vI g n).2 v).2.den = 1
    · rw [if_pos (show zI (((vI g n).2 v).2.den : Int) = 1 from e4.mpr (by omega)), decide_eq_true z4, Bool.true_and, ck_ok hg.1, ix1, ix0, g_rd hg (by omega), r0, k1, cal_some]
      by_cases z1 : sX a = ((vI g n).2 v).1.num
      · rw [if_pos (e1.mpr z1), decide_eq_true z1, Bool.true_and, g_rd hg (by omega), r1, k3, cal_some]
        by_cases z2 : sY a = ((vI g n).2 v).2.num
        · rw [if_pos (e2.mpr z2), decide_eq_true z2]; rfl
        · rw [if_neg (mt e2.mp z2), decide_eq_false z2, Bool.false_or]; exact h152
      · rw [if_neg (mt e1.mp z1), decide_eq_false z1, Bool.false_and, Bool.false_or]; exact h152
    · rw [if_neg (show ¬ zI (((vI g n).2 v).2.den : Int) = 1 from fun w => z4 (by have := e4.mp w; omega)), decide_eq_false z4]; rfl
  · rw [if_neg (show ¬ zI (((vI g n).2 v).1.den : Int) = 1 from fun w => z3 (by have := e3.mp w; omega)), decide_eq_false z3]; rfl
theorem e_Lav277 {k45 : CD → Nat → Nat → Nat → Int32 → Int32 → Int32 → Option (CD × Int32)} (P : cPic S D A sg w n g root rd c lo ou) {v : Nat} (hv : v < (vI g n).1) (x3 : Int32) :
    f_L_areVertices_b277 F S k45 D (A 0) gA mA x3 (nI v) 1 = k45 D (A 0) gA mA x3 1 (nI v + 1) := by
  obtain ⟨bV1, bE1⟩ := pic_V P
  unfold f_L_areVertices_b277 f_L_areVertices_b391
  rw [if_neg (by decide)]
  by_cases h0 : v = 0
  · rw [if_pos (by rw [h0]; decide)]
  · have hz : ¬ nI v ≤ 0 := fun w => by
      rw [nI_zI] at w
      have := (zI_le0 (a := (v : Int)) ⟨by omega, by omega⟩).mp w; omega
    have e1 : nI v - 1 = nI (v - 1) := by
      rw [nI_zI, nI_zI]; show zI v - zI 1 = _; rw [zI_sub]; congr 1; omega
    have hv' : v - 1 < (vI g n).1 := by omega
    obtain ⟨k1, k2, k3, k4⟩ := k_coord (F := F) P hv
    obtain ⟨q1, q2, q3, q4⟩ := k_coord (F := F) P hv'
    have hlt := (vI_good P.2.2.2.2.2.2.2.2.1.1 n (Nat.le_refl _)).1 (v - 1) v (by omega) hv
    obtain ⟨⟨⟨p1, p2⟩, p3⟩, ⟨p4, p5⟩, p6⟩ := vx_bV P hv
    obtain ⟨⟨⟨w1, w2⟩, w3⟩, ⟨w4, w5⟩, w6⟩ := vx_bV P hv'
    generalize (vI g n).2 v = V at *
    generalize (vI g n).2 (v - 1) = U at *
    have d1 : (0 : Int) ≤ (V.1.den : Int) := Int.natCast_nonneg _
    have d2 : (0 : Int) ≤ (V.2.den : Int) := Int.natCast_nonneg _
    have d3 : (0 : Int) ≤ (U.1.den : Int) := Int.natCast_nonneg _
    have d4 : (0 : Int) ≤ (U.2.den : Int) := Int.natCast_nonneg _
    have m1 := mul_bd (a := V.1.num) (b := (U.1.den : Int)) (A := 4000000) (B := 20000) ⟨by omega, by omega⟩ ⟨by omega, by omega⟩
    have m2 := mul_bd (a := U.1.num) (b := (V.1.den : Int)) (A := 4000000) (B := 20000) ⟨by omega, by omega⟩ ⟨by omega, by omega⟩
    have m3 := mul_bd (a := V.2.num) (b := (U.2.den : Int)) (A := 4000000) (B := 20000) ⟨by omega, by omega⟩ ⟨by omega, by omega⟩
    have m4 := mul_bd (a := U.2.num) (b := (V.2.den : Int)) (A := 4000000) (B := 20000) ⟨by omega, by omega⟩ ⟨by omega, by omega⟩
    rw [if_neg hz, e1, ly_k P.1 0 (by decide) (by decide), k1, cal_some, q2, cal_some, q1, cal_some, k2, cal_some, k3, cal_some, q4, cal_some, q3, cal_some, k4, cal_some]
    rw [zI_long ⟨by omega, by omega⟩, zI_long ⟨by omega, by omega⟩, zI_long ⟨by omega, by omega⟩, zI_long ⟨by omega, by omega⟩, zI_long ⟨by omega, by omega⟩, zI_long ⟨by omega, by omega⟩, zI_long ⟨by omega, by omega⟩, zI_long ⟨by omega, by omega⟩, zL_mul, zL_mul, zL_mul, zL_mul, zL_sub, zL_sub, zL_cmp0 (i64_of 400000000000 (by omega) (by omega)), zL_cmp0 (i64_of 400000000000 (by omega) (by omega))]
    rcases hlt with h | ⟨h1, h2⟩
    · rw [Rat.lt_iff] at h
      rw [if_pos (cs_pos.mpr (by omega))]
    · rw [rat_eq_iff] at h1
      rw [Rat.lt_iff] at h2
      rw [if_neg (fun w => by have := cs_pos.mp w; omega), if_pos (cs_eq.mpr (by omega)), if_neg (fun w => by have := cs_le.mp w; omega)]
theorem e_LareVertices (P : cPic S D A sg w n g root rd c lo ou) (hF : 4000001 ≤ F) (hg : gOn S gA) (hm : mOn S mA) (hr : ∀ i, i < n → rowG D gA i (g i)) (hn0 : D.2.2.1 mA 0 = nI n) : f_L_areVertices F S D (A 0) gA mA = some (D, 1) := by
  obtain ⟨bV1, bE1⟩ := pic_V P
  have hn := P.2.2.1
  have hgo := P.2.2.2.2.2.2.2.2.1
  have hE := (EE_facts hgo hn).2.2.1
  obtain ⟨c1, c2, c3, c4⟩ := k_counts (F := F) P
  have hm0 : ∀ {α : Type} {f : Int32 → Option α}, rdI (S.2.2.2 mA) (D.2.2.1 mA) 0 f = f (nI n) := fun {α} {f} => by rw [m_rd hm, hn0]
  have L68 : ∀ (k45 : CD → Nat → Nat → Nat → Int32 → Int32 → Int32 → Option (CD × Int32)) (v : Nat) (x3 : Int32), v < (vI g n).1 → ∀ (d m i : Nat), i + d = n → d < m → f_L_areVertices_L68 F S k45 m D (A 0) gA mA x3 (nI v) (nI (cnt (fun i => onB (g i) ((vI g n).2 v)) i)) (nI (cnt (fun i => endB (g i) ((vI g n).2 v)) i)) (nI i) = k45 D (A 0) gA mA (x3 + nI (atC (EE g n) v)) 1 (nI v + 1) := by
    intro k45 v x3 hv d
    induction d with
    | zero =>
      intro m i hi hm2
      obtain ⟨m, rfl⟩ : ∃ q, m = q + 1 := ⟨m - 1, by omega⟩
      have e : i = n := by omega
      subst e
      obtain ⟨k1, k2, k3, k4⟩ := k_coord (F := F) P hv
      obtain ⟨b1, b2⟩ := vx_bd hgo hv
      obtain ⟨v1, v2⟩ := vx_bV P hv
      have hd := deg_ok hgo hE hv
      have ht := vx_two hgo hv
      have l1 := cnt_le (fun j => onB (g j) ((vI g i).2 v)) i
      have l2 := cnt_le (fun j => endB (g j) ((vI g i).2 v)) i
      rw [f_L_areVertices_L68, ck_ok hm.1, hm0, if_pos (Int32.le_refl _), ly_k P.1 0 (by decide) (by decide), k_degree P hv, cal_some, k1, cal_some, k2, cal_some, e_LisLowest hF b1.1 b1.2 v1, cal_some, if_neg (by decide), k3, cal_some, k4, cal_some, e_LisLowest hF b2.1 b2.2 v2, cal_some, if_neg (by decide), cal_some]
      generalize cnt (fun j => onB (g j) ((vI g i).2 v)) i = p1 at *
      generalize cnt (fun j => endB (g j) ((vI g i).2 v)) i = p2 at *
      have ed : nI (atC (EE g i) v) = 2 * nI p1 - nI p2 := by
        rw [two_nI, nI_zI, nI_zI, nI_zI, zI_sub]; congr 1; omega
      have h277 := e_Lav277 (F := F) (gA := gA) (mA := mA) (k45 := k45) P hv (x3 + nI (atC (EE g i) v))
      rw [if_pos ed]
      by_cases q : 0 < p2
      · rw [if_pos (by rw [nI_zI]; show zI 0 < _; exact (zI_lt ⟨by omega, by omega⟩ ⟨by omega, by omega⟩).mpr (by omega))]
        exact h277
      · rw [if_neg (show ¬ (0 : Int32) < nI p2 from fun w => by rw [nI_zI] at w; have := (zI_lt (a := 0) (b := (p2 : Int)) ⟨by omega, by omega⟩ ⟨by omega, by omega⟩).mp w; omega), if_neg (show ¬ nI p1 ≤ 1 from fun w => by rw [nI_zI] at w; have := (zI_le (a := (p1 : Int)) (b := 1) ⟨by omega, by omega⟩ ⟨by omega, by omega⟩).mp w; omega)]
        exact h277
    | succ d ih =>
      intro m i hi hm2
      obtain ⟨m, rfl⟩ : ∃ q, m = q + 1 := ⟨m - 1, by omega⟩
      have hin : i < n := by omega
      have go := ih m (i + 1) (by omega) (by omega)
      rw [cnt, cnt] at go
      have h95 := fun s0 x6 x7 => e_Lav95 (F := F) (k45 := k45) (k68 := f_L_areVertices_L68 F S k45 m) (mA := mA) P hg (hr i hin) (by omega) (hgo.1 i hin) hv x3 x6 x7 s0
      rw [f_L_areVertices_L68, ck_ok hm.1, hm0, if_neg (fun w => by have := (nI_leI (a := n) (b := i) (by omega) (by omega)).mp w; omega), e_LisOn P hg (hr i hin) (by omega) (hgo.1 i hin) hv, cal_some]
      have eb : ∀ (k : Nat) (b : Bool), nI k + bI b = nI (k + if b = true then 1 else 0) := fun k b => by
        cases b
        · show nI k + 0 = nI k
          exact Int32.add_zero _
        · show nI k + 1 = nI (k + 1)
          exact nI_1 k
      cases ho : onB (g i) ((vI g n).2 v)
      · rw [if_pos (show bI false = 0 from rfl), h95, show (0 : Int32) = bI false from rfl, eb, eb, nI_1]
        rw [ho] at go
        exact go
      · rw [if_neg (show ¬ bI true = 0 by decide), h95, show (1 : Int32) = bI true from rfl, eb, eb, show bI true = (1 : Int32) from rfl, nI_1]
        rw [ho] at go
        exact go
  have hds := deg_sum (g := g) (n := n) hE
  have nmono : ∀ k, k ≤ (vI g n).1 → nsm (fun v => atC (EE g n) v) k ≤ nsm (fun v => atC (EE g n) v) (vI g n).1 := by
    intro k hk
    obtain ⟨d, hd⟩ : ∃ d, (vI g n).1 = k + d := ⟨_, (Nat.add_sub_cancel' hk).symm⟩
    rw [hd]
    clear hd
    induction d with
    | zero => exact Nat.le_refl _
    | succ d ih => exact Nat.le_trans ih (by show _ ≤ nsm _ (k + d + 1); rw [nsm]; omega)
  have L45 : ∀ (d m v : Nat), v + d = (vI g n).1 → d < m → f_L_areVertices_L45 F S m D (A 0) gA mA (nI (nsm (fun v => atC (EE g n) v) v)) 1 (nI v) = some (D, 1) := by
    intro d
    induction d with
    | zero =>
      intro m v hv hm2
      obtain ⟨m, rfl⟩ : ∃ q, m = q + 1 := ⟨m - 1, by omega⟩
      have e : v = (vI g n).1 := by omega
      rw [f_L_areVertices_L45, ly_k P.1 0 (by decide) (by decide), c1, cal_some, if_pos ((nI_leI (by omega) (by omega)).mpr (by omega))]
      unfold f_L_areVertices_b397
      rw [if_neg (by decide), ly_k P.1 0 (by decide) (by decide), c2, cal_some, e, hds, two_nI, if_pos rfl]
      rfl
    | succ d ih =>
      intro m v hv hm2
      obtain ⟨m, rfl⟩ : ∃ q, m = q + 1 := ⟨m - 1, by omega⟩
      have hlt : v < (vI g n).1 := by omega
      have go := ih m (v + 1) (by omega) (by omega)
      rw [nsm] at go
      have l68 := L68 (f_L_areVertices_L45 F S m) v (nI (nsm (fun v => atC (EE g n) v) v)) hlt n F 0 (by omega) (by omega)
      rw [f_L_areVertices_L45, ly_k P.1 0 (by decide) (by decide), c1, cal_some, if_neg (fun w => by have := (nI_leI (a := (vI g n).1) (b := v) (by omega) (by omega)).mp w; omega), if_neg (by decide)]
      refine Eq.trans l68 ?_
      rw [ixk, nI_1]
      first | exact go | (rw [Nat.add_comm] at go; exact go)
  have hrem : nI n - nI n / 5 * 5 = nI (n % 5) := pk_rem (a := n) (d := 5) (by omega) (by decide) (by decide)
  have bad : inB ((vI g n).1 : Int) (vI g n).1 = false := decide_eq_false (by omega)
  have bad2 : inB (-1) (vI g n).1 = false := decide_eq_false (by omega)
  have of1 : f_L_of F S D (A 0) (1 + nI (n % 5)) (nI (vI g n).1) = some (D, -601) := by
    have h5 : n % 5 = 0 ∨ n % 5 = 1 ∨ n % 5 = 2 ∨ n % 5 = 3 ∨ n % 5 = 4 := by omega
    unfold f_L_of
    rw [ly_k P.1 0 (by decide) (by decide), nI_zI (vI g n).1]
    rcases h5 with h | h | h | h | h <;> rw [h]
    · rw [if_neg (by decide), if_pos (by decide), tp_xNumerator P ⟨by omega, by omega⟩ bad, th1_of]
    · rw [if_neg (by decide), if_neg (by decide), if_pos (by decide), tp_xDenominator P ⟨by omega, by omega⟩ bad, th1_of]
    · rw [if_neg (by decide), if_neg (by decide), if_neg (by decide), if_pos (by decide), tp_yNumerator P ⟨by omega, by omega⟩ bad, th1_of]
    · rw [if_neg (by decide), if_neg (by decide), if_neg (by decide), if_neg (by decide), if_pos (by decide), tp_yDenominator P ⟨by omega, by omega⟩ bad, th1_of]
    · rw [if_neg (by decide), if_neg (by decide), if_neg (by decide), if_neg (by decide), if_neg (by decide), if_pos (by decide), tp_degree P ⟨by omega, by omega⟩ bad, th1_of]
  have of2 : f_L_of F S D (A 0) 3 (-1) = some (D, -601) := by
    unfold f_L_of
    rw [ly_k P.1 0 (by decide) (by decide), show (-1 : Int32) = zI (-1) from rfl, if_neg (by decide), if_neg (by decide), if_neg (by decide), if_pos (by decide), tp_yNumerator P ⟨by omega, by omega⟩ bad2, th1_of]
  unfold f_L_areVertices
  rw [ck_ok hm.1, hm0, ly_k P.1 0 (by decide) (by decide), c1, cal_some, hrem, of1, caM_some, if_pos rfl, of2, caM_some, if_pos rfl]
  exact L45 (vI g n).1 F 0 (by omega) (by omega)
end AVX
