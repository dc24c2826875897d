/-! ### the reference's counting answers -/
theorem cnt_s (P : Nat → Bool) (k : Nat) : nI (cnt P k) + bI (P k) = nI (cnt P (k + 1)) := by
  rw [cnt]
  cases P k
  · rw [show bI false = nI 0 from rfl, nI_add]; rfl
  · rw [show bI true = nI 1 from rfl, nI_add]; rfl
/-- the last below k with P, or -1 -/
def lstI (P : Nat → Bool) (f : Nat → Nat) : Nat → Int32
  | 0 => -1
  | k + 1 => if P k then nI (f k) else lstI P f k
section MOP2
variable {F : Nat} {M : MS}
theorem e_degL {q : ES} (hE : mEdg M q) (hq : q.1 ≤ 158) {nV : Nat} (hw : eW q nV) (hnV : nV ≤ 99) {v : Nat} (hv : v < nV) :
    ∀ (d m e : Nat), e + d = q.1 → d < m → f_degree_L11 F m M (nI v) (nI (cnt (fun e => decide (eF q e = v) || decide (eT q e = v)) e)) 1 (nI e) = some (M, nI (cnt (fun e => decide (eF q e = v) || decide (eT q e = v)) q.1)) := by
  intro d
  induction d with
  | zero =>
    intro m e he hm
    obtain ⟨m, rfl⟩ : ∃ q, m = q + 1 := ⟨m - 1, by omega⟩
    have e0 : e = q.1 := by omega
    subst e0
    rw [f_degree_L11, hE.1, if_pos (Int32.le_refl _)]
  | succ d ih =>
    intro m e he hm
    obtain ⟨m, rfl⟩ : ∃ q, m = q + 1 := ⟨m - 1, by omega⟩
    have hen : e < q.1 := by omega
    obtain ⟨v1, v2, v3⟩ := hE.2 e hen
    have hww := hw e hen
    have i1 := ih m (e + 1) (by omega) (by omega)
    rw [← cnt_s] at i1
    rw [f_degree_L11, hE.1, if_neg (by rw [nI_leI (by omega) (by omega)]; omega), if_neg (show ¬ (1 : Int32) = 0 by decide), rdI_at (by omega) (by decide), rdI_at (by omega) (by decide), v2, v3]
    unfold f_degree_b52
    rw [nI_1 e]
    by_cases z1 : eF q e = v
    · rw [decide_eq_true z1] at i1
      rw [if_pos ((nI_eq (by omega) (by omega)).mpr z1)]; exact i1
    · rw [if_neg (fun w => z1 ((nI_eq (by omega) (by omega)).mp w))]
      by_cases z2 : eT q e = v
      · rw [decide_eq_true z2, Bool.or_true] at i1
        rw [if_pos ((nI_eq (by omega) (by omega)).mpr z2)]; exact i1
      · rw [decide_eq_false z1, decide_eq_false z2] at i1
        rw [if_neg (fun w => z2 ((nI_eq (by omega) (by omega)).mp w))]; exact i1
theorem e_degree {x : Int} (hx : i32 x) {q : ES} (hF : 1000 ≤ F) (hE : mEdg M q) (hq : q.1 ≤ 158) {nV : Nat} (hw : eW q nV) (hnV : nV ≤ 99) {V : Nat → Pt} (hV : mVer M nV V) :
    f_degree F M (zI x) = some (mpF M 23 (bI (!inB x nV)), if inB x nV then nI (cnt (fun e => decide (eF q e = x.toNat) || decide (eT q e = x.toNat)) q.1) else 0) := by
  obtain ⟨F, rfl⟩ : ∃ y, F = y + 1 := ⟨F - 1, by omega⟩
  unfold f_degree
  rw [e_asksVertex hx (by omega) hV.1, caM_some]
  cases hb : inB x nV
  · rw [f_degree_L11]
    rw [if_pos (show bI false = 0 from rfl), ite_self]
    rfl
  · obtain ⟨v, h1, h2, h3⟩ := inB_nat hb
    have hv : x.toNat = v := by omega
    rw [h3, hv, if_pos rfl]
    exact e_degL (F := F + 1) (M := mpF M 23 (bI (!true))) (q := q) ⟨hE.1, hE.2⟩ hq hw hnV h1 q.1 (F + 1) 0 (by omega) (by omega)
theorem e_sidL {q : ES} (hE : mEdg M q) (hk : q.1 ≤ 158) {rd fo : Nat → Nat} (hrd : ∀ s, s < 2 * q.1 → M.2.1 15 s = nI (rd s) ∧ rd s < 320) (hfo : ∀ s, s < 2 * q.1 → M.2.1 20 (rd s) = nI (fo (rd s)) ∧ fo (rd s) < 2147483648) {v : Nat} (hv : v < 2147483648) :
    ∀ (d m e : Nat), e + d = 2 * q.1 → d < m → f_sides_L11 F m M (nI v) (nI (cnt (fun s => decide (fo (rd s) = v)) e)) 1 (nI e) = some (M, nI (cnt (fun s => decide (fo (rd s) = v)) (2 * q.1))) := by
  have ha : (2 : Int32) * M.1 11 = nI (2 * q.1) := by rw [hE.1, show (2 : Int32) = zI 2 from rfl, nI_zI, zI_mul, nI_zI]; rfl
  intro d
  induction d with
  | zero =>
    intro m e he hm
    obtain ⟨m, rfl⟩ : ∃ q, m = q + 1 := ⟨m - 1, by omega⟩
    have e0 : e = 2 * q.1 := by omega
    subst e0
    rw [f_sides_L11, ha, if_pos (Int32.le_refl _)]
  | succ d ih =>
    intro m e he hm
    obtain ⟨m, rfl⟩ : ∃ q, m = q + 1 := ⟨m - 1, by omega⟩
    have hen : e < 2 * q.1 := by omega
    have i1 := ih m (e + 1) (by omega) (by omega)
    rw [← cnt_s] at i1
    obtain ⟨r1, r2⟩ := hrd e hen
    obtain ⟨f1, f2⟩ := hfo e hen
    rw [f_sides_L11, ha, if_neg (by rw [nI_leI (by omega) (by omega)]; omega), if_neg (show ¬ (1 : Int32) = 0 by decide), rdI_at (by omega) (by decide), r1, rdI_at r2 (by decide), f1]
    unfold f_sides_b48
    rw [nI_1 e]
    by_cases z1 : fo (rd e) = v
    · rw [decide_eq_true z1] at i1
      rw [if_pos ((nI_eq (by omega) (by omega)).mpr z1)]; exact i1
    · rw [decide_eq_false z1] at i1
      rw [if_neg (fun w => z1 ((nI_eq (by omega) (by omega)).mp w))]; exact i1
theorem e_sides {x : Int} (hx : i32 x) {q : ES} (hF : 1000 ≤ F) (hE : mEdg M q) (hk : q.1 ≤ 158) {rd fo : Nat → Nat} (hrd : ∀ s, s < 2 * q.1 → M.2.1 15 s = nI (rd s) ∧ rd s < 320) (hfo : ∀ s, s < 2 * q.1 → M.2.1 20 (rd s) = nI (fo (rd s)) ∧ fo (rd s) < 2147483648) {nF : Nat} (h21 : M.1 21 = nI nF) (hnF : nF < 2147483648) :
    f_sides F M (zI x) = some (mpF M 23 (bI (!inB x nF)), if inB x nF then nI (cnt (fun s => decide (fo (rd s) = x.toNat)) (2 * q.1)) else 0) := by
  obtain ⟨F, rfl⟩ : ∃ y, F = y + 1 := ⟨F - 1, by omega⟩
  unfold f_sides
  rw [e_asksFace hx hnF h21, caM_some]
  cases hb : inB x nF
  · rw [f_sides_L11]
    rw [if_pos (show bI false = 0 from rfl), ite_self]
    rfl
  · obtain ⟨v, h1, h2, h3⟩ := inB_nat hb
    have hv : x.toNat = v := by omega
    rw [h3, hv, if_pos rfl]
    exact e_sidL (F := F + 1) (M := mpF M 23 (bI (!true))) (q := q) ⟨hE.1, hE.2⟩ hk hrd hfo (by omega) (2 * q.1) (F + 1) 0 (by omega) (by omega)
theorem e_fvL {c : Nat} (hc : c < 320) (h16 : M.1 16 = nI c) {ar : Nat → Bool} {fo lo : Nat → Nat} (har : ∀ w, w < c → M.2.1 19 w = bI (ar w)) (hfo : ∀ w, w < c → M.2.1 20 w = nI (fo w) ∧ fo w < 2147483648) (hlo : ∀ w, w < c → M.2.1 17 w = nI (lo w)) {v : Nat} (hv : v < 2147483648) :
    ∀ (d m e : Nat), e + d = c → d < m → f_firstVertex_L11 F m M (nI v) (lstI (fun w => !ar w && decide (fo w = v)) lo e) 1 (nI e) = some (M, lstI (fun w => !ar w && decide (fo w = v)) lo c) := by
  intro d
  induction d with
  | zero =>
    intro m e he hm
    obtain ⟨m, rfl⟩ : ∃ q, m = q + 1 := ⟨m - 1, by omega⟩
    have e0 : e = c := by omega
    subst e0
    rw [f_firstVertex_L11, h16, if_pos (Int32.le_refl _)]
    rfl
  | succ d ih =>
    intro m e he hm
    obtain ⟨m, rfl⟩ : ∃ q, m = q + 1 := ⟨m - 1, by omega⟩
    have hen : e < c := by omega
    have i1 := ih m (e + 1) (by omega) (by omega)
    rw [lstI] at i1
    obtain ⟨f1, f2⟩ := hfo e hen
    rw [f_firstVertex_L11, h16, if_neg (by rw [nI_leI (by omega) (by omega)]; omega), if_neg (show ¬ (1 : Int32) = 0 by decide), rdI_at (by omega) (by decide), har e hen]
    unfold f_firstVertex_b56
    rw [nI_1]
    cases hb : ar e
    · rw [hb] at i1
      rw [if_pos (show bI false = 0 from rfl), rdI_at (by omega) (by decide), f1]
      by_cases z1 : fo e = v
      · rw [decide_eq_true z1, if_pos (by rfl)] at i1
        rw [if_pos ((nI_eq (by omega) (by omega)).mpr z1), rdI_at (by omega) (by decide), hlo e hen]; exact i1
      · rw [decide_eq_false z1, if_neg (by decide)] at i1
        rw [if_neg (fun w => z1 ((nI_eq (by omega) (by omega)).mp w))]; exact i1
    · rw [hb, if_neg (by simp)] at i1
      rw [if_neg (show ¬ bI true = 0 by decide)]; exact i1
theorem e_firstVertex {x : Int} (hx : i32 x) (hF : 1000 ≤ F) {c : Nat} (hc : c < 320) (h16 : M.1 16 = nI c) {ar : Nat → Bool} {fo lo : Nat → Nat} (har : ∀ w, w < c → M.2.1 19 w = bI (ar w)) (hfo : ∀ w, w < c → M.2.1 20 w = nI (fo w) ∧ fo w < 2147483648) (hlo : ∀ w, w < c → M.2.1 17 w = nI (lo w)) {nF : Nat} (h21 : M.1 21 = nI nF) (hnF : nF < 2147483648) :
    f_firstVertex F M (zI x) = some (mpF M 23 (bI (!inB x nF)), if inB x nF then lstI (fun w => !ar w && decide (fo w = x.toNat)) lo c else 0) := by
  obtain ⟨F, rfl⟩ : ∃ y, F = y + 1 := ⟨F - 1, by omega⟩
  unfold f_firstVertex
  rw [e_asksFace hx hnF h21, caM_some]
  cases hb : inB x nF
  · rw [f_firstVertex_L11]
    unfold f_firstVertex_b63
    rw [if_pos (show bI false = 0 from rfl), if_pos (show bI false = 0 from rfl), ite_self]
    rfl
  · obtain ⟨v, h1, h2, h3⟩ := inB_nat hb
    have hv : x.toNat = v := by omega
    rw [h3, hv, if_pos rfl]
    exact e_fvL (F := F + 1) (M := mpF M 23 (bI (!true))) hc h16 har hfo hlo (by omega) c (F + 1) 0 (by omega) (by omega)
/-- whether two segments meet -/
theorem e_meet {x y : Int} (hx : i32 x) (hy : i32 y) {n : Nat} {g : Nat → Sg} (h0 : M.1 0 = nI n) (hn : n ≤ 12) (hco : mCo M n g) (hg : ∀ i, i < n → sOk (g i)) :
    f_meet F M (zI x) (zI y) = some (mpF M 23 (bI (!(inB x n && inB y n))), bI ((inB x n && inB y n) && (decide (x = y) || decide (0 < com (g x.toNat) (g y.toNat))))) := by
  unfold f_meet f_meet_b22
  rw [e_isSegment hx (by omega) h0, e_isSegment hy (by omega) h0, cal_some, cal_some]
  cases hb : inB x n
  · rw [if_pos (show bI false = 0 from rfl), show (1 : Int32) = bI (!false) from rfl, e_goes, caM_some]
    rfl
  · rw [if_neg (show ¬ bI true = 0 by decide)]
    cases hc : inB y n
    · rw [if_pos (show bI false = 0 from rfl), show (1 : Int32) = bI (!false) from rfl, e_goes, caM_some]
      rfl
    · obtain ⟨i, h1, h2, h3⟩ := inB_nat hb
      obtain ⟨j, j1, j2, j3⟩ := inB_nat hc
      have hxi : x.toNat = i := by omega
      have hyj : y.toNat = j := by omega
      rw [if_neg (show ¬ bI true = 0 by decide), show (0 : Int32) = bI (!true) from rfl, e_goes, caM_some, if_neg (show ¬ bI true = bI (!true) by decide), hxi, hyj]
      by_cases z : x = y
      · rw [if_pos ((zI_eq hx hy).mpr z), decide_eq_true z]; rfl
      · have kc : i32 (com (g i) (g j)) := by
          have : 0 ≤ com (g i) (g j) ∧ com (g i) (g j) ≤ 2 := by
            unfold com onl; repeat' split
            all_goals omega
          exact ⟨by omega, by omega⟩
        rw [if_neg (fun w => z ((zI_eq hx hy).mp w)), decide_eq_false z, h3, j3, e_common (M := mpF M 23 (bI (!true))) (k := n) (g := g) hco hg h1 j1 (by omega), cal_some, show bI (!true) = 0 from rfl]
        by_cases z2 : com (g i) (g j) ≤ 0
        · rw [if_pos ((zI_le0 kc).mpr z2), decide_eq_false (show ¬ 0 < com (g i) (g j) by omega)]; rfl
        · rw [if_neg (fun w => z2 ((zI_le0 kc).mp w)), decide_eq_true (show 0 < com (g i) (g j) by omega)]; rfl
end MOP2
