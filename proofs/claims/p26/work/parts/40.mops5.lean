/-! ### the reference: adding and removing -/
theorem nrm_ok {x y x2 y2 : Int} (h1 : inR x) (h2 : inR y) (h3 : inR x2) (h4 : inR y2) (h : ¬ (x = x2 ∧ y = y2)) : sOk (nrm x y x2 y2) := by
  unfold nrm
  cases hb : ltP x y x2 y2
  · refine ⟨⟨h3, h4, h1, h2⟩, ?_⟩
    have := of_decide_eq_false hb
    exact decide_eq_true (show x2 < x ∨ (x2 = x ∧ y2 < y) by omega)
  · exact ⟨⟨h1, h2, h3, h4⟩, hb⟩
theorem nrm_id {s : Sg} (h : sOk s) : nrm (sX s) (sY s) (eX s) (eY s) = s := by
  unfold nrm
  rw [h.2]; rfl
def adG (n : Nat) (g : Nat → Sg) (s : Sg) : Nat → Sg := fun i => if i = n then s else g i
def rmG (x : Nat) (g : Nat → Sg) : Nat → Sg := fun i => if i < x then g i else g (i + 1)
def adP (x y x2 y2 : Int) : Bool := inP x && inP y && inP x2 && inP y2 && !(decide (x = x2) && decide (y = y2))
def adC (n : Nat) (g : Nat → Sg) (s : Sg) : Bool := !anyN (fun i => decide (com s (g i) = 2)) n
theorem gOk_ad {n : Nat} {g : Nat → Sg} {s : Sg} (h : gOk n g) (hs : sOk s) (hc : adC n g s = true) : gOk (n + 1) (adG n g s) := by
  have hc : ∀ i, i < n → com s (g i) ≠ 2 := by
    intro i hi e
    unfold adC at hc
    rw [Bool.not_eq_true'] at hc
    have := anyN_iff (P := fun i => decide (com s (g i) = 2)) (k := n) |>.mpr ⟨i, hi, decide_eq_true e⟩
    rw [hc] at this; cases this
  refine ⟨fun i hi => ?_, fun i j hi hj => ?_⟩
  · unfold adG; split
    · exact hs
    · exact h.1 i (by omega)
  · unfold adG
    rw [if_neg (show ¬ j = n by omega)]
    split
    · next e => exact hc j (by omega)
    · exact h.2 i j (by omega) hj
theorem gOk_rm {n x : Nat} {g : Nat → Sg} (h : gOk n g) : gOk (n - 1) (rmG x g) := by
  refine ⟨fun i hi => ?_, fun i j hi hj => ?_⟩
  · unfold rmG; split
    · exact h.1 i (by omega)
    · exact h.1 (i + 1) (by omega)
  · unfold rmG; split
    · rw [if_pos (by omega)]; exact h.2 i j (by omega) hj
    · split
      · exact h.2 (i + 1) j (by omega) (by omega)
      · exact h.2 (i + 1) (j + 1) (by omega) (by omega)
section MOP5
variable {F : Nat} {M : MS} {n : Nat} {g : Nat → Sg}
theorem e_adL (hn : n < 12) (h0 : M.1 0 = nI n) (hco : mCo M (n + 1) g) (hg : ∀ i, i < n + 1 → sOk (g i)) :
    ∀ (d m e : Nat), e + d = n → d < m → f_add_L98 F m M (bI (!anyN (fun i => decide (com (g n) (g i) = 2)) e)) (nI e) = f_add_b150 F M (if (!anyN (fun i => decide (com (g n) (g i) = 2)) n) then 0 else 2) := by
  intro d
  induction d with
  | zero =>
    intro m e he hm
    obtain ⟨m, rfl⟩ : ∃ q, m = q + 1 := ⟨m - 1, by omega⟩
    have e0 : e = n := by omega
    subst e0
    rw [f_add_L98, h0, if_pos (Int32.le_refl _)]
    cases anyN (fun i => decide (com (g e) (g i) = 2)) e <;> rfl
  | succ d ih =>
    intro m e he hm
    obtain ⟨m, rfl⟩ : ∃ q, m = q + 1 := ⟨m - 1, by omega⟩
    have hen : e < n := by omega
    have i1 := ih m (e + 1) (by omega) (by omega)
    rw [anyN] at i1
    rw [f_add_L98, h0, if_neg (by rw [nI_leI (by omega) (by omega)]; omega)]
    unfold f_add_b131
    rw [nI_1 e]
    cases hb : anyN (fun i => decide (com (g n) (g i) = 2)) e
    · rw [hb, Bool.false_or] at i1
      have hc := com_02 (g n) (g e)
      rw [if_neg (show ¬ bI (!false) = 0 by decide), e_common (k := n + 1) (g := g) hco hg (by omega) (by omega) (by omega), cal_some]
      by_cases z : com (g n) (g e) = 2
      · rw [decide_eq_true z] at i1
        rw [z, if_pos (show (2 : Int32) ≤ zI 2 from Int32.le_refl _)]; exact i1
      · rw [decide_eq_false z] at i1
        rw [if_neg (fun w => z (by have := (zI_le (a := 2) ⟨by omega, by omega⟩ ⟨by omega, by omega⟩).mp w; omega))]; exact i1
    · rw [hb, Bool.true_or] at i1
      rw [if_pos (show bI (!true) = 0 from rfl)]; exact i1
theorem adP_iff {x y x2 y2 : Int} : adP x y x2 y2 = true ↔ (inR x ∧ inR y ∧ inR x2 ∧ inR y2) ∧ ¬ (x = x2 ∧ y = y2) := by
  unfold adP inP inR
  simp only [Bool.and_eq_true, decide_eq_true_eq, Bool.not_eq_true', Bool.and_eq_false_iff, decide_eq_false_iff_not]
  omega
theorem e_add {x y x2 y2 : Int} (hF : 1000001 ≤ F) (hx : i32 x) (hy : i32 y) (hx2 : i32 x2) (hy2 : i32 y2) (h0 : M.1 0 = nI n) (hn : n ≤ 12) (hco : mCo M n g) (hg : gOk n g) :
    (adP x y x2 y2 = false → ∃ M2, f_add F M (zI x) (zI y) (zI x2) (zI y2) = some (M2, 0) ∧ M2.1 23 = 1 ∧ mKp n M M2) ∧
    (adP x y x2 y2 = true → (n = 12 ∨ adC n g (nrm x y x2 y2) = false) → ∃ M2, f_add F M (zI x) (zI y) (zI x2) (zI y2) = some (M2, 0) ∧ M2.1 23 = 2 ∧ mKp n M M2) ∧
    (adP x y x2 y2 = true → n ≠ 12 → adC n g (nrm x y x2 y2) = true → ∃ M2 root r c lo ou, f_add F M (zI x) (zI y) (zI x2) (zI y2) = some (M2, nI n) ∧ M2.1 23 = 0 ∧ gOk (n + 1) (adG n g (nrm x y x2 y2)) ∧ mPic M2 (n + 1) (adG n g (nrm x y x2 y2)) root r c lo ou) := by
  have b71 : ∀ k : Int32, k ≠ 0 → f_add_b71 F M (zI x) (zI y) (zI x2) (zI y2) k = some (mpF M 23 k, 0) := by
    intro k hk
    unfold f_add_b71
    rw [e_goesB k hk, caM_some, if_pos rfl]
  have b0 : f_add_b45 F M (zI x) (zI y) (zI x2) (zI y2) 0 = some (mpF M 23 1, 0) := by
    unfold f_add_b45
    rw [if_pos rfl]; exact b71 1 (by decide)
  have top : f_add F M (zI x) (zI y) (zI x2) (zI y2) = if adP x y x2 y2 then f_add_b45 F M (zI x) (zI y) (zI x2) (zI y2) 1 else some (mpF M 23 1, 0) := by
    unfold f_add adP
    rw [e_isPlace hx, e_isPlace hy, e_isPlace hx2, e_isPlace hy2, cal_some, cal_some, cal_some, cal_some, b0]
    simp only [zI_eq hx hx2, zI_eq hy hy2, bI_0]
    cases inP x <;> cases inP y <;> cases inP x2 <;> cases inP y2 <;> by_cases z : x = x2 <;> by_cases w : y = y2 <;> simp [z, w]
  have h12 : M.1 0 = 12 ↔ n = 12 := by rw [h0]; exact nI_eq (a := n) (b := 12) (by omega) (by decide)
  refine ⟨fun h => ?_, fun h hc => ?_, fun h hc hd => ?_⟩
  · rw [top, h]
    exact ⟨_, rfl, mpF_s _ _ _, mKp_23 _ _⟩
  · rw [top, h, if_pos rfl]
    unfold f_add_b45
    rw [if_neg (show ¬ (1 : Int32) = 0 by decide)]
    by_cases z : n = 12
    · rw [if_pos (h12.mpr z), b71 2 (by decide)]
      exact ⟨_, rfl, mpF_s _ _ _, mKp_23 _ _⟩
    · rw [if_neg (fun w => z (h12.mp w))]
      have hd : adC n g (nrm x y x2 y2) = false := by
        rcases hc with hc | hc
        · exact absurd hc z
        · exact hc
      obtain ⟨⟨p1, p2, p3, p4⟩, p5⟩ := adP_iff.mp h
      obtain ⟨M2, e1, e2, e3, e4, e5, e6⟩ := e_puts (F := F) (M := mpF M 23 0) (i := n) (by omega) hx hy hx2 hy2
      unfold f_add_b71
      rw [e_goes0, caM_some, if_neg (by decide), show (mpF M 23 0).1 0 = nI n from h0, e1, cal_some]
      have hco2 : mCo M2 (n + 1) (adG n g (nrm x y x2 y2)) := by
        intro i hi
        unfold adG
        by_cases z : i = n
        · rw [if_pos z, z]; exact e6
        · rw [if_neg z, e5 1 i z, e5 2 i z, e5 3 i z, e5 4 i z]; exact hco i (by omega)
      have hgs : ∀ i, i < n + 1 → sOk (adG n g (nrm x y x2 y2) i) := by
        intro i hi
        unfold adG; split
        · exact nrm_ok p1 p2 p3 p4 p5
        · exact hg.1 i (by omega)
      have hl := e_adL (F := F) (M := M2) (by omega) (by rw [e2]; exact h0) hco2 hgs n F 0 (by omega) (by omega)
      have hs : adG n g (nrm x y x2 y2) n = nrm x y x2 y2 := by unfold adG; rw [if_pos rfl]
      have hcc : (!anyN (fun i => decide (com (adG n g (nrm x y x2 y2) n) (adG n g (nrm x y x2 y2) i) = 2)) n) = false := by
        unfold adC at hd
        rw [Bool.not_eq_false'] at hd ⊢
        obtain ⟨i, hi, hq⟩ := anyN_iff.mp hd
        refine anyN_iff.mpr ⟨i, hi, ?_⟩
        rw [hs]; unfold adG; rw [if_neg (by omega)]; exact hq
      rw [hcc] at hl
      refine ⟨mpF M2 23 2, hl.trans ?_, mpF_s _ _ _, ?_⟩
      · unfold f_add_b150
        rw [if_neg (by decide), e_goesB 2 (by decide), caM_some, if_pos rfl]
      · have k2 : mKp n (mpF M 23 0) M2 := ⟨e3, fun j _ => by rw [e2], e4, fun j i hi => e5 j i (by omega)⟩
        exact mKp.trans (mKp_23 (k := n) M 0) (mKp.trans k2 (mKp_23 _ _))
  · rw [top, h, if_pos rfl]
    unfold f_add_b45
    rw [if_neg (show ¬ (1 : Int32) = 0 by decide), if_neg (fun w => hc (h12.mp w))]
    obtain ⟨⟨p1, p2, p3, p4⟩, p5⟩ := adP_iff.mp h
    obtain ⟨M2, e1, e2, e3, e4, e5, e6⟩ := e_puts (F := F) (M := mpF M 23 0) (i := n) (by omega) hx hy hx2 hy2
    unfold f_add_b71
    rw [e_goes0, caM_some, if_neg (by decide), show (mpF M 23 0).1 0 = nI n from h0, e1, cal_some]
    have hco2 : mCo M2 (n + 1) (adG n g (nrm x y x2 y2)) := by
      intro i hi
      unfold adG
      by_cases z : i = n
      · rw [if_pos z, z]; exact e6
      · rw [if_neg z, e5 1 i z, e5 2 i z, e5 3 i z, e5 4 i z]; exact hco i (by omega)
    have hgk := gOk_ad hg (nrm_ok p1 p2 p3 p4 p5) hd
    have hl := e_adL (F := F) (M := M2) (by omega) (by rw [e2]; exact h0) hco2 hgk.1 n F 0 (by omega) (by omega)
    have hs : adG n g (nrm x y x2 y2) n = nrm x y x2 y2 := by unfold adG; rw [if_pos rfl]
    have hcc : (!anyN (fun i => decide (com (adG n g (nrm x y x2 y2) n) (adG n g (nrm x y x2 y2) i) = 2)) n) = true := by
      rw [Bool.not_eq_true']
      cases hq : anyN (fun i => decide (com (adG n g (nrm x y x2 y2) n) (adG n g (nrm x y x2 y2) i) = 2)) n
      · rfl
      · obtain ⟨i, hi, hw⟩ := anyN_iff.mp hq
        exact absurd (of_decide_eq_true hw) (hgk.2 n i (by omega) hi)
    rw [hcc] at hl
    have h20 : M2.1 0 = nI n := by rw [e2]; exact h0
    have h50 : (mpF (mpF M2 23 0) 0 (nI (n + 1))).1 0 = nI (n + 1) := mpF_s _ _ _
    obtain ⟨M8, root, r, c, lo, ou, l1, l2, l3⟩ := e_lays (F := F) (M0 := mpF (mpF M2 23 0) 0 (nI (n + 1))) hF hco2 h50 hgk (by omega)
    refine ⟨M8, root, r, c, lo, ou, hl.trans ?_, ?_, hgk, l2⟩
    · unfold f_add_b150 wrF
      rw [if_pos rfl, e_goes0, caM_some, if_neg (by decide), show (mpF M2 23 0).1 0 = nI n from h20, nI_1]
      show cal (f_lays F (mpF (mpF M2 23 0) 0 (nI (n + 1)))) (fun M8 => some (M8, M8.1 0 - 1)) = _
      rw [l1, cal_some, l2.1, nI_zI, show (1 : Int32) = zI 1 from rfl, zI_sub, nI_zI]
      congr 3
      omega
    · rw [l3]
      exact mpF_s M2 23 0
theorem e_rmL {x : Nat} (hF : 1000001 ≤ F) (hn : n ≤ 12) (hxn : x < n) (hg : gOk n g) :
    ∀ (d m i : Nat) (M : MS), i + d = n - 1 → d < m → x ≤ i → M.1 0 = nI (n - 1) → mCo M n (fun k => if k < i then rmG x g k else g k) → ∃ M2 root r c lo ou, f_remove_L34 F m M (nI i) = some (M2, nI (n - 1)) ∧ M2.1 23 = M.1 23 ∧ mPic M2 (n - 1) (rmG x g) root r c lo ou := by
  intro d
  induction d with
  | zero =>
    intro m i M he hm hxi h0 hco
    obtain ⟨m, rfl⟩ : ∃ q, m = q + 1 := ⟨m - 1, by omega⟩
    have e0 : i = n - 1 := by omega
    subst e0
    have hco2 : mCo M (n - 1) (rmG x g) := by
      intro k hk
      have := hco k (by omega)
      simp only [hk, if_true] at this
      exact this
    obtain ⟨M8, root, r, c, lo, ou, l1, l2, l3⟩ := e_lays hF hco2 h0 (gOk_rm hg) (by omega)
    refine ⟨M8, root, r, c, lo, ou, ?_, l3, l2⟩
    rw [f_remove_L34, h0, if_pos (Int32.le_refl _), l1, cal_some, l2.1]
  | succ d ih =>
    intro m i M he hm hxi h0 hco
    obtain ⟨m, rfl⟩ : ∃ q, m = q + 1 := ⟨m - 1, by omega⟩
    have h1 := hco (i + 1) (by omega)
    simp only [show ¬ i + 1 < i by omega, if_false] at h1
    obtain ⟨c1, c2, c3, c4⟩ := h1
    have hs := hg.1 (i + 1) (by omega)
    obtain ⟨⟨b1, b2, b3, b4⟩, -⟩ := id hs
    obtain ⟨M2, e1, e2, e3, e4, e5, e6⟩ := e_puts (F := F) (M := M) (i := i) (by omega) (inR_32 b1) (inR_32 b2) (inR_32 b3) (inR_32 b4)
    rw [nrm_id hs] at e6
    rw [f_remove_L34, h0, if_neg (by rw [nI_leI (by omega) (by omega)]; omega), nI_1, rdI_at (by omega) (by decide), rdI_at (by omega) (by decide), rdI_at (by omega) (by decide), rdI_at (by omega) (by decide), c1, c2, c3, c4, e1, cal_some]
    obtain ⟨M8, root, r, c, lo, ou, l1, l2, l3⟩ := ih m (i + 1) M2 (by omega) (by omega) (by omega) (by rw [e2]; exact h0) (by
      intro k hk
      by_cases z : k = i
      · subst z
        simp only [show k < k + 1 by omega, if_true]
        unfold rmG
        rw [if_neg (by omega)]
        exact e6
      · have h2 := hco k hk
        rw [e5 1 k z, e5 2 k z, e5 3 k z, e5 4 k z]
        by_cases y : k < i
        · simp only [y, if_true] at h2
          simp only [show k < i + 1 by omega, if_true]
          exact h2
        · simp only [y, if_false] at h2
          simp only [show ¬ k < i + 1 by omega, if_false]
          exact h2)
    exact ⟨M8, root, r, c, lo, ou, l1, by rw [l2, e2], l3⟩
theorem e_remove {x : Int} (hF : 1000001 ≤ F) (hx : i32 x) (h0 : M.1 0 = nI n) (hn : n ≤ 12) (hco : mCo M n g) (hg : gOk n g) :
    (inB x n = false → f_remove F M (zI x) = some (mpF M 23 1, 0)) ∧
    (inB x n = true → ∃ M2 root r c lo ou, f_remove F M (zI x) = some (M2, nI (n - 1)) ∧ M2.1 23 = 0 ∧ gOk (n - 1) (rmG x.toNat g) ∧ mPic M2 (n - 1) (rmG x.toNat g) root r c lo ou) := by
  unfold f_remove f_remove_b14
  rw [e_isSegment hx (by omega) h0, cal_some]
  refine ⟨fun h => ?_, fun h => ?_⟩
  · rw [h, if_pos (show bI false = 0 from rfl), e_goesB 1 (by decide), caM_some, if_pos rfl]
  · obtain ⟨i, h1, h2, h3⟩ := inB_nat h
    have hxi : x.toNat = i := by omega
    have hm1 : nI n - 1 = nI (n - 1) := by
      rw [nI_zI, show (1 : Int32) = zI 1 from rfl, zI_sub, nI_zI]
      congr 1; omega
    obtain ⟨M2, root, r, c, lo, ou, l1, l2, l3⟩ := e_rmL (F := F) (x := i) hF hn h1 hg (n - 1 - i) F i (mpF (mpF M 23 0) 0 (nI (n - 1))) (by omega) (by omega) (Nat.le_refl _) (mpF_s _ _ _) (by
      intro k hk
      have : (if k < i then rmG i g k else g k) = g k := by
        split
        · next z => unfold rmG; rw [if_pos z]
        · rfl
      simp only [this]
      exact hco k hk)
    rw [h, if_neg (show ¬ bI true = 0 by decide), e_goes0, caM_some, if_neg (by decide), h3, hxi]
    refine ⟨M2, root, r, c, lo, ou, ?_, ?_, gOk_rm hg, l3⟩
    · unfold wrF
      rw [show (mpF M 23 0).1 0 = nI n from h0, hm1]
      exact l1
    · rw [l2]; exact mpF_s M 23 0
end MOP5
