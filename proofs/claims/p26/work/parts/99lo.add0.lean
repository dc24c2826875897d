/-! What the law's isAdded comes to. -/
section AD0
variable {F : Nat} {S T : CS} {D : CD} {A sg w : Nat → Nat} {n : Nat} {g : Nat → Sg} {root rd : Nat → Nat} {c : Nat} {lo ou : Nat → Nat} {gA mA o : Nat} {z : Nat × Nat}
theorem dGM_eta (h : gA ≠ mA) : dGM D gA mA (D.2.2.1 gA) (D.2.2.1 mA) = D := by
  unfold dGM
  refine Eq.trans (congrArg (fun q => (D.1, D.2.1, q, D.2.2.2)) (funext fun a => ?_) : _ = (D.1, D.2.1, D.2.2.1, D.2.2.2)) rfl
  by_cases h1 : a = gA
  · rw [if_pos h1, h1]
  · rw [if_neg h1]
    by_cases h2 : a = mA
    · rw [if_pos h2, h2]
    · rw [if_neg h2]
theorem e_LisAdded_A (P : cPic S D A sg w n g root rd c lo ou) (hF : 1000 ≤ F) (hm : mOn S mA) (hn0 : D.2.2.1 mA 0 = nI n) {x y x2 y2 : Int} (h1 : inR x) (h2 : inR y) (h3 : inR x2) (h4 : inR y2) : f_L_isAdded_A F S D (A 0) gA mA (zI x) (zI y) (zI x2) (zI y2) = some (D, 0, [zI x, zI y, zI x2, zI y2, bI (ltP x y x2 y2), nI n], [allV n g root rd c lo ou]) := by
  have hn := P.2.2.1
  have b42 : ∀ q, f_L_isAdded_A_b42 F S (A 0) gA mA D (zI x) (zI y) (zI x2) (zI y2) q (nI n) = some (D, 0, [zI x, zI y, zI x2, zI y2, q, nI n], [allV n g root rd c lo ou]) := fun q => by
    unfold f_L_isAdded_A_b42
    rw [e_Lall P hF, cal_some]
  have b24 : ∀ q, f_L_isAdded_A_b24 F S (A 0) gA mA D (zI x) (zI y) (zI x2) (zI y2) q = some (D, 0, [zI x, zI y, zI x2, zI y2, q, nI n], [allV n g root rd c lo ou]) := fun q => by
    unfold f_L_isAdded_A_b24
    rw [ck_ok hm.1, m_rd hm, hn0]
    have e12 : (12 : Int32) ≤ nI n ↔ 12 ≤ n := nI_leI (a := 12) (by omega) (by omega)
    by_cases q12 : 12 ≤ n
    · rw [if_pos (e12.mpr q12), ← show nI n = 12 by rw [show n = 12 by omega]; rfl]
      exact b42 q
    · rw [if_neg (mt e12.mp q12), m_rd hm, hn0]
      exact b42 q
  have e1 : zI x < zI x2 ↔ x < x2 := zI_lt (inR_32 h1) (inR_32 h3)
  have e2 : zI x = zI x2 ↔ x = x2 := zI_eq (inR_32 h1) (inR_32 h3)
  have e3 : zI y2 ≤ zI y ↔ y2 ≤ y := zI_le (inR_32 h4) (inR_32 h2)
  unfold f_L_isAdded_A ltP
  by_cases c1 : x < x2
  · rw [if_pos (e1.mpr c1), decide_eq_true (show x < x2 ∨ (x = x2 ∧ y < y2) from Or.inl c1)]; exact b24 1
  · rw [if_neg (mt e1.mp c1)]
    by_cases c2 : x = x2
    · rw [if_pos (e2.mpr c2)]
      by_cases c3 : y2 ≤ y
      · rw [if_pos (e3.mpr c3), decide_eq_false (show ¬ (x < x2 ∨ (x = x2 ∧ y < y2)) by omega)]; exact b24 0
      · rw [if_neg (mt e3.mp c3), decide_eq_true (show x < x2 ∨ (x = x2 ∧ y < y2) by omega)]; exact b24 1
    · rw [if_neg (mt e2.mp c2), decide_eq_false (show ¬ (x < x2 ∨ (x = x2 ∧ y < y2)) by omega)]; exact b24 0
def wr4 (f : Nat → Int32) (n : Nat) (s : Sg) : Nat → Int32 := upd (upd (upd (upd f (4 * n) (zI (sX s))) (4 * n + 1) (zI (sY s))) (4 * n + 2) (zI (eX s))) (4 * n + 3) (zI (eY s))
theorem wr4_old (f : Nat → Int32) (n : Nat) (s : Sg) {j : Nat} (h : j < 4 * n) : wr4 f n s j = f j := by
  unfold wr4 upd
  rw [if_neg (by omega), if_neg (by omega), if_neg (by omega), if_neg (by omega)]
theorem wr4_new (f : Nat → Int32) (n : Nat) (s : Sg) : wr4 f n s (4 * n) = zI (sX s) ∧ wr4 f n s (4 * n + 1) = zI (sY s) ∧ wr4 f n s (4 * n + 2) = zI (eX s) ∧ wr4 f n s (4 * n + 3) = zI (eY s) := by
  unfold wr4 upd
  refine ⟨?_, ?_, ?_, if_pos rfl⟩
  · rw [if_neg (by omega), if_neg (by omega), if_neg (by omega), if_pos rfl]
  · rw [if_neg (by omega), if_neg (by omega), if_pos rfl]
  · rw [if_neg (by omega), if_pos rfl]
def canA (n : Nat) (g : Nat → Sg) (s : Sg) (k : Nat) : Bool := decide (n < 12) && !anyN (fun i => decide (com s (g i) = 2)) k
theorem e_adB (hg : gOn T gA) (hm : mOn T mA) (hne : gA ≠ mA) (hn : n ≤ 12) (hgo : ∀ i, i < n → sOk (g i)) {f0 mf : Nat → Int32} (hr : ∀ i, i < n → f0 (4 * i) = zI (sX (g i)) ∧ f0 (4 * i + 1) = zI (sY (g i)) ∧ f0 (4 * i + 2) = zI (eX (g i)) ∧ f0 (4 * i + 3) = zI (eY (g i))) (hmf : mf 0 = nI n) {x y x2 y2 : Int} (h1 : inR x) (h2 : inR y) (h3 : inR x2) (h4 : inR y2) (h5 : ¬ (x = x2 ∧ y = y2)) (was : Int64) (hF : 1000 ≤ F)
    (hk : ∀ {α : Type} (q : Option α), ckK T o 6 q = q) (hseg : ∀ f' mf', f_X6_segments F T (dGM D gA mA f' mf') o = some (nI (if canA n g (nrm x y x2 y2) n then n + 1 else n))) (hall : canA n g (nrm x y x2 y2) n = false → ∀ f' mf', f_L_all F T (dGM D gA mA f' mf') o = some was) :
    ∃ mf', f_L_isAdded_B F T (dGM D gA mA f0 mf) o gA mA (zI x) (zI y) (zI x2) (zI y2) (bI (ltP x y x2 y2)) (nI n) was (if canA n g (nrm x y x2 y2) n then nI n else -603) = some (dGM D gA mA (wr4 f0 n (nrm x y x2 y2)) mf', 0, [1], []) ∧ mf' 0 = nI (if canA n g (nrm x y x2 y2) n then n + 1 else n) := by
  have hso := nrm_ok h1 h2 h3 h4 h5
  generalize hs : nrm x y x2 y2 = s at *
  generalize hto : (if canA n g s n then nI n else -603) = told
  have hgl : T.2.2.2 gA = 52 := hg.2
  have row : ∀ i, i < n → rowG (dGM D gA mA (wr4 f0 n s) mf) gA i (g i) := fun i hi => by
    unfold rowG
    rw [dGM_g, wr4_old _ _ _ (show 4 * i < 4 * n by omega), wr4_old _ _ _ (show 4 * i + 1 < 4 * n by omega), wr4_old _ _ _ (show 4 * i + 2 < 4 * n by omega), wr4_old _ _ _ (show 4 * i + 3 < 4 * n by omega)]
    exact hr i hi
  have rowN : rowG (dGM D gA mA (wr4 f0 n s) mf) gA n s := by
    unfold rowG
    rw [dGM_g]; exact wr4_new _ _ _
  have rm : ∀ {α : Type} {q : Int32 → Option α} (f' : Nat → Int32), rdI (T.2.2.2 mA) ((dGM D gA mA f' mf).2.2.1 mA) 0 q = q (nI n) := fun {α} {q} f' => by rw [m_rd hm, dGM_m hne, hmf]
  -- the end
  have b252 : ∀ mf', mf' 0 = nI (if canA n g s n then n + 1 else n) → f_L_isAdded_B_b252 F T o gA mA (dGM D gA mA (wr4 f0 n s) mf') was (bI (canA n g s n)) told told = some (dGM D gA mA (wr4 f0 n s) mf', 0, [1], []) := by
    intro mf' hmf'
    unfold f_L_isAdded_B_b252
    rw [if_pos rfl, hk, hseg, cal_some, ck_ok hm.1, m_rd hm, dGM_m hne, hmf', if_pos rfl]
    cases hc : canA n g s n
    · rw [if_pos (show bI false = 0 from rfl), hall hc, cal_some, if_pos (by unfold lg_cmp; rw [if_neg (fun w => Int64.lt_irrefl w), if_pos rfl])]
      rfl
    · rw [if_neg (show ¬ bI true = 0 by decide)]
      rfl
  have b221 : ∃ mf', f_L_isAdded_B_b221 F T o gA mA (dGM D gA mA (wr4 f0 n s) mf) (nI n) was told (bI (canA n g s n)) = some (dGM D gA mA (wr4 f0 n s) mf', 0, [1], []) ∧ mf' 0 = nI (if canA n g s n then n + 1 else n) := by
    have hm2 : (upd mf 0 (nI n + bI (canA n g s n))) 0 = nI (if canA n g s n then n + 1 else n) := by
      show (if 0 = 0 then _ else _) = _
      rw [if_pos rfl, nI_b]
      cases canA n g s n <;> rfl
    refine ⟨_, ?_, hm2⟩
    have h252 := b252 _ hm2
    unfold f_L_isAdded_B_b221 f_L_isAdded_B_b235
    rw [ck_ok hm.1, rm, ck_ok hm.1, ck_ok hm.1, show (0 : Int32) = nI 0 from rfl, ciW_at (by rw [hm.2]; omega) (by rw [hm.2]; decide), ciW_at (by rw [hm.2]; omega) (by rw [hm.2]; decide), dGM_m hne, cpA_m hne, cpA_m hne]
    cases hc : canA n g s n
    · rw [hc] at h252 hto
      rw [if_neg (by decide)] at hto
      rw [if_pos (show bI false = nI 0 from rfl), if_pos (show bI false = nI 0 from rfl)]
      rw [← hto] at h252 ⊢
      exact h252
    · rw [hc] at h252 hto
      rw [if_pos rfl] at hto
      rw [if_neg (show ¬ bI true = nI 0 by decide), if_neg (show ¬ bI true = nI 0 by decide)]
      rw [← hto] at h252 ⊢
      exact h252
  obtain ⟨mf', q1, q2⟩ := b221
  refine ⟨mf', ?_, q2⟩
  have L184 : ∀ (d m k : Nat), k + d = n → d < m → f_L_isAdded_B_L184 F T o gA mA m (dGM D gA mA (wr4 f0 n s) mf) (nI n) was told (bI (canA n g s k)) (nI k) = some (dGM D gA mA (wr4 f0 n s) mf', 0, [1], []) := by
    intro d
    induction d with
    | zero =>
      intro m k hk2 hm2
      obtain ⟨m, rfl⟩ : ∃ q, m = q + 1 := ⟨m - 1, by omega⟩
      rw [show k = n by omega, f_L_isAdded_B_L184, ck_ok hm.1, rm, if_pos (Int32.le_refl _)]
      exact q1
    | succ d ih =>
      intro m k hk2 hm2
      obtain ⟨m, rfl⟩ : ∃ q, m = q + 1 := ⟨m - 1, by omega⟩
      have hkn : k < n := by omega
      have go := ih m (k + 1) (by omega) (by omega)
      rw [f_L_isAdded_B_L184, ck_ok hm.1, rm, if_neg (fun w => by have := (nI_leI (a := n) (b := k) (by omega) (by omega)).mp w; omega)]
      cases hc : canA n g s k
      · have hcn : canA n g s n = false := by
          unfold canA at hc ⊢
          rw [Bool.and_eq_false_iff, Bool.not_eq_false'] at hc ⊢
          rcases hc with hc | hc
          · exact Or.inl hc
          · obtain ⟨i, i1, i2⟩ := anyN_iff.mp hc
            exact Or.inr (anyN_iff.mpr ⟨i, by omega, i2⟩)
        rw [hcn] at q1
        rw [if_pos (show bI false = 0 from rfl)]
        exact q1
      · have hst : canA n g s (k + 1) = !covB (g k) s := by
          rw [cov_com (hgo k hkn) hso]
          unfold canA at hc ⊢
          rw [Bool.and_eq_true, Bool.not_eq_true'] at hc
          rw [anyN, hc.1, hc.2, Bool.false_or, Bool.true_and]
          congr 1
          exact decide_eq_decide.mpr (com2_comm hso (hgo k hkn))
        rw [hst] at go
        rw [if_neg (show ¬ bI true = 0 by decide), e_LisCovering hg (row k hkn) (by omega) (hgo k hkn) rowN (by omega) hso, cal_some]
        unfold f_L_isAdded_B_b213
        rw [nI_1]
        cases hv : covB (g k) s
        · rw [hv] at go
          rw [if_pos (show bI false = 0 from rfl)]
          exact go
        · rw [hv] at go
          rw [if_neg (show ¬ bI true = 0 by decide)]
          exact go
  have st0 : canA n g s 0 = decide (n < 12) := by unfold canA; rw [anyN]; exact Bool.and_true _
  have l184 := L184 n F 0 (by omega) (by omega)
  rw [st0] at l184
  have b165 : f_L_isAdded_B_b165 F T o gA mA (dGM D gA mA (upd (upd (upd f0 (4 * n) (zI (sX s))) (4 * n + 1) (zI (sY s))) (4 * n + 2) (zI (eX s))) mf) (nI n) was told (zI (eY s)) (nI (4 * n + 3)) = some (dGM D gA mA (wr4 f0 n s) mf', 0, [1], []) := by
    unfold f_L_isAdded_B_b165
    rw [ck_ok hg.1, ciW_at (by rw [hgl]; omega) (by rw [hgl]; decide), dGM_g, cpA_g, ck_ok hm.1, rm]
    have e12 : (12 : Int32) ≤ nI n ↔ 12 ≤ n := nI_leI (a := 12) (by omega) (by omega)
    by_cases q12 : 12 ≤ n
    · rw [decide_eq_false (show ¬ n < 12 by omega)] at l184
      rw [if_pos (e12.mpr q12)]
      exact l184
    · rw [decide_eq_true (show n < 12 by omega)] at l184
      rw [if_neg (mt e12.mp q12)]
      exact l184
  have b90 : f_L_isAdded_B_b90 F T o gA mA (dGM D gA mA f0 mf) (zI x) (zI y) (zI x2) (zI y2) (bI (ltP x y x2 y2)) (nI n) was told = some (dGM D gA mA (wr4 f0 n s) mf', 0, [1], []) := by
    unfold f_L_isAdded_B_b90 f_L_isAdded_B_b106 f_L_isAdded_B_b126 f_L_isAdded_B_b145
    rw [ix3, ix2, ix1, ix0]
    unfold nrm at hs
    cases hl : ltP x y x2 y2
    · rw [hl, if_neg (show ¬ false = true by decide)] at hs
      subst hs
      rw [if_pos (show bI false = 0 from rfl), ck_ok hg.1, ciW_at (by rw [hgl]; omega) (by rw [hgl]; decide), dGM_g, cpA_g, if_pos (show bI false = 0 from rfl), ck_ok hg.1, ciW_at (by rw [hgl]; omega) (by rw [hgl]; decide), dGM_g, cpA_g, if_pos (show bI false = 0 from rfl), ck_ok hg.1, ciW_at (by rw [hgl]; omega) (by rw [hgl]; decide), dGM_g, cpA_g, if_pos (show bI false = 0 from rfl)]
      exact b165
    · rw [hl, if_pos rfl] at hs
      subst hs
      rw [if_neg (show ¬ bI true = 0 by decide), ck_ok hg.1, ciW_at (by rw [hgl]; omega) (by rw [hgl]; decide), dGM_g, cpA_g, if_neg (show ¬ bI true = 0 by decide), ck_ok hg.1, ciW_at (by rw [hgl]; omega) (by rw [hgl]; decide), dGM_g, cpA_g, if_neg (show ¬ bI true = 0 by decide), ck_ok hg.1, ciW_at (by rw [hgl]; omega) (by rw [hgl]; decide), dGM_g, cpA_g, if_neg (show ¬ bI true = 0 by decide)]
      exact b165
  unfold f_L_isAdded_B
  by_cases c1 : x = x2
  · have c2 : ¬ zI y = zI y2 := fun w => h5 ⟨c1, (zI_eq (inR_32 h2) (inR_32 h4)).mp w⟩
    rw [if_pos (by rw [c1]), if_neg c2]
    exact b90
  · rw [if_neg (fun w => c1 ((zI_eq (inR_32 h1) (inR_32 h3)).mp w))]
    exact b90
end AD0
