/-! ### the faces, in the reference -/
theorem hiO_none {g : Nat → Sg} {q : ES} {v : Nat} : ∀ j, hiO g q v j = none → ∀ s, s < j → bg q s ≠ v := by
  intro j
  induction j with
  | zero => intro _ s hs; omega
  | succ j ih =>
    intro h s hs
    rw [hiO] at h
    by_cases hc : bg q j = v ∧ hiB g q (hiO g q v j) j = true
    · rw [if_pos hc] at h; cases h
    · rw [if_neg hc] at h
      rcases Nat.lt_or_ge s j with z | z
      · exact ih h s z
      · have e : s = j := by omega
        subst e
        intro hb
        exact hc ⟨hb, by rw [h]; rfl⟩
def hiv (g : Nat → Sg) (q : ES) (v : Nat) : Nat := (hiO g q v (2 * q.1)).getD 0
theorem hiv_ok {g : Nat → Sg} {q : ES} {v : Nat} (h : ∃ t, t < 2 * q.1 ∧ bg q t = v) : hiO g q v (2 * q.1) = some (hiv g q v) ∧ hiv g q v < 2 * q.1 ∧ bg q (hiv g q v) = v := by
  obtain ⟨t, h1, h2⟩ := h
  cases ho : hiO g q v (2 * q.1) with
  | none => exact absurd h2 (hiO_none _ ho t h1)
  | some f =>
    have := hiO_lt g q v _ f ho
    unfold hiv; rw [ho]; exact ⟨rfl, this.1, this.2⟩
/-- which rounds go around a component -/
def arS (g : Nat → Sg) (q : ES) (rd root : Nat → Nat) : Nat → Nat → Bool
  | 0, _ => false
  | v + 1, u => arS g q rd root v u || (decide (root v = v) && decide (u = rd (hiv g q v)))
def ahd (g : Nat → Sg) (q : ES) (lo ou : Nat → Nat) (o u : Nat) : Bool := decide (lo o < lo u) || (decide (lo o = lo u) && decide (0 < wc g q (ou o) (ou u)))
def numF (g : Nat → Sg) (q : ES) (ar : Nat → Bool) (lo ou : Nat → Nat) (c u : Nat) : Nat := 1 + cnt (fun o => !ar o && ahd g q lo ou o u) c
/-- faces of rounds, the around ones of the first v vertices put right -/
def foS (n : Nat) (g : Nat → Sg) (V : Nat → Pt) (q : ES) (rd root f0 : Nat → Nat) : Nat → Nat → Nat
  | 0, u => f0 u
  | v + 1, u => if root v = v ∧ u = rd (hiv g q v) then fAv true n g V q rd (foS n g V q rd root f0 v) (V v) else foS n g V q rd root f0 v u
def mFrF (M M2 : MS) : Prop := M2.2.2 = M.2.2 ∧ (∀ j, j ≠ 21 → M2.1 j = M.1 j) ∧ ∀ j, j ≠ 19 → j ≠ 20 → M2.2.1 j = M.2.1 j
theorem mFrF.trans {M M2 M3 : MS} (h : mFrF M M2) (h2 : mFrF M2 M3) : mFrF M M3 := ⟨h2.1.trans h.1, fun j hj => (h2.2.1 j hj).trans (h.2.1 j hj), fun j a b => (h2.2.2 j a b).trans (h.2.2 j a b)⟩
theorem mFrF.rf {M : MS} : mFrF M M := ⟨rfl, fun _ _ => rfl, fun _ _ _ => rfl⟩
section MLF
variable {F : Nat} {g : Nat → Sg} {n nV : Nat} {V : Nat → Pt} {q : ES} {M0 : MS} {root rd lo ou : Nat → Nat} {c : Nat}
theorem mCo_frF {M M0 : MS} (h : mCo M0 n g) (hf : mFrF M0 M) : mCo M n g := fun i hi => by
  rw [hf.2.2 1 (by decide) (by decide), hf.2.2 2 (by decide) (by decide), hf.2.2 3 (by decide) (by decide), hf.2.2 4 (by decide) (by decide)]; exact h i hi
theorem mEdg_frF {M M0 : MS} (h : mEdg M0 q) (hf : mFrF M0 M) : mEdg M q := ⟨(hf.2.1 11 (by decide)).trans h.1, fun i hi => by unfold mE3; rw [hf.2.2 12 (by decide) (by decide), hf.2.2 13 (by decide) (by decide), hf.2.2 14 (by decide) (by decide)]; exact h.2 i hi⟩
theorem mVer_frF {M M0 : MS} (h : mVer M0 nV V) (hf : mFrF M0 M) : mVer M nV V := ⟨(hf.2.1 5 (by decide)).trans h.1, fun i hi => by unfold mV4; rw [hf.1]; exact h.2 i hi⟩
/-- what stands before the faces -/
def fPre (F : Nat) (M0 : MS) (n : Nat) (g : Nat → Sg) (nV : Nat) (V : Nat → Pt) (q : ES) (root rd lo ou : Nat → Nat) (c : Nat) : Prop :=
  1000 ≤ F ∧ M0.1 0 = nI n ∧ mCo M0 n g ∧ (∀ i, i < n → sOk (g i)) ∧ n ≤ 13 ∧ mVer M0 nV V ∧ (∀ i, i < nV → bV (V i)) ∧ nV ≤ 99 ∧ mEdg M0 q ∧ q.1 ≤ 158 ∧ eW q nV ∧ (∀ e, e < q.1 → eS q e < n) ∧ (∀ s, s < 2 * q.1 → bg q s < 2147483648) ∧ mPar M0 nV root ∧ (∀ v, v < nV → root v ≤ v) ∧ (∀ v, v < nV → ∃ t, t < 2 * q.1 ∧ bg q t = v) ∧ (∀ s, s < 2 * q.1 → M0.2.1 15 s = nI (rd s) ∧ rd s < c) ∧ c < 320 ∧ M0.1 16 = nI c ∧ (∀ u, u < c → M0.2.1 17 u = nI (lo u) ∧ M0.2.1 18 u = nI (ou u) ∧ lo u < 2147483648 ∧ ou u < 2 * q.1)
theorem e_lf143 (P : fPre F M0 n g nV V q root rd lo ou c) (f0 : Nat → Nat) :
    ∀ (d m v : Nat) (M : MS), v + d = nV → d < m → mFrF M0 M → (∀ u, u < c → M.2.1 20 u = nI (foS n g V q rd root f0 v u)) → ∃ M2, f_laysFaces_L143 F m M (nI v) = some M2 ∧ mFrF M0 M2 ∧ M2.1 21 = M.1 21 ∧ M2.2.1 19 = M.2.1 19 ∧ ∀ u, u < c → M2.2.1 20 u = nI (foS n g V q rd root f0 nV u) := by
  obtain ⟨hF, h0, hco, hg, hn, hV, hbv, hnV, hE, hq, hw, hseg, hbb, hpar, hrt, hsd, hrd, hc, h16, hlu⟩ := P
  intro d
  induction d with
  | zero =>
    intro m v M hv hm hf hfo
    obtain ⟨m, rfl⟩ : ∃ x, m = x + 1 := ⟨m - 1, by omega⟩
    have e : v = nV := by omega
    subst e
    refine ⟨M, ?_, hf, rfl, rfl, hfo⟩
    rw [f_laysFaces_L143, (mVer_frF hV hf).1, if_pos (Int32.le_refl _)]
  | succ d ih =>
    intro m v M hv hm hf hfo
    obtain ⟨m, rfl⟩ : ∃ x, m = x + 1 := ⟨m - 1, by omega⟩
    have hvn : v < nV := by omega
    have hVM := mVer_frF hV hf
    have hr := hrt v hvn
    have hp : M.2.1 10 v = nI (root v) := by rw [hf.2.2 10 (by decide) (by decide)]; exact hpar v hvn
    rw [f_laysFaces_L143, hVM.1, if_neg (by rw [nI_leI (by omega) (by omega)]; omega), rdI_at (by omega) (by decide), hp]
    have hre : nI (root v) = nI v ↔ root v = v := nI_eq (by omega) (by omega)
    by_cases z : root v = v
    · obtain ⟨i1, i2, i3⟩ := hiv_ok (g := g) (hsd v hvn)
      have hEM := mEdg_frF hE hf
      have hcoM := mCo_frF hco hf
      obtain ⟨v1, v2, v3, v4⟩ := hVM.2 v hvn
      have r15 : ∀ s, s < 2 * q.1 → M.2.1 15 s = nI (rd s) ∧ rd s < 320 := fun s hs => by rw [hf.2.2 15 (by decide) (by decide)]; have := hrd s hs; exact ⟨this.1, by omega⟩
      have ho := e_highestOut (F := F) hF hcoM hg hn hEM hq hseg hbb (v := v) (by omega)
      rw [i1] at ho
      have ho : f_highestOut F M (nI v) = some (nI (hiv g q v)) := ho
      have hfa := e_faceAbove (F := F) hF (by rw [hf.2.1 0 (by decide)]; exact h0) hcoM hg hn hVM hbv hnV hEM hq hw hseg (hbv v hvn) r15 (fo := foS n g V q rd root f0 v) (fun s hs => hfo _ (hrd s hs).2) true
      rw [if_pos (hre.mpr z), ho, cal_some, rdI_at (by omega) (by decide), (r15 _ i2).1, rdL_at (by omega) (by decide), rdL_at (by omega) (by decide), rdL_at (by omega) (by decide), rdL_at (by omega) (by decide), v1, v2, v3, v4, show (1 : Int32) = bI true from rfl, hfa, cal_some, wrI_at (by have := (hrd _ i2).2; omega) (by decide)]
      unfold f_laysFaces_b205
      rw [nI_1]
      obtain ⟨M2, g1, g2, g3, g4, g5⟩ := ih m (v + 1) (mpA M 20 (upd (M.2.1 20) (rd (hiv g q v)) (nI (fAv true n g V q rd (foS n g V q rd root f0 v) (V v))))) (by omega) (by omega) (hf.trans ⟨rfl, fun _ _ => rfl, fun j _ b => mpA_n _ _ b⟩) (fun u hu => by
        rw [mpA_s, foS]
        by_cases y : u = rd (hiv g q v)
        · rw [if_pos ⟨z, y⟩, y]; exact upI_s
        · rw [if_neg (fun w => y w.2), upI_n y]; exact hfo u hu)
      exact ⟨M2, g1, g2, g3, g4.trans (mpA_n _ _ (by decide)), g5⟩
    · rw [if_neg (fun w => z (hre.mp w))]
      unfold f_laysFaces_b205
      rw [nI_1]
      exact ih m (v + 1) M (by omega) (by omega) hf (fun u hu => by rw [foS, if_neg (fun w => z w.1)]; exact hfo u hu)
theorem e_isAhead (P : fPre F M0 n g nV V q root rd lo ou c) {M : MS} (hf : mFrF M0 M) {o u : Nat} (ho : o < c) (hu : u < c) : f_isAhead F M (nI o) (nI u) = some (bI (ahd g q lo ou o u)) := by
  obtain ⟨hF, h0, hco, hg, hn, hV, hbv, hnV, hE, hq, hw, hseg, hbb, hpar, hrt, hsd, hrd, hc, h16, hlu⟩ := P
  obtain ⟨a1, a2, a3, a4⟩ := hlu o ho
  obtain ⟨b1, b2, b3, b4⟩ := hlu u hu
  have f17 := hf.2.2 17 (by decide) (by decide)
  have f18 := hf.2.2 18 (by decide) (by decide)
  unfold f_isAhead ahd
  rw [rdI_at (by omega) (by decide), rdI_at (by omega) (by decide), f17, a1, b1]
  have hl : nI (lo o) < nI (lo u) ↔ lo o < lo u := nI_ltI a3 b3
  have he : nI (lo o) = nI (lo u) ↔ lo o = lo u := nI_eq a3 b3
  by_cases z1 : lo o < lo u
  · rw [if_pos (hl.mpr z1), decide_eq_true z1]; rfl
  · rw [if_neg (fun w => z1 (hl.mp w)), decide_eq_false z1, rdI_at (by omega) (by decide), rdI_at (by omega) (by decide), a1, b1]
    by_cases z2 : lo o = lo u
    · rw [if_pos (he.mpr z2), decide_eq_true z2, rdI_at (by omega) (by decide), rdI_at (by omega) (by decide), f18, a2, b2, e_wayCross (mCo_frF hco hf) hn (mEdg_frF hE hf) hq a4 b4 (hseg _ (by omega)) (hseg _ (by omega)), cal_some]
      have kw := i32_of _ (wc_bd (g := g) (q := q) (hg _ (hseg (ou o / 2) (by omega))) (hg _ (hseg (ou u / 2) (by omega)))) (by omega)
      by_cases z3 : wc g q (ou o) (ou u) ≤ 0
      · rw [if_pos ((zI_le0 kw).mpr z3), decide_eq_false (show ¬ 0 < wc g q (ou o) (ou u) by omega)]; rfl
      · rw [if_neg (fun w => z3 ((zI_le0 kw).mp w)), decide_eq_true (show 0 < wc g q (ou o) (ou u) by omega)]; rfl
    · rw [if_neg (fun w => z2 (he.mp w)), decide_eq_false z2]; rfl
/-- the numbers of the rounds up to u -/
theorem e_lf66 (P : fPre F M0 n g nV V q root rd lo ou c) {ar : Nat → Bool} {u : Nat} (hu : u < c) (k49 : MS → Int32 → Option MS) :
    ∀ (d m o : Nat) (M : MS), o + d = c → d < m → mFrF M0 M → (∀ w, w < c → M.2.1 19 w = bI (ar w)) → M.2.1 20 u = nI (1 + cnt (fun o => !ar o && ahd g q lo ou o u) o) → ∃ M2, f_laysFaces_L66 F k49 m M (nI u) (nI o) = k49 M2 (nI (u + 1)) ∧ mFrF M0 M2 ∧ (∀ w, w < c → M2.2.1 19 w = bI (ar w)) ∧ M2.1 21 = M.1 21 + bI (!ar u) ∧ M2.2.1 20 u = nI (numF g q ar lo ou c u) ∧ ∀ w, w ≠ u → M2.2.1 20 w = M.2.1 20 w := by
  have P0 := P
  obtain ⟨hF, h0, hco, hg, hn, hV, hbv, hnV, hE, hq, hw, hseg, hbb, hpar, hrt, hsd, hrd, hc, h16, hlu⟩ := P
  intro d
  induction d with
  | zero =>
    intro m o M ho hm hf har hfo
    obtain ⟨m, rfl⟩ : ∃ x, m = x + 1 := ⟨m - 1, by omega⟩
    have e : o = c := by omega
    subst e
    have base : ∀ fl : Bool, fl = !ar u → ∃ M2, f_laysFaces_b131 F k49 M (nI u) (bI fl) (M.1 21) = k49 M2 (nI (u + 1)) ∧ mFrF M0 M2 ∧ (∀ w, w < o → M2.2.1 19 w = bI (ar w)) ∧ M2.1 21 = M.1 21 + bI (!ar u) ∧ M2.2.1 20 u = nI (numF g q ar lo ou o u) ∧ ∀ w, w ≠ u → M2.2.1 20 w = M.2.1 20 w := by
      intro fl hfl
      unfold f_laysFaces_b131 wrF
      rw [nI_1]
      exact ⟨_, rfl, hf.trans ⟨rfl, fun j hj => va_up_ne _ _ hj, fun _ _ _ => rfl⟩, har, by rw [mpF_s, hfl], hfo, fun _ _ => rfl⟩
    rw [f_laysFaces_L66, hf.2.1 16 (by decide), h16, if_pos (Int32.le_refl _), rdI_at (by omega) (by decide), har u hu]
    cases ha : ar u
    · rw [if_pos (show bI false = 0 from rfl)]
      have := base true (by rw [ha]; rfl)
      rw [ha] at this; exact this
    · rw [if_neg (show ¬ bI true = 0 by decide)]
      have := base false (by rw [ha]; rfl)
      rw [ha] at this; exact this
  | succ d ih =>
    intro m o M ho hm hf har hfo
    obtain ⟨m, rfl⟩ : ∃ x, m = x + 1 := ⟨m - 1, by omega⟩
    have hoc : o < c := by omega
    have step : ∀ fl : Bool, fl = (!ar o && ahd g q lo ou o u) → ∃ M2, f_laysFaces_b104 F k49 (f_laysFaces_L66 F k49 m) M (nI u) (nI o) (bI fl) (M.2.1 20 u) (nI u) = k49 M2 (nI (u + 1)) ∧ mFrF M0 M2 ∧ (∀ w, w < c → M2.2.1 19 w = bI (ar w)) ∧ M2.1 21 = M.1 21 + bI (!ar u) ∧ M2.2.1 20 u = nI (numF g q ar lo ou c u) ∧ ∀ w, w ≠ u → M2.2.1 20 w = M.2.1 20 w := by
      intro fl hfl
      unfold f_laysFaces_b104
      rw [wrI_at (by omega) (by decide), nI_1]
      obtain ⟨M2, g1, g2, g3, g4, g5, g6⟩ := ih m (o + 1) (mpA M 20 (upd (M.2.1 20) u (M.2.1 20 u + bI fl))) (by omega) (by omega) (hf.trans ⟨rfl, fun _ _ => rfl, fun j _ b => mpA_n _ _ b⟩) (fun w hw2 => by rw [mpA_n _ _ (by decide)]; exact har w hw2) (by
        rw [mpA_s, upI_s, hfo, cnt, ← hfl]
        cases fl
        · show nI _ + nI 0 = _; rw [nI_add]; rfl
        · show nI _ + nI 1 = _; rw [nI_add]; rfl)
      exact ⟨M2, g1, g2, g3, g4, g5, fun w hw2 => by rw [g6 w hw2, mpA_s, upI_n hw2]⟩
    rw [f_laysFaces_L66, hf.2.1 16 (by decide), h16, if_neg (by rw [nI_leI (by omega) (by omega)]; omega), rdI_at (by omega) (by decide), rdI_at (by omega) (by decide), har o hoc]
    cases ha : ar o
    · rw [if_pos (show bI false = 0 from rfl), e_isAhead P0 hf hoc hu, cal_some]
      cases hh : ahd g q lo ou o u
      · rw [if_pos (show bI false = 0 from rfl)]
        exact step false (by rw [ha, hh]; rfl)
      · rw [if_neg (show ¬ bI true = 0 by decide)]
        exact step true (by rw [ha, hh]; rfl)
    · rw [if_neg (show ¬ bI true = 0 by decide)]
      exact step false (by rw [ha]; rfl)
theorem e_lf49 (P : fPre F M0 n g nV V q root rd lo ou c) {ar : Nat → Bool} :
    ∀ (d m u : Nat) (M : MS), u + d = c → d < m → mFrF M0 M → (∀ w, w < c → M.2.1 19 w = bI (ar w)) → (∀ w, w < u → M.2.1 20 w = nI (numF g q ar lo ou c w)) → M.1 21 = nI (1 + cnt (fun w => !ar w) u) → ∃ M2, f_laysFaces_L49 F m M (nI u) = some M2 ∧ mFrF M0 M2 ∧ (∀ w, w < c → M2.2.1 19 w = bI (ar w)) ∧ M2.1 21 = nI (1 + cnt (fun w => !ar w) c) ∧ ∀ w, w < c → M2.2.1 20 w = nI (foS n g V q rd root (numF g q ar lo ou c) nV w) := by
  have P0 := P
  obtain ⟨hF, h0, hco, hg, hn, hV, hbv, hnV, hE, hq, hw, hseg, hbb, hpar, hrt, hsd, hrd, hc, h16, hlu⟩ := P
  intro d
  induction d with
  | zero =>
    intro m u M hu hm hf har hfo h21
    obtain ⟨m, rfl⟩ : ∃ x, m = x + 1 := ⟨m - 1, by omega⟩
    have e : u = c := by omega
    subst e
    rw [f_laysFaces_L49, hf.2.1 16 (by decide), h16, if_pos (Int32.le_refl _)]
    obtain ⟨M2, g1, g2, g3, g4, g5⟩ := e_lf143 P0 (numF g q ar lo ou u) nV F 0 M (by omega) (by omega) hf hfo
    exact ⟨M2, g1, g2, fun w hw2 => by rw [g4]; exact har w hw2, by rw [g3]; exact h21, g5⟩
  | succ d ih =>
    intro m u M hu hm hf har hfo h21
    obtain ⟨m, rfl⟩ : ∃ x, m = x + 1 := ⟨m - 1, by omega⟩
    have huc : u < c := by omega
    rw [f_laysFaces_L49, hf.2.1 16 (by decide), h16, if_neg (by rw [nI_leI (by omega) (by omega)]; omega), wrI_at (by omega) (by decide)]
    obtain ⟨M2, g1, g2, g3, g4, g5, g6⟩ := e_lf66 P0 (ar := ar) huc (f_laysFaces_L49 F m) c F 0 (mpA M 20 (upd (M.2.1 20) u 1)) (by omega) (by omega) (hf.trans ⟨rfl, fun _ _ => rfl, fun j _ b => mpA_n _ _ b⟩) (fun w hw2 => by rw [mpA_n _ _ (by decide)]; exact har w hw2) (by rw [mpA_s, upI_s]; rfl)
    have g1 : f_laysFaces_L66 F (f_laysFaces_L49 F m) F (mpA M 20 (upd (M.2.1 20) u 1)) (nI u) 0 = f_laysFaces_L49 F m M2 (nI (u + 1)) := g1
    rw [g1]
    refine ih m (u + 1) M2 (by omega) (by omega) g2 g3 (fun w hw2 => ?_) ?_
    · by_cases z : w = u
      · rw [z]; exact g5
      · rw [g6 w z, mpA_s, upI_n z]; exact hfo w (by omega)
    · have e21 : (mpA M 20 (upd (M.2.1 20) u 1)).1 21 = M.1 21 := rfl
      rw [g4, e21, h21, cnt]
      cases ar u
      · show nI _ + nI 1 = _; rw [nI_add]; rfl
      · show nI _ + nI 0 = _; rw [nI_add]; rfl
theorem e_lf2 (P : fPre F M0 n g nV V q root rd lo ou c) :
    ∀ (d m v : Nat) (M : MS), v + d = nV → d < m → mFrF M0 M → (∀ w, w < c → M.2.1 19 w = bI (arS g q rd root v w)) → ∃ M2, f_laysFaces_L2 F m M (nI v) = some M2 ∧ mFrF M0 M2 ∧ (∀ w, w < c → M2.2.1 19 w = bI (arS g q rd root nV w)) ∧ M2.1 21 = nI (1 + cnt (fun w => !arS g q rd root nV w) c) ∧ ∀ w, w < c → M2.2.1 20 w = nI (foS n g V q rd root (numF g q (arS g q rd root nV) lo ou c) nV w) := by
  have P0 := P
  obtain ⟨hF, h0, hco, hg, hn, hV, hbv, hnV, hE, hq, hw, hseg, hbb, hpar, hrt, hsd, hrd, hc, h16, hlu⟩ := P
  intro d
  induction d with
  | zero =>
    intro m v M hv hm hf har
    obtain ⟨m, rfl⟩ : ∃ x, m = x + 1 := ⟨m - 1, by omega⟩
    have e : v = nV := by omega
    subst e
    rw [f_laysFaces_L2, (mVer_frF hV hf).1, if_pos (Int32.le_refl _)]
    unfold wrF
    exact e_lf49 P0 c F 0 (mpF M 21 1) (by omega) (by omega) (hf.trans ⟨rfl, fun j hj => va_up_ne _ _ hj, fun _ _ _ => rfl⟩) har (fun w h => by omega) (mpF_s _ _ _)
  | succ d ih =>
    intro m v M hv hm hf har
    obtain ⟨m, rfl⟩ : ∃ x, m = x + 1 := ⟨m - 1, by omega⟩
    have hvn : v < nV := by omega
    have hVM := mVer_frF hV hf
    have hr := hrt v hvn
    have hp : M.2.1 10 v = nI (root v) := by rw [hf.2.2 10 (by decide) (by decide)]; exact hpar v hvn
    rw [f_laysFaces_L2, hVM.1, if_neg (by rw [nI_leI (by omega) (by omega)]; omega), rdI_at (by omega) (by decide), hp]
    have hre : nI (root v) = nI v ↔ root v = v := nI_eq (by omega) (by omega)
    by_cases z : root v = v
    · obtain ⟨i1, i2, i3⟩ := hiv_ok (g := g) (hsd v hvn)
      have ho := e_highestOut (F := F) hF (mCo_frF hco hf) hg hn (mEdg_frF hE hf) hq hseg hbb (v := v) (by omega)
      rw [i1] at ho
      have ho : f_highestOut F M (nI v) = some (nI (hiv g q v)) := ho
      obtain ⟨r1, r2⟩ := hrd _ i2
      rw [if_pos (hre.mpr z), ho, cal_some, rdI_at (by omega) (by decide), hf.2.2 15 (by decide) (by decide), r1, okB_1, wrI_at (by omega) (by decide)]
      unfold f_laysFaces_b36
      rw [nI_1]
      refine ih m (v + 1) _ (by omega) (by omega) (hf.trans ⟨rfl, fun _ _ => rfl, fun j a _ => mpA_n _ _ a⟩) (fun w hw2 => ?_)
      rw [mpA_s, arS, decide_eq_true z, Bool.true_and]
      by_cases y : w = rd (hiv g q v)
      · rw [decide_eq_true y, Bool.or_true, y]; exact upI_s
      · rw [decide_eq_false y, Bool.or_false, upI_n y]; exact har w hw2
    · rw [if_neg (fun w => z (hre.mp w))]
      unfold f_laysFaces_b36
      rw [nI_1]
      refine ih m (v + 1) M (by omega) (by omega) hf (fun w hw2 => ?_)
      rw [arS, decide_eq_false z, Bool.false_and, Bool.or_false]; exact har w hw2
theorem e_laysFaces (P : fPre F M0 n g nV V q root rd lo ou c) (h19 : ∀ w, w < c → M0.2.1 19 w = 0) :
    ∃ M2, f_laysFaces F M0 = some M2 ∧ mFrF M0 M2 ∧ (∀ w, w < c → M2.2.1 19 w = bI (arS g q rd root nV w)) ∧ M2.1 21 = nI (1 + cnt (fun w => !arS g q rd root nV w) c) ∧ ∀ w, w < c → M2.2.1 20 w = nI (foS n g V q rd root (numF g q (arS g q rd root nV) lo ou c) nV w) := by
  unfold f_laysFaces
  exact e_lf2 P nV F 0 M0 (by omega) (by have := P.1; have := P.2.2.2.2.2.2.2.1; omega) mFrF.rf (fun w hw => h19 w hw)
end MLF
