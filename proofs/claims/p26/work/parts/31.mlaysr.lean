/-! ### laysRounds -/
section MLR
variable {F : Nat} {g : Nat → Sg} {n : Nat} {q : ES} {M0 : MS}
theorem mFrS_of {M M2 : MS} (h : mFrS M0 M) (h2 : mFrS M M2) : mFrS M0 M2 := h.trans h2
theorem e_lr32 (hF : 1000 ≤ F) (hco : mCo M0 n g) (hg : ∀ i, i < n → sOk (g i)) (hn : n ≤ 13) (hE : mEdg M0 q) (hq : q.1 ≤ 158) (hsg : ∀ e, e < q.1 → eS q e < n) (hup : eUp q) (hbb : ∀ s, s < 2 * q.1 → bg q s < 2147483648) (hk : ∀ s t, s < 2 * q.1 → t < 2 * q.1 → bg q s = bg q t → key n g q s = key n g q t → s = t) :
    ∀ (d m w : Nat) (M : MS) (r : Nat → Option Nat) (c : Nat) (lo ou : Nat → Nat), w + d = 2 * q.1 → d < m → c ≤ w → RInv n g q r c lo ou → mRd q M r c lo ou → (∀ s, s < w → r s ≠ none) → mFrS M0 M → ∃ M2 r2 c2 lo2 ou2, f_laysRounds_L32 F m M (nI w) = some M2 ∧ c2 ≤ 2 * q.1 ∧ RInv n g q r2 c2 lo2 ou2 ∧ mRd q M2 r2 c2 lo2 ou2 ∧ (∀ s, s < 2 * q.1 → r2 s ≠ none) ∧ mFrS M0 M2 := by
  intro d
  induction d with
  | zero =>
    intro m w M r c lo ou hw hm hc hR hM hs hf
    obtain ⟨m, rfl⟩ : ∃ x, m = x + 1 := ⟨m - 1, by omega⟩
    have e : w = 2 * q.1 := by omega
    subst e
    refine ⟨M, r, c, lo, ou, ?_, hc, hR, hM, hs, hf⟩
    rw [f_laysRounds_L32, (mEdg_frS hE hf).1, show (2 : Int32) * nI q.1 = nI (2 * q.1) from pk_mul 2 q.1, if_pos (Int32.le_refl _)]
  | succ d ih =>
    intro m w M r c lo ou hw hm hc hR hM hs hf
    obtain ⟨m, rfl⟩ : ∃ x, m = x + 1 := ⟨m - 1, by omega⟩
    have hw2 : w < 2 * q.1 := by omega
    rw [f_laysRounds_L32, (mEdg_frS hE hf).1, show (2 : Int32) * nI q.1 = nI (2 * q.1) from pk_mul 2 q.1, if_neg (by rw [nI_leI (by omega) (by omega)]; omega), rdI_at (by omega) (by decide), hM.1 w hw2]
    cases hrw : r w with
    | none =>
      rw [if_pos (show oI none = -1 from rfl)]
      obtain ⟨M2, r2, lo2, ou2, g1, g2, g3, g4, g5, g6, g7, g8⟩ := e_goesRound hF (mCo_frS hco hf) hg hn (mEdg_frS hE hf) hq hsg hup hbb hk (c := c) (by omega) hR hM hw2 hrw
      rw [g1, cal_some]
      unfold f_laysRounds_b67 wrF
      rw [nI_1]
      have h16 : M2.1 16 = nI c := by rw [g6]; exact hM.2.1
      refine ih m (w + 1) _ r2 (c + 1) lo2 ou2 (by omega) (by omega) (by omega) g2 ⟨g3, ?_, g4⟩ (fun s hs2 => ?_) (hf.trans (g5.trans ⟨rfl, fun j hj => va_up_ne _ _ hj, fun _ _ _ _ _ => rfl⟩))
      · rw [mpF_s, h16, nI_1]
      · rcases Nat.lt_or_ge s w with z | z
        · exact g8 s (hs s z)
        · have e : s = w := by omega
          subst e; exact g7
    | some u =>
      have hu := hR.2.1 w u hw2 hrw
      rw [if_neg (fun z => by have := (oI_m1 (o := some u) (fun x hx => by cases hx; omega)).mp z; cases this)]
      unfold f_laysRounds_b67
      rw [nI_1]
      refine ih m (w + 1) M r c lo ou (by omega) (by omega) (by omega) hR hM (fun s hs2 => ?_) hf
      rcases Nat.lt_or_ge s w with z | z
      · exact hs s z
      · have e : s = w := by omega
        subst e; rw [hrw]; intro y; cases y
theorem e_lr7 (hF : 1000 ≤ F) (hco : mCo M0 n g) (hg : ∀ i, i < n → sOk (g i)) (hn : n ≤ 13) (hE : mEdg M0 q) (hq : q.1 ≤ 158) (hsg : ∀ e, e < q.1 → eS q e < n) (hup : eUp q) (hbb : ∀ s, s < 2 * q.1 → bg q s < 2147483648) (hk : ∀ s t, s < 2 * q.1 → t < 2 * q.1 → bg q s = bg q t → key n g q s = key n g q t → s = t) :
    ∀ (d m w : Nat) (M : MS), w + d = 2 * q.1 → d < m → (∀ s, s < w → M.2.1 15 s = -1) → M.1 16 = 0 → mFrS M0 M → ∃ M2 r2 c2 lo2 ou2, f_laysRounds_L7 F m M (nI w) = some M2 ∧ c2 ≤ 2 * q.1 ∧ RInv n g q r2 c2 lo2 ou2 ∧ mRd q M2 r2 c2 lo2 ou2 ∧ (∀ s, s < 2 * q.1 → r2 s ≠ none) ∧ mFrS M0 M2 := by
  intro d
  induction d with
  | zero =>
    intro m w M hw hm hs h16 hf
    obtain ⟨m, rfl⟩ : ∃ x, m = x + 1 := ⟨m - 1, by omega⟩
    have e : w = 2 * q.1 := by omega
    subst e
    rw [f_laysRounds_L7, (mEdg_frS hE hf).1, show (2 : Int32) * nI q.1 = nI (2 * q.1) from pk_mul 2 q.1, if_pos (Int32.le_refl _)]
    exact e_lr32 hF hco hg hn hE hq hsg hup hbb hk (2 * q.1) F 0 M (fun _ => none) 0 (fun _ => 0) (fun _ => 0) (by omega) (by omega) (by omega) ⟨fun _ _ => rfl, (fun s u _ h => by cases h), (fun s t u _ _ h => by cases h), fun u hu => by omega⟩ ⟨fun s h => hs s h, h16, fun u hu => by omega⟩ (fun s h => by omega) hf
  | succ d ih =>
    intro m w M hw hm hs h16 hf
    obtain ⟨m, rfl⟩ : ∃ x, m = x + 1 := ⟨m - 1, by omega⟩
    rw [f_laysRounds_L7, (mEdg_frS hE hf).1, show (2 : Int32) * nI q.1 = nI (2 * q.1) from pk_mul 2 q.1, if_neg (by rw [nI_leI (by omega) (by omega)]; omega), wrI_at (by omega) (by decide), nI_1]
    refine ih m (w + 1) _ (by omega) (by omega) (fun s hs2 => ?_) h16 (hf.trans ⟨rfl, fun _ _ => rfl, fun j a _ _ _ => mpA_n _ _ a⟩)
    rw [mpA_s]
    by_cases z : s = w
    · rw [z]; exact upI_s
    · rw [upI_n z]; exact hs s (by omega)
theorem e_laysRounds (hF : 1000 ≤ F) (hco : mCo M0 n g) (hg : ∀ i, i < n → sOk (g i)) (hn : n ≤ 13) (hE : mEdg M0 q) (hq : q.1 ≤ 158) (hsg : ∀ e, e < q.1 → eS q e < n) (hup : eUp q) (hbb : ∀ s, s < 2 * q.1 → bg q s < 2147483648) (hk : ∀ s t, s < 2 * q.1 → t < 2 * q.1 → bg q s = bg q t → key n g q s = key n g q t → s = t) :
    ∃ M2 r2 c2 lo2 ou2, f_laysRounds F M0 = some M2 ∧ c2 ≤ 2 * q.1 ∧ RInv n g q r2 c2 lo2 ou2 ∧ mRd q M2 r2 c2 lo2 ou2 ∧ (∀ s, s < 2 * q.1 → r2 s ≠ none) ∧ mFrS M0 M2 := by
  unfold f_laysRounds wrF
  exact e_lr7 hF hco hg hn hE hq hsg hup hbb hk (2 * q.1) F 0 (mpF M0 16 0) (by omega) (by omega) (fun s h => by omega) (mpF_s _ _ _) ⟨rfl, fun j hj => va_up_ne _ _ hj, fun _ _ _ _ _ => rfl⟩
end MLR
