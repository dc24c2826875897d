/-! ### the reference's next way: the side before the twin, around its vertex -/
def ckey (n : Nat) (g : Nat → Sg) (q : ES) (t s : Nat) : Nat := if key n g q s < key n g q t then key n g q s + 2 * (n + 1) else key n g q s
def scn (n : Nat) (g : Nat → Sg) (q : ES) (t : Nat) : Nat → Nat
  | 0 => t
  | j + 1 => if bg q j = bg q t ∧ ckey n g q t (scn n g q t j) < ckey n g q t j then j else scn n g q t j
/-- the side before t, around its vertex -/
def below (n : Nat) (g : Nat → Sg) (q : ES) (t : Nat) : Nat := scn n g q t (2 * q.1)
def nxt (n : Nat) (g : Nat → Sg) (q : ES) (t : Nat) : Nat := below n g q (tw t)
theorem scn_max (n : Nat) (g : Nat → Sg) (q : ES) (t : Nat) : ∀ j, bg q (scn n g q t j) = bg q t ∧ (scn n g q t j = t ∨ scn n g q t j < j) ∧ ckey n g q t t ≤ ckey n g q t (scn n g q t j) ∧ ∀ s, s < j → bg q s = bg q t → ckey n g q t s ≤ ckey n g q t (scn n g q t j) := by
  intro j
  induction j with
  | zero => exact ⟨rfl, Or.inl rfl, Nat.le_refl _, fun s h => by omega⟩
  | succ j ih =>
    obtain ⟨h1, h2, h3, h4⟩ := ih
    rw [scn]
    split
    · next hc =>
      refine ⟨hc.1, Or.inr (by omega), by omega, fun s hs hb => ?_⟩
      rcases Nat.lt_or_ge s j with z | z
      · have := h4 s z hb; omega
      · have e : s = j := by omega
        subst e; exact Nat.le_refl _
    · next hc =>
      refine ⟨h1, h2.imp id (fun h => by omega), h3, fun s hs hb => ?_⟩
      rcases Nat.lt_or_ge s j with z | z
      · exact h4 s z hb
      · have e : s = j := by omega
        subst e
        rcases Nat.lt_or_ge (ckey n g q t (scn n g q t s)) (ckey n g q t s) with y | y
        · exact absurd ⟨hb, y⟩ hc
        · exact y
def wc (g : Nat → Sg) (q : ES) (s t : Nat) : Int := if s % 2 = t % 2 then cr (g (sgm q s)) (g (sgm q t)) else -cr (g (sgm q s)) (g (sgm q t))
def trR (a r b s : Nat) : Nat := if a = b then (if s < r then 0 else if r < s then 2 else 3) else (if r < s then 0 else if s < r then 2 else 1)
def trn (n : Nat) (g : Nat → Sg) (q : ES) (t s : Nat) : Nat := trR (t % 2) (srk n g (sgm q t)) (s % 2) (srk n g (sgm q s))
theorem wc_sign {n : Nat} {g : Nat → Sg} {q : ES} (hg : ∀ i, i < n → sOk (g i)) {s t : Nat} (hs : sgm q s < n) (ht : sgm q t < n) : (wc g q s t < 0 ↔ if s % 2 = t % 2 then srk n g (sgm q t) < srk n g (sgm q s) else srk n g (sgm q s) < srk n g (sgm q t)) ∧ (0 < wc g q s t ↔ if s % 2 = t % 2 then srk n g (sgm q s) < srk n g (sgm q t) else srk n g (sgm q t) < srk n g (sgm q s)) := by
  obtain ⟨h1, h2, h3⟩ := srk_iff hg hs ht
  unfold wc
  split
  · exact ⟨h3, h1⟩
  · constructor
    · rw [← h1]; omega
    · rw [← h3]; omega
theorem trn_claim {n : Nat} {g : Nat → Sg} {q : ES} (hg : ∀ i, i < n → sOk (g i)) {t o f : Nat} (ho : sgm q o < n) (hf : sgm q f < n) : (trn n g q t o < trn n g q t f ∨ (trn n g q t o = trn n g q t f ∧ wc g q o f < 0)) ↔ ckey n g q t f < ckey n g q t o := by
  rw [(wc_sign hg ho hf).1]
  unfold trn trR ckey key
  have b1 := srk_le n g (sgm q t)
  have b2 := srk_le n g (sgm q o)
  have b3 := srk_le n g (sgm q f)
  generalize srk n g (sgm q t) = rt at *
  generalize srk n g (sgm q o) = ro at *
  generalize srk n g (sgm q f) = rf at *
  rcases (show t % 2 = 0 ∨ t % 2 = 1 by omega) with a | a <;> rcases (show o % 2 = 0 ∨ o % 2 = 1 by omega) with b | b <;> rcases (show f % 2 = 0 ∨ f % 2 = 1 by omega) with c | c <;> simp only [a, b, c, Nat.zero_mul, Nat.one_mul, Nat.zero_add, if_true, if_false, Nat.zero_ne_one, Nat.one_ne_zero, reduceIte] <;> (repeat' split) <;> omega
theorem dot_pos {a b : Sg} (ha : sOk a) (hb : sOk b) (h : cr a b = 0) : 0 < dX a * dX b + dY a * dY b := by
  have da := dirZ ha
  have db := dirZ hb
  unfold cr at h
  generalize dX a = p at *
  generalize dY a = q at *
  generalize dX b = r at *
  generalize dY b = s at *
  rcases da with h1 | ⟨h1, h2⟩
  · rcases db with h3 | ⟨h3, h4⟩
    · have m := Int.mul_pos h1 h3
      rcases Int.lt_or_le (q * s) 0 with z | z
      · exfalso
        have m2 := Int.mul_pos m (show 0 < -(q * s) by omega)
        have e : p * r * -(q * s) = -((q * r) * (p * s)) := by grind
        have e2 : p * s = q * r := by omega
        rw [e2] at e
        have m3 : 0 ≤ (q * r) * (q * r) := by
          rcases Int.lt_or_le (q * r) 0 with y | y
          · have := Int.mul_pos (show 0 < -(q * r) by omega) (show 0 < -(q * r) by omega)
            have e3 : -(q * r) * -(q * r) = (q * r) * (q * r) := by grind
            omega
          · exact Int.mul_nonneg y y
        omega
      · omega
    · exfalso
      subst h3
      have := Int.mul_pos h1 h4
      omega
  · subst h1
    have hr : r = 0 := by
      have : q * r = 0 := by omega
      rcases Int.mul_eq_zero.mp this with w | w
      · omega
      · exact w
    subst hr
    rcases db with h3 | ⟨-, h4⟩
    · omega
    · have := Int.mul_pos h2 h4
      omega
section MNX
variable {F : Nat} {M : MS} {g : Nat → Sg} {n nV : Nat} {q : ES}
theorem nI_half (t : Nat) (ht : t < 2147483648) : nI t / 2 = nI (t / 2) := pk_div (a := t) (d := 2) ht (by decide) (by decide)
theorem nI_par (t : Nat) (ht : t < 2147483648) : nI t - nI t / 2 * 2 = nI (t % 2) := pk_rem (a := t) (d := 2) ht (by decide) (by decide)
theorem nI_par0 (t : Nat) (ht : t < 2147483648) : nI t - nI t / 2 * 2 = 0 ↔ t % 2 = 0 := by
  rw [nI_par t ht]; exact nI_eq (a := t % 2) (b := 0) (by omega) (by decide)
theorem e_begin (hE : mEdg M q) (hq : q.1 ≤ 158) {t : Nat} (ht : t < 2 * q.1) : f_begin F M (nI t) = some (nI (bg q t)) := by
  unfold f_begin bg
  obtain ⟨-, h⟩ := hE
  obtain ⟨h1, h2, h3⟩ := h (t / 2) (by omega)
  rw [nI_half t (by omega)]
  by_cases z : t % 2 = 0
  · rw [if_pos z, if_pos (by rw [← nI_half t (by omega)]; exact (nI_par0 t (by omega)).mpr z), rdI_at (by omega) (by decide), h2]
  · rw [if_neg z, if_neg (by rw [← nI_half t (by omega)]; exact fun y => z ((nI_par0 t (by omega)).mp y)), rdI_at (by omega) (by decide), h3]
theorem e_back {t : Nat} (ht : t < 2147483647) : f_back F M (nI t) = some (nI (tw t)) := by
  unfold f_back tw
  by_cases z : t % 2 = 0
  · rw [if_pos z, if_pos ((nI_par0 t (by omega)).mpr z), nI_1]
  · rw [if_neg z, if_neg (fun y => z ((nI_par0 t (by omega)).mp y)), show t = (t - 1) + 1 by omega, nI_pred]
    rfl
theorem wc_bd {s t : Nat} (hs : sOk (g (sgm q s))) (ht : sOk (g (sgm q t))) : -20000 ≤ wc g q s t ∧ wc g q s t ≤ 20000 := by
  have := cr_bd hs ht; unfold wc; split <;> omega
theorem e_wayCross (hco : mCo M n g) (hn : n ≤ 13) (hE : mEdg M q) (hq : q.1 ≤ 158) {s t : Nat} (hs : s < 2 * q.1) (ht : t < 2 * q.1) (hs2 : sgm q s < n) (ht2 : sgm q t < n) : f_wayCross F M (nI s) (nI t) = some (zI (wc g q s t)) := by
  unfold f_wayCross wc
  obtain ⟨-, h⟩ := hE
  have h1 : M.2.1 12 (s / 2) = nI (sgm q s) := (h (s / 2) (by omega)).1
  have h2 : M.2.1 12 (t / 2) = nI (sgm q t) := (h (t / 2) (by omega)).1
  rw [nI_par s (by omega), nI_par t (by omega), nI_half s (by omega), nI_half t (by omega), rdI_at (by omega) (by decide), rdI_at (by omega) (by decide), h1, h2, e_cross hco hs2 ht2 hn, cal_some]
  by_cases z : s % 2 = t % 2
  · rw [if_pos z, if_pos (by rw [z])]
  · rw [if_neg z, if_neg (fun y => z ((nI_eq (by omega) (by omega)).mp y)), zI_neg]
theorem e_turn (hco : mCo M n g) (hg : ∀ i, i < n → sOk (g i)) (hn : n ≤ 13) (hE : mEdg M q) (hq : q.1 ≤ 158) {t s : Nat} (ht : t < 2 * q.1) (hs : s < 2 * q.1) (ht2 : sgm q t < n) (hs2 : sgm q s < n) : f_turn F M (nI t) (nI s) = some (nI (trn n g q t s)) := by
  have hw := wc_bd (q := q) (hg _ ht2) (hg _ hs2)
  have k := i32_of _ hw (by omega)
  obtain ⟨w1, w2⟩ := wc_sign (q := q) hg ht2 hs2
  unfold f_turn
  rw [e_wayCross hco hn hE hq ht hs ht2 hs2, cal_some]
  unfold trn trR
  by_cases z1 : wc g q t s < 0
  · rw [if_neg (fun y => by have := (zI_0le k).mp y; omega)]
    have := w1.mp z1
    by_cases p : t % 2 = s % 2
    · rw [if_pos p] at this; rw [if_pos p, if_pos this]; rfl
    · rw [if_neg p] at this; rw [if_neg p, if_pos this]; rfl
  · rw [if_pos ((zI_0le k).mpr (by omega))]
    by_cases z2 : 0 < wc g q t s
    · rw [if_neg (fun y => by have := (zI_le0 k).mp y; omega)]
      have := w2.mp z2
      by_cases p : t % 2 = s % 2
      · rw [if_pos p] at this; rw [if_pos p, if_neg (by omega), if_pos this]; rfl
      · rw [if_neg p] at this; rw [if_neg p, if_neg (by omega), if_pos this]; rfl
    · rw [if_pos ((zI_le0 k).mpr (by omega))]
      have hr : srk n g (sgm q t) = srk n g (sgm q s) := by
        by_cases p : t % 2 = s % 2
        · rw [if_pos p] at w1 w2; have := mt w1.mpr z1; have := mt w2.mpr z2; omega
        · rw [if_neg p] at w1 w2; have := mt w1.mpr z1; have := mt w2.mpr z2; omega
      have hc : cr (g (sgm q t)) (g (sgm q s)) = 0 := ((srk_iff hg ht2 hs2).2.1).mpr hr
      have hd := dot_pos (hg _ ht2) (hg _ hs2) hc
      have hb := mul_bd (dX_bd (hg _ ht2)) (dX_bd (hg _ hs2))
      have hb2 := mul_bd (dY_bd (hg _ ht2)) (dY_bd (hg _ hs2))
      have ed : f_wayDot F M (nI t) (nI s) = some (zI (if t % 2 = s % 2 then dX (g (sgm q t)) * dX (g (sgm q s)) + dY (g (sgm q t)) * dY (g (sgm q s)) else -(dX (g (sgm q t)) * dX (g (sgm q s)) + dY (g (sgm q t)) * dY (g (sgm q s))))) := by
        unfold f_wayDot
        obtain ⟨-, h⟩ := hE
        have h1 : M.2.1 12 (t / 2) = nI (sgm q t) := (h (t / 2) (by omega)).1
        have h2 : M.2.1 12 (s / 2) = nI (sgm q s) := (h (s / 2) (by omega)).1
        rw [nI_par s (by omega), nI_par t (by omega), nI_half s (by omega), nI_half t (by omega), rdI_at (by omega) (by decide), rdI_at (by omega) (by decide), h1, h2, e_dx hco ht2 hn, cal_some, e_dx hco hs2 hn, cal_some, e_dy hco ht2 hn, cal_some, e_dy hco hs2 hn, cal_some, zI_mul, zI_mul, zI_add]
        by_cases z : t % 2 = s % 2
        · rw [if_pos z, if_pos (by rw [z])]
        · rw [if_neg z, if_neg (fun y => z ((nI_eq (by omega) (by omega)).mp y)), zI_neg]
      rw [ed, cal_some]
      rw [hr]
      generalize hD : dX (g (sgm q t)) * dX (g (sgm q s)) + dY (g (sgm q t)) * dY (g (sgm q s)) = D at *
      have hD1 : i32 D := ⟨by omega, by omega⟩
      have hD2 : i32 (-D) := ⟨by omega, by omega⟩
      simp only [Nat.lt_irrefl, if_false]
      by_cases p : t % 2 = s % 2
      · rw [if_pos p, if_pos p, if_pos ((zI_0le hD1).mpr (by omega))]; rfl
      · rw [if_neg p, if_neg p, if_neg (fun y => by have := (zI_0le hD2).mp y; omega)]; rfl
theorem trn_le (t s : Nat) : trn n g q t s ≤ 3 := by
  unfold trn trR; repeat' split
  all_goals omega
theorem e_next (hF : 1000 ≤ F) (hco : mCo M n g) (hg : ∀ i, i < n → sOk (g i)) (hn : n ≤ 13) (hE : mEdg M q) (hq : q.1 ≤ 158) (hsg : ∀ e, e < q.1 → eS q e < n) (hbb : ∀ s, s < 2 * q.1 → bg q s < 2147483648) {t : Nat} (ht : t < 2 * q.1) : f_next F M (nI t) = some (nI (nxt n g q t)) := by
  unfold f_next
  rw [e_back (by omega), cal_some]
  have htt := tw_lt ht
  have hseg : ∀ s, s < 2 * q.1 → sgm q s < n := fun s hs => hsg _ (by omega)
  have key : ∀ (d m j : Nat), j + d = 2 * q.1 → d < m → f_next_L10 F M m (nI (tw t)) (nI (scn n g q (tw t) j)) (nI j) = some (nI (nxt n g q t)) := by
    intro d
    induction d with
    | zero =>
      intro m j hj hm
      obtain ⟨m, rfl⟩ : ∃ x, m = x + 1 := ⟨m - 1, by omega⟩
      have e : j = 2 * q.1 := by omega
      subst e
      rw [f_next_L10, hE.1, show (2 : Int32) * nI q.1 = nI (2 * q.1) from pk_mul 2 q.1, if_pos (Int32.le_refl _)]; rfl
    | succ d ih =>
      intro m j hj hm
      obtain ⟨m, rfl⟩ : ∃ x, m = x + 1 := ⟨m - 1, by omega⟩
      have hj2 : j < 2 * q.1 := by omega
      obtain ⟨m1, m2, -, -⟩ := scn_max n g q (tw t) j
      have hsc : scn n g q (tw t) j < 2 * q.1 := by omega
      have go := ih m (j + 1) (by omega) (by omega)
      rw [f_next_L10, hE.1, show (2 : Int32) * nI q.1 = nI (2 * q.1) from pk_mul 2 q.1, if_neg (by rw [nI_leI (by omega) (by omega)]; omega), e_begin hE hq hj2, cal_some, e_begin hE hq htt, cal_some]
      have keep : scn n g q (tw t) (j + 1) = scn n g q (tw t) j → f_next_b78 F (f_next_L10 F M m) M (nI (tw t)) (nI (scn n g q (tw t) j)) (nI j) = some (nI (nxt n g q t)) := by
        intro e
        unfold f_next_b78
        rw [nI_1, ← e]; exact go
      have take : scn n g q (tw t) (j + 1) = j → f_next_b78 F (f_next_L10 F M m) M (nI (tw t)) (nI j) (nI j) = some (nI (nxt n g q t)) := by
        intro e
        unfold f_next_b78
        rw [nI_1]; rw [e] at go; exact go
      have hbg : ∀ s, s < 2 * q.1 → bg q s < 2147483648 := fun s hs => hbb s hs
      have hbe : nI (bg q j) = nI (bg q (tw t)) ↔ bg q j = bg q (tw t) := nI_eq (hbg j hj2) (hbg _ htt)
      have hclaim := trn_claim (g := g) (n := n) (q := q) hg (t := tw t) (o := j) (f := scn n g q (tw t) j) (hseg j hj2) (hseg _ hsc)
      by_cases z : bg q j = bg q (tw t)
      · rw [if_pos (hbe.mpr z), e_turn hco hg hn hE hq htt hj2 (hseg _ htt) (hseg _ hj2), cal_some, e_turn hco hg hn hE hq htt hsc (hseg _ htt) (hseg _ hsc), cal_some, nI_zI, nI_zI, zI_sub]
        have l1 := trn_le (n := n) (g := g) (q := q) (tw t) j
        have l2 := trn_le (n := n) (g := g) (q := q) (tw t) (scn n g q (tw t) j)
        generalize trn n g q (tw t) j = A at *
        generalize trn n g q (tw t) (scn n g q (tw t) j) = B at *
        have k32 : i32 ((A : Int) - (B : Int)) := ⟨by omega, by omega⟩
        have kw := i32_of _ (wc_bd (g := g) (q := q) (hg _ (hseg j hj2)) (hg _ (hseg _ hsc))) (by omega)
        by_cases y1 : A < B
        · rw [if_pos ((zI_lt0 k32).mpr (by omega))]
          exact take (by rw [scn, if_pos ⟨z, hclaim.mp (Or.inl y1)⟩])
        · rw [if_neg (fun w => by have := (zI_lt0 k32).mp w; omega)]
          by_cases y2 : A = B
          · rw [if_pos ((zI_eq0 k32).mpr (by omega)), e_wayCross hco hn hE hq hj2 hsc (hseg j hj2) (hseg _ hsc), cal_some]
            by_cases y3 : wc g q j (scn n g q (tw t) j) < 0
            · rw [if_neg (fun w => by have := (zI_0le kw).mp w; omega)]
              exact take (by rw [scn, if_pos ⟨z, hclaim.mp (Or.inr ⟨y2, y3⟩)⟩])
            · rw [if_pos ((zI_0le kw).mpr (by omega))]
              exact keep (by rw [scn, if_neg (fun w => (hclaim.mpr w.2).elim y1 (fun u => y3 u.2))])
          · rw [if_neg (fun w => by have := (zI_eq0 k32).mp w; omega)]
            exact keep (by rw [scn, if_neg (fun w => (hclaim.mpr w.2).elim y1 (fun u => y2 u.1))])
      · rw [if_neg (fun w => z (hbe.mp w))]
        exact keep (by rw [scn, if_neg (fun w => z w.1)])
  exact key (2 * q.1) F 0 (by omega) (by omega)
end MNX
