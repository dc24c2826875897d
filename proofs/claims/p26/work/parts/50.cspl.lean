/-! ### the class lays the sides of one line -/
section CSL
variable {F : Nat} {S : CS} {D : CD} {A : Nat → Nat} {n nV : Nat} {g : Nat → Sg} {q : ES}
def cRng (n nV : Nat) (g : Nat → Sg) (q : ES) (D : CD) (A : Nat → Nat) (P : Nat → Bool) : Prop := rng n nV g q P (D.2.2.1 (A 16)) (D.2.2.1 (A 17)) (D.2.2.1 (A 18)) (D.2.2.1 (A 28))
/-- the rows of the edges -/
def cE3 (D : CD) (A : Nat → Nat) (q : ES) : Prop := D.1 (A 5) 5 = nI q.1 ∧ ∀ i, i < q.1 → D.2.2.1 (A 25) i = nI (eS q i) ∧ D.2.2.1 (A 26) i = nI (eF q i) ∧ D.2.2.1 (A 27) i = nI (eT q i)
theorem cE3_R (hL : cLay S A) {D2 : CD} {R : List Nat} (h : cE3 D A q) (hf : cFrR A R D D2) (hR : ∀ r, r ∈ R → r < 124 ∧ r ≠ 25 ∧ r ≠ 26 ∧ r ≠ 27) : cE3 D2 A q := by
  refine ⟨by rw [hf.1]; exact h.1, fun i hi => ?_⟩
  rw [hf.row hL (j := 25) (by omega) (fun r hr => ⟨(hR r hr).1, (hR r hr).2.1⟩), hf.row hL (j := 26) (by omega) (fun r hr => ⟨(hR r hr).1, (hR r hr).2.2.1⟩), hf.row hL (j := 27) (by omega) (fun r hr => ⟨(hR r hr).1, (hR r hr).2.2.2⟩)]
  exact h.2 i hi
/-- the laid sides: those before, and the ones of the line l with parity b below the edge e -/
def pLn (q : ES) (P : Nat → Bool) (l b e : Nat) : Nat → Bool := fun s => P s || (decide (s % 2 = b) && decide (s / 2 < e) && decide (eS q (s / 2) = l))
theorem pLn_0 (P : Nat → Bool) (l b : Nat) : pLn q P l b 0 = P := by
  funext s
  unfold pLn
  rw [decide_eq_false (show ¬ s / 2 < 0 by omega), Bool.and_false, Bool.false_and, Bool.or_false]
theorem pLn_t (P : Nat → Bool) {l b e : Nat} (hb : b < 2) (h : eS q e = l) : pLn q P l b (e + 1) = fun s => pLn q P l b e s || decide (s = 2 * e + b) := by
  funext s
  unfold pLn
  by_cases z : s = 2 * e + b
  · have h1 : s / 2 = e := by omega
    rw [decide_eq_true z, Bool.or_true, decide_eq_true (show s % 2 = b by omega), decide_eq_true (show s / 2 < e + 1 by omega), decide_eq_true (show eS q (s / 2) = l by rw [h1]; exact h)]
    simp
  · rw [decide_eq_false z, Bool.or_false]
    by_cases y : s % 2 = b
    · have : s / 2 < e + 1 ↔ s / 2 < e := by omega
      rw [show decide (s / 2 < e + 1) = decide (s / 2 < e) from decide_eq_decide.mpr this]
    · rw [decide_eq_false y]; simp
theorem pLn_f (P : Nat → Bool) {l b e : Nat} (h : eS q e ≠ l) : pLn q P l b (e + 1) = pLn q P l b e := by
  funext s
  unfold pLn
  by_cases z : s / 2 = e
  · rw [decide_eq_false (show ¬ eS q (s / 2) = l by rw [z]; exact h), Bool.and_false, Bool.and_false]
  · have : s / 2 < e + 1 ↔ s / 2 < e := by omega
    rw [show decide (s / 2 < e + 1) = decide (s / 2 < e) from decide_eq_decide.mpr this]
theorem k_spl (hL : cLay S A) (hE : cE3 D A q) (hq : q.1 ≤ 144) (hnV : nV ≤ 90) (hbg : ∀ s, s < 2 * q.1 → bg q s < nV) (hk : ∀ s t, s < 2 * q.1 → t < 2 * q.1 → bg q s = bg q t → key n g q s = key n g q t → s = t) {P : Nat → Bool} {l b : Nat} (hl : l < 100) (hb : b < 2) (hP1 : ∀ s, s < 2 * q.1 → s % 2 = b → eS q (s / 2) = l → P s = false) (hP2 : ∀ s x, s < 2 * q.1 → x < 2 * q.1 → P s = true → x % 2 = b → eS q (x / 2) = l → key n g q s ≤ key n g q x) (hseg : ∀ e, e < q.1 → eS q e < 100) :
    ∀ (d m e : Nat) (D1 : CD), e + d = q.1 → d < m → cFrR A [16, 17, 18, 28] D D1 → cRng n nV g q D1 A (pLn q P l b e) → ∃ D2, f_X6_spreadLine_L2 F S (A 0) m D1 (nI l) (if b = 0 then 1 else 0) (nI e) = some D2 ∧ cFrR A [16, 17, 18, 28] D D2 ∧ cRng n nV g q D2 A (pLn q P l b q.1) := by
  intro d
  induction d with
  | zero =>
    intro m e D1 hj hm hf hr
    obtain ⟨m, rfl⟩ : ∃ q, m = q + 1 := ⟨m - 1, by omega⟩
    have e0 : e = q.1 := by omega
    subst e0
    rw [f_X6_spreadLine_L2, ly_k hL 0 (by decide) (by decide), ly_r hL 0 3 5 (by decide), ly_k hL 5 (by decide) (by decide), hf.1, hE.1, if_pos (Int32.le_refl _)]
    exact ⟨D1, rfl, hf, hr⟩
  | succ d ih =>
    intro m e D1 hj hm hf hr
    obtain ⟨m, rfl⟩ : ∃ q, m = q + 1 := ⟨m - 1, by omega⟩
    have hen : e < q.1 := by omega
    have hE1 := cE3_R hL hE hf (by decide)
    obtain ⟨x1, x2, x3⟩ := hE1.2 e hen
    have hs := hseg e hen
    have hel : nI (eS q e) = nI l ↔ eS q e = l := nI_eq (by omega) (by omega)
    rw [f_X6_spreadLine_L2, ly_k hL 0 (by decide) (by decide), ly_r hL 0 3 5 (by decide), ly_k hL 5 (by decide) (by decide), hE1.1, if_neg (by rw [nI_leI (by omega) (by omega)]; omega), ly_r hL 0 3 5 (by decide), ly_k hL 5 (by decide) (by decide), ly_r hL 5 0 20 (by decide), ly_k hL 20 (by decide) (by decide), k_get (rw_line hL) (by omega), cal_some, x1]
    by_cases z : eS q e = l
    · have hx : 2 * e + b < 2 * q.1 := by omega
      have hxb : (2 * e + b) % 2 = b := by omega
      have hxe : (2 * e + b) / 2 = e := by omega
      have hPx : pLn q P l b e (2 * e + b) = false := by
        unfold pLn
        rw [hP1 _ hx hxb (by rw [hxe]; exact z), decide_eq_false (show ¬ (2 * e + b) / 2 < e by omega)]
        simp
      obtain ⟨c, t, c1, c2, c3, c4⟩ := rng_add hr hx hPx (hbg _ hx) (by omega) hk (fun s hs2 hps hbs => by
        have hle : key n g q s ≤ key n g q (2 * e + b) := by
          unfold pLn at hps
          rw [Bool.or_eq_true] at hps
          rcases hps with w | w
          · exact hP2 s _ hs2 hx w hxb (by rw [hxe]; exact z)
          · simp only [Bool.and_eq_true, decide_eq_true_iff] at w
            unfold key sgm
            rw [w.1.1, w.2, hxb, hxe, z]
            exact Nat.le_refl _
        rcases Nat.lt_or_ge (key n g q s) (key n g q (2 * e + b)) with w | w
        · exact w
        · have := hk s _ hs2 hx hbs (by omega)
          subst this
          rw [hPx] at hps; cases hps)
      have hv := hbg _ hx
      obtain ⟨D2, g1, g2, g3, g4, g5, g6⟩ := k_spreadSide (F := F) (D := D1) hL (v := bg q (2 * e + b)) (s := 2 * e + b) (c := c) (t := t) (by omega) (by omega) c1 c2 (fun w => ⟨(c3 w).1, by have := (c3 w).2; omega⟩)
      have hr2 : cRng n nV g q D2 A (pLn q P l b (e + 1)) := by
        unfold cRng
        rw [pLn_t P hb z, g3, g4, g5, g6]; exact c4
      have t2 : (2 : Int32) * nI e = nI (2 * e) := by rw [show (2 : Int32) = zI 2 from rfl, nI_zI, zI_mul, nI_zI]; rfl
      have hr3 := ih m (e + 1) D2 (by omega) (by omega) (hf.trans g2) hr2
      rw [if_pos (hel.mpr z)]
      unfold f_X6_spreadLine_b57 f_X6_spreadLine_b77 f_X6_spreadLine_b80
      by_cases y : b = 0
      · subst y
        have hb0 : bg q (2 * e + 0) = eF q e := by unfold bg; rw [if_pos (by omega), hxe]
        rw [hb0] at g1
        rw [if_pos rfl, if_neg (by decide), ly_r hL 0 3 5 (by decide), ly_k hL 5 (by decide) (by decide), ly_r hL 5 1 21 (by decide), ly_k hL 21 (by decide) (by decide), k_get (rw_start hL) (by omega), cal_some, x2, if_neg (by decide), t2, ly_k hL 0 (by decide) (by decide), nI_1]
        rw [Nat.add_zero] at g1
        rw [g1, cal_some]
        exact hr3
      · have hb1 : b = 1 := by omega
        subst hb1
        have hb0 : bg q (2 * e + 1) = eT q e := by unfold bg; rw [if_neg (by omega), hxe]
        rw [hb0] at g1
        have hif : (if (1 : Nat) = 0 then (1 : Int32) else 0) = 0 := rfl
        rw [if_pos hif, ly_r hL 0 3 5 (by decide), ly_k hL 5 (by decide) (by decide), ly_r hL 5 2 22 (by decide), ly_k hL 22 (by decide) (by decide), k_get (rw_end hL) (by omega), cal_some, x3, if_pos hif, t2, ly_k hL 0 (by decide) (by decide), nI_1, nI_1, g1, cal_some]
        exact hr3
    · rw [if_neg (fun w => z (hel.mp w))]
      unfold f_X6_spreadLine_b80
      rw [nI_1]
      exact ih m (e + 1) D1 (by omega) (by omega) hf (by rw [pLn_f P z]; exact hr)
end CSL
