/-! ### faceAbove, isAhead, highestOut in the reference -/
section MAC
variable {F : Nat} {M : MS} {g : Nat → Sg} {n nV : Nat} {V : Nat → Pt} {q : ES}
theorem e_faceAbove (hF : 1000 ≤ F) (h0 : M.1 0 = nI n) (hco : mCo M n g) (hg : ∀ i, i < n → sOk (g i)) (hn : n ≤ 13) (hV : mVer M nV V) (hbv : ∀ i, i < nV → bV (V i)) (hnV : nV ≤ 99) (hE : mEdg M q) (hq : q.1 ≤ 158) (hw : eW q nV) (hseg : ∀ e, e < q.1 → eS q e < n) {p : Pt} (hp : bV p) {rd fo : Nat → Nat} (hrd : ∀ s, s < 2 * q.1 → M.2.1 15 s = nI (rd s) ∧ rd s < 320) (hfo : ∀ s, s < 2 * q.1 → M.2.1 20 (rd s) = nI (fo (rd s))) (L : Bool) :
    f_faceAbove F M (zL p.1.num) (zL p.1.den) (zL p.2.num) (zL p.2.den) (bI L) = some (nI (fAv L n g V q rd fo p)) := by
  have key : ∀ (d m i : Nat), i + d = n → d < m → f_faceAbove_L6 F M m (zL p.1.num) (zL p.1.den) (zL p.2.num) (zL p.2.den) (bI L) (oI (fAs L g p i)) (nI i) = some (nI (fAv L n g V q rd fo p)) := by
    intro d
    induction d with
    | zero =>
      intro m i hi hm
      obtain ⟨m, rfl⟩ : ∃ x, m = x + 1 := ⟨m - 1, by omega⟩
      have e : i = n := by omega
      subst e
      rw [f_faceAbove_L6, h0, if_pos (Int32.le_refl _)]
      unfold fAv
      cases ho : fAs L g p i with
      | none => rw [if_pos (show oI none = -1 from rfl)]; rfl
      | some s =>
        have hs := (fAs_lt L g p i s ho).1
        rw [if_neg (fun z => by have := (oI_m1 (o := some s) (fun x hx => by cases hx; omega)).mp z; cases this)]
        have := e_faceOver hF hV hbv hnV hE hq hw hp.1 hrd hfo L (s := s) (by omega) (fun e he => by have := hseg e he; omega)
        rw [show oI (some s) = nI s from rfl, this, cal_some]
    | succ d ih =>
      intro m i hi hm
      obtain ⟨m, rfl⟩ : ∃ x, m = x + 1 := ⟨m - 1, by omega⟩
      have hin : i < n := by omega
      have go := ih m (i + 1) (by omega) (by omega)
      obtain ⟨c1, c2, c3, c4⟩ := hco i hin
      have ho := hg i hin
      obtain ⟨⟨b1, b2, b3, b4⟩, -⟩ := id ho
      obtain ⟨⟨⟨x1, x2⟩, x3⟩, ⟨⟨y1, y2⟩, y3⟩⟩ := id hp
      have kd := i32_of _ (dX_bd ho) (by omega)
      have hsd : ∀ {k : Int}, inR k → f_compare F M (zL k) 1 (zL p.1.num) (zL (p.1.den : Nat)) = some (zI (csgn (k * p.1.den) p.1.num)) := by
        intro k hk
        unfold inR at hk
        have m1 := mul_bd (a := k) (A := 100) (b := (p.1.den : Int)) (B := 20000) ⟨by omega, by omega⟩ ⟨by omega, by omega⟩
        have h := e_compare (F := F) (M := M) (a := k) (b := 1) (c := p.1.num) (d := (p.1.den : Int)) ⟨by omega, by omega⟩
        rw [zL_1, Int.mul_one] at h
        exact h
      -- the end of a step: found or not
      have fin : ∀ fl : Bool, (if fl then some i else fAs L g p i) = fAs L g p (i + 1) → f_faceAbove_b202 F (f_faceAbove_L6 F M m) M (zL p.1.num) (zL p.1.den) (zL p.2.num) (zL p.2.den) (bI L) (oI (fAs L g p i)) (nI i) (bI fl) = some (nI (fAv L n g V q rd fo p)) := by
        intro fl hfl
        unfold f_faceAbove_b202 f_faceAbove_b214
        rw [nI_1]
        cases fl
        · rw [if_pos (show bI false = 0 from rfl)]
          rw [← hfl] at go; exact go
        · rw [if_neg (show ¬ bI true = 0 by decide)]
          rw [← hfl] at go; exact go
      have nou : udr L (g i) p = false → fAs L g p i = fAs L g p (i + 1) := fun h => by rw [fAs, if_neg (by rw [h]; decide)]
      have b128 : ∀ fl : Bool, fl = udr L (g i) p → f_faceAbove_b128 F (f_faceAbove_L6 F M m) M (zL p.1.num) (zL p.1.den) (zL p.2.num) (zL p.2.den) (bI L) (oI (fAs L g p i)) (nI i) (bI fl) = some (nI (fAv L n g V q rd fo p)) := by
        intro fl hfl
        unfold f_faceAbove_b128
        cases fl
        · rw [if_pos (show bI false = 0 from rfl)]
          exact fin false (nou hfl.symm)
        · rw [if_neg (show ¬ bI true = 0 by decide)]
          have hu : udr L (g i) p = true := hfl.symm
          cases ho2 : fAs L g p i with
          | none =>
            rw [if_pos (show oI none = -1 from rfl)]
            have := fin true (by rw [fAs, if_pos hu, ho2]; rfl)
            rw [ho2] at this; exact this
          | some f =>
            have hf := (fAs_lt L g p i f ho2).1
            have hfn : f < n := by omega
            have en : fAs L g p (i + 1) = if btr L (g i) (g f) p then some i else some f := by rw [fAs, if_pos hu, ho2]
            rw [if_neg (fun z => by have := (oI_m1 (o := some f) (fun x hx => by cases hx; omega)).mp z; cases this), show oI (some f) = nI f from rfl, e_heights hco hg hn hin hfn hp.1, cal_some, e_slopes hco hn hin hfn]
            simp only [cal_some]
            have kc := csgn_32 (hgt (g i) p * (dX (g f) * p.1.den)) (hgt (g f) p * (dX (g i) * p.1.den))
            obtain ⟨s1, s2, s3⟩ := csgn_s (hgt (g i) p * (dX (g f) * p.1.den)) (hgt (g f) p * (dX (g i) * p.1.den))
            have kcr := cr_bd ho (hg f hfn)
            have hbt : ∀ fl : Bool, btr L (g i) (g f) p = fl → f_faceAbove_b202 F (f_faceAbove_L6 F M m) M (zL p.1.num) (zL p.1.den) (zL p.2.num) (zL p.2.den) (bI L) (nI f) (nI i) (bI fl) = some (nI (fAv L n g V q rd fo p)) := by
              intro fl hfl2
              have := fin fl (by rw [en, hfl2, ho2])
              rw [ho2] at this; exact this
            have b178 : ∀ w : Int, i32 w → (decide (0 < w) = (if L then decide (0 < cr (g i) (g f)) else decide (cr (g i) (g f) < 0))) → f_faceAbove_b178 F (f_faceAbove_L6 F M m) M (zL p.1.num) (zL p.1.den) (zL p.2.num) (zL p.2.den) (bI L) (nI f) (nI i) (zI (csgn (hgt (g i) p * (dX (g f) * p.1.den)) (hgt (g f) p * (dX (g i) * p.1.den)))) (zI w) = some (nI (fAv L n g V q rd fo p)) := by
              intro w hw2 hw3
              unfold f_faceAbove_b178
              by_cases z1 : 0 < csgn (hgt (g i) p * (dX (g f) * p.1.den)) (hgt (g f) p * (dX (g i) * p.1.den))
              · rw [if_pos ((zI_0lt kc).mpr z1)]
                exact hbt true (by unfold btr; rw [decide_eq_true (s3.mp z1)]; rfl)
              · rw [if_neg (fun y => z1 ((zI_0lt kc).mp y))]
                have n1 : ¬ hgt (g f) p * (dX (g i) * p.1.den) < hgt (g i) p * (dX (g f) * p.1.den) := fun y => z1 (s3.mpr y)
                by_cases z2 : csgn (hgt (g i) p * (dX (g f) * p.1.den)) (hgt (g f) p * (dX (g i) * p.1.den)) = 0
                · rw [if_pos ((zI_eq0 kc).mpr z2)]
                  by_cases z3 : w ≤ 0
                  · rw [if_pos ((zI_le0 hw2).mpr z3)]
                    exact hbt false (by unfold btr; rw [← hw3, decide_eq_false n1, decide_eq_false (show ¬ 0 < w by omega), Bool.and_false]; rfl)
                  · rw [if_neg (fun y => z3 ((zI_le0 hw2).mp y))]
                    exact hbt true (by unfold btr; rw [← hw3, decide_eq_true (s2.mp z2), decide_eq_true (show 0 < w by omega)]; simp)
                · rw [if_neg (fun y => z2 ((zI_eq0 kc).mp y))]
                  exact hbt false (by unfold btr; rw [decide_eq_false n1, decide_eq_false (fun y => z2 (s2.mpr y))]; rfl)
            cases L
            · rw [if_pos (show bI false = 0 from rfl)]
              exact b178 _ ⟨by omega, by omega⟩ (by simp only [Bool.false_eq_true, if_false]; congr 1; exact propext ⟨fun _ => by omega, fun _ => by omega⟩)
            · rw [if_neg (show ¬ bI true = 0 by decide), zI_neg, Int.neg_neg]
              exact b178 _ ⟨by omega, by omega⟩ rfl
      have b89 : ∀ fl : Bool, fl = (decide (0 < dX (g i)) && (if L then decide (sX (g i) * p.1.den < p.1.num) && decide (p.1.num ≤ eX (g i) * p.1.den) else decide (sX (g i) * p.1.den ≤ p.1.num) && decide (p.1.num < eX (g i) * p.1.den))) → f_faceAbove_b89 F (f_faceAbove_L6 F M m) M (zL p.1.num) (zL p.1.den) (zL p.2.num) (zL p.2.den) (bI L) (oI (fAs L g p i)) (nI i) (bI fl) = some (nI (fAv L n g V q rd fo p)) := by
        intro fl hfl
        unfold f_faceAbove_b89
        cases fl
        · rw [if_pos (show bI false = 0 from rfl)]
          exact b128 false (by unfold udr; rw [← hfl]; rfl)
        · rw [if_neg (show ¬ bI true = 0 by decide)]
          have m1 := mul_bd (hg_bd ho hp.1) (b := (p.2.den : Int)) (B := 20000) ⟨by omega, by omega⟩
          have m2 := mul_bd (a := p.2.num) (A := 4000000) ⟨by omega, by omega⟩ (dxd_bd ho hp.1)
          rw [e_height hco hg hn hin, cal_some, e_dx hco hin hn, cal_some, zI_long kd, zL_mul, e_compare ⟨by omega, by omega⟩, cal_some]
          have kc := csgn_32 (hgt (g i) p * p.2.den) (p.2.num * (dX (g i) * p.1.den))
          obtain ⟨s1, -, -⟩ := csgn_s (hgt (g i) p * p.2.den) (p.2.num * (dX (g i) * p.1.den))
          by_cases z : 0 ≤ csgn (hgt (g i) p * p.2.den) (p.2.num * (dX (g i) * p.1.den))
          · rw [if_pos ((zI_0le kc).mpr z)]
            exact b128 false (by unfold udr; rw [← hfl, decide_eq_false (fun y => by have := s1.mpr y; omega)]; rfl)
          · rw [if_neg (fun y => z ((zI_0le kc).mp y))]
            exact b128 true (by unfold udr; rw [← hfl, decide_eq_true (s1.mp (by omega))]; rfl)
      rw [f_faceAbove_L6, h0, if_neg (by rw [nI_leI (by omega) (by omega)]; omega)]
      simp only [rdI_at (show i < 13 by omega) (show 13 < 2147483648 by decide), c1, c3, zI_long (inR_32 b1), zI_long (inR_32 b3), hsd b1, hsd b3, e_dx hco hin hn, cal_some]
      have k1 := csgn_32 (sX (g i) * p.1.den) p.1.num
      have k2 := csgn_32 (eX (g i) * p.1.den) p.1.num
      obtain ⟨u1, u2, u3⟩ := csgn_s (sX (g i) * p.1.den) p.1.num
      obtain ⟨w1, w2, w3⟩ := csgn_s (eX (g i) * p.1.den) p.1.num
      by_cases z0 : dX (g i) ≤ 0
      · rw [if_pos ((zI_le0 kd).mpr z0)]
        exact b89 false (by rw [decide_eq_false (show ¬ 0 < dX (g i) by omega)]; rfl)
      · rw [if_neg (fun y => z0 ((zI_le0 kd).mp y))]
        have d0 : decide (0 < dX (g i)) = true := decide_eq_true (by omega)
        cases L
        · rw [if_pos (show bI false = 0 from rfl)]
          by_cases z1 : 0 < csgn (sX (g i) * p.1.den) p.1.num
          · rw [if_pos ((zI_0lt k1).mpr z1)]
            exact b89 false (by have := u3.mp z1; rw [d0, decide_eq_false (show ¬ sX (g i) * p.1.den ≤ p.1.num by omega)]; rfl)
          · rw [if_neg (fun y => z1 ((zI_0lt k1).mp y))]
            have e1 : sX (g i) * p.1.den ≤ p.1.num := by have := mt u3.mpr z1; omega
            by_cases z2 : csgn (eX (g i) * p.1.den) p.1.num ≤ 0
            · rw [if_pos ((zI_le0 k2).mpr z2)]
              exact b89 false (by rw [d0, decide_eq_true e1, decide_eq_false (show ¬ p.1.num < eX (g i) * p.1.den from fun y => by have := w3.mpr y; omega)]; rfl)
            · rw [if_neg (fun y => z2 ((zI_le0 k2).mp y))]
              exact b89 true (by rw [d0, decide_eq_true e1, decide_eq_true (w3.mp (by omega))]; rfl)
        · rw [if_neg (show ¬ bI true = 0 by decide)]
          by_cases z1 : 0 ≤ csgn (sX (g i) * p.1.den) p.1.num
          · rw [if_pos ((zI_0le k1).mpr z1)]
            exact b89 false (by rw [d0, decide_eq_false (fun y => by have := u1.mpr y; omega)]; rfl)
          · rw [if_neg (fun y => z1 ((zI_0le k1).mp y))]
            have e1 : sX (g i) * p.1.den < p.1.num := u1.mp (by omega)
            by_cases z2 : csgn (eX (g i) * p.1.den) p.1.num < 0
            · rw [if_pos ((zI_lt0 k2).mpr z2)]
              exact b89 false (by have := w1.mp z2; rw [d0, decide_eq_true e1, decide_eq_false (show ¬ p.1.num ≤ eX (g i) * p.1.den by omega)]; rfl)
            · rw [if_neg (fun y => z2 ((zI_lt0 k2).mp y))]
              exact b89 true (by have := mt w1.mpr z2; rw [d0, decide_eq_true e1, decide_eq_true (show p.1.num ≤ eX (g i) * p.1.den by omega)]; rfl)
  exact key n F 0 (by omega) (by omega)
/-- the highest way out of a vertex, by the search -/
def hiB (g : Nat → Sg) (q : ES) (o : Option Nat) (j : Nat) : Bool := match o with
  | none => true
  | some f => decide (0 < wc g q f j)
def hiO (g : Nat → Sg) (q : ES) (v : Nat) : Nat → Option Nat
  | 0 => none
  | j + 1 => if bg q j = v ∧ hiB g q (hiO g q v j) j = true then some j else hiO g q v j
theorem hiO_t {g : Nat → Sg} {q : ES} {v j : Nat} (h : bg q j = v ∧ hiB g q (hiO g q v j) j = true) : some j = hiO g q v (j + 1) := by rw [hiO, if_pos h]
theorem hiO_f {g : Nat → Sg} {q : ES} {v j : Nat} (h : ¬ (bg q j = v ∧ hiB g q (hiO g q v j) j = true)) : hiO g q v j = hiO g q v (j + 1) := by rw [hiO, if_neg h]
theorem hiO_lt (g : Nat → Sg) (q : ES) (v : Nat) : ∀ j f, hiO g q v j = some f → f < j ∧ bg q f = v := by
  intro j
  induction j with
  | zero => intro f h; cases h
  | succ j ih =>
    intro f h
    rw [hiO] at h
    by_cases hc : bg q j = v ∧ hiB g q (hiO g q v j) j = true
    · rw [if_pos hc] at h; cases h; exact ⟨by omega, hc.1⟩
    · rw [if_neg hc] at h
      have := ih f h; exact ⟨by omega, this.2⟩
theorem e_highestOut (hF : 1000 ≤ F) (hco : mCo M n g) (hg : ∀ i, i < n → sOk (g i)) (hn : n ≤ 13) (hE : mEdg M q) (hq : q.1 ≤ 158) (hseg : ∀ e, e < q.1 → eS q e < n) (hbb : ∀ s, s < 2 * q.1 → bg q s < 2147483648) {v : Nat} (hv : v < 2147483648) :
    f_highestOut F M (nI v) = some (oI (hiO g q v (2 * q.1))) := by
  have key : ∀ (d m j : Nat), j + d = 2 * q.1 → d < m → f_highestOut_L4 F M m (nI v) (oI (hiO g q v j)) (nI j) = some (oI (hiO g q v (2 * q.1))) := by
    intro d
    induction d with
    | zero =>
      intro m j hj hm
      obtain ⟨m, rfl⟩ : ∃ x, m = x + 1 := ⟨m - 1, by omega⟩
      have e : j = 2 * q.1 := by omega
      subst e
      rw [f_highestOut_L4, hE.1, show (2 : Int32) * nI q.1 = nI (2 * q.1) from pk_mul 2 q.1, if_pos (Int32.le_refl _)]
    | succ d ih =>
      intro m j hj hm
      obtain ⟨m, rfl⟩ : ∃ x, m = x + 1 := ⟨m - 1, by omega⟩
      have hj2 : j < 2 * q.1 := by omega
      have go := ih m (j + 1) (by omega) (by omega)
      have fin : ∀ fl : Bool, (if fl then some j else hiO g q v j) = hiO g q v (j + 1) → f_highestOut_b42 F (f_highestOut_L4 F M m) M (nI v) (oI (hiO g q v j)) (nI j) (bI fl) = some (oI (hiO g q v (2 * q.1))) := by
        intro fl hfl
        unfold f_highestOut_b42 f_highestOut_b54
        simp only [nI_1]
        cases fl
        · rw [← hfl] at go
          rw [if_pos (show bI false = 0 from rfl)]; exact go
        · rw [← hfl] at go
          rw [if_neg (show ¬ bI true = 0 by decide)]; exact go
      rw [f_highestOut_L4, hE.1, show (2 : Int32) * nI q.1 = nI (2 * q.1) from pk_mul 2 q.1, if_neg (by rw [nI_leI (by omega) (by omega)]; omega), e_begin hE hq hj2, cal_some]
      have hbv : nI (bg q j) = nI v ↔ bg q j = v := nI_eq (hbb j hj2) hv
      by_cases z : bg q j = v
      · rw [if_pos (hbv.mpr z)]
        cases ho : hiO g q v j with
        | none =>
          rw [if_pos (show oI none = -1 from rfl)]
          have := fin true (hiO_t ⟨z, by rw [ho]; rfl⟩)
          rw [ho] at this; exact this
        | some f =>
          have hf := (hiO_lt g q v j f ho).1
          have hff : f < 2 * q.1 := by omega
          rw [if_neg (fun y => by have := (oI_m1 (o := some f) (fun x hx => by cases hx; omega)).mp y; cases this), show oI (some f) = nI f from rfl, e_wayCross hco hn hE hq hff hj2 (hseg _ (by omega)) (hseg _ (by omega)), cal_some]
          have kw := i32_of _ (wc_bd (g := g) (q := q) (hg _ (hseg (f / 2) (by omega))) (hg _ (hseg (j / 2) (by omega)))) (by omega)
          by_cases y : wc g q f j ≤ 0
          · rw [if_pos ((zI_le0 kw).mpr y)]
            have := fin false (hiO_f (fun w => by have h2 := w.2; rw [ho] at h2; have := of_decide_eq_true h2; omega))
            rw [ho] at this; exact this
          · rw [if_neg (fun w => y ((zI_le0 kw).mp w))]
            have := fin true (hiO_t ⟨z, by rw [ho]; exact decide_eq_true (by omega)⟩)
            rw [ho] at this; exact this
      · rw [if_neg (fun w => z (hbv.mp w))]
        exact fin false (hiO_f (fun w => z w.1))
  exact key (2 * q.1) F 0 (by omega) (by omega)
end MAC
