/-! ### What parts 65 to 67 say of a face's border, said of every flow along the edges that no vertex makes or takes (written by wip/gen26/mk_kir.py out of those parts) -/
section KIZ
variable {n : Nat} {g : Nat → Sg} {q : ES}
def zsd (zf : Nat → Int) (s : Nat) : Int := if s % 2 = 0 then zf (s / 2) else -zf (s / 2)
theorem zsd_e (zf : Nat → Int) (e : Nat) : zsd zf (2 * e) = zf e := by
  unfold zsd; rw [if_pos (by omega), show 2 * e / 2 = e by omega]
theorem zsd_o (zf : Nat → Int) (e : Nat) : zsd zf (2 * e + 1) = -zf e := by
  unfold zsd; rw [if_neg (by omega), show (2 * e + 1) / 2 = e by omega]
def kirZ (q : ES) (zf : Nat → Int) : Prop := ∀ Rg : Nat → Bool, zsm (fun s => zsd zf s * zb (Rg (bg q s))) (2 * q.1) = 0
theorem kirE {zf : Nat → Int} (hz : kirZ q zf) (Rg : Nat → Bool) : zsm (fun e => zf e * (zb (Rg (eF q e)) - zb (Rg (eT q e)))) q.1 = 0 := by
  rw [← hz Rg, zsm_pair]
  refine zsm_congr (fun e _ => ?_)
  rw [zsd_e, zsd_o, bg_e, bg_o, Int.mul_sub, Int.neg_mul]; omega
theorem kirE_of {zf : Nat → Int} (h : ∀ Rg : Nat → Bool, zsm (fun e => zf e * (zb (Rg (eF q e)) - zb (Rg (eT q e)))) q.1 = 0) : kirZ q zf := by
  intro Rg
  rw [← h Rg, zsm_pair]
  refine zsm_congr (fun e _ => ?_)
  rw [zsd_e, zsd_o, bg_e, bg_o, Int.mul_sub, Int.neg_mul]; omega
theorem mv_sumZ (hg : gOk n g) (hE : EOk g (vI g n).2 n (vI g n).1 q) {zf : Nat → Int} (hz : kirZ q zf) {e : Nat} (he : e < q.1) (hd : 0 < dX (gE g q e)) {X1 X2 : Rat} (hX : X1 < X2) (h1 : (pF g n q e).1 ≤ X1) (h2 : X2 ≤ (pT g n q e).1) :
    zsm (fun e' => zf e' * zb (unE true g n q e X2 e')) q.1 = zsm (fun e' => zf e' * zb (unE false g n q e X1 e')) q.1 := by
  have h := kirE hz (rgE g n q e X1 X2)
  have h2 := zsm_congr (n := q.1) (f := fun e' => zf e' * (zb (rgE g n q e X1 X2 (eF q e')) - zb (rgE g n q e X1 X2 (eT q e')))) (h := fun e' => zf e' * zb (unE true g n q e X2 e') - zf e' * zb (unE false g n q e X1 e')) (fun e' he' => by
    show zf e' * (zb (rgE g n q e X1 X2 (eF q e')) - zb (rgE g n q e X1 X2 (eT q e'))) = zf e' * zb (unE true g n q e X2 e') - zf e' * zb (unE false g n q e X1 e')
    rw [mv_id hg hE he hd hX h1 h2 he', Int.mul_sub])
  rw [h2, zsm_sub] at h
  omega
def dwnZ (L : Bool) (g : Nat → Sg) (n : Nat) (q : ES) (zf : Nat → Int) (p : Pt) : Int := zsm (fun e' => zf e' * zb (unP L g n q p e')) q.1
theorem dn_sumZ (hg : gOk n g) (hE : EOk g (vI g n).2 n (vI g n).1 q) {zf : Nat → Int} (hz : kirZ q zf) (p : Pt) :
    dwnZ false g n q zf p - dwnZ true g n q zf p + zsm (fun e' => zf e' * zb (vtP g n q p e')) q.1 = 0 := by
  have h := kirE hz (rgP g n p)
  rw [← h]
  unfold dwnZ
  rw [← zsm_sub, ← zsm_add]
  refine zsm_congr (fun e' he' => ?_)
  show zf e' * zb (unP false g n q p e') - zf e' * zb (unP true g n q p e') + zf e' * zb (vtP g n q p e') = zf e' * (zb (rgP g n p (eF q e')) - zb (rgP g n p (eT q e')))
  rw [dn_id hg hE p he', Int.mul_add, Int.mul_sub]
def WvZ (g : Nat → Sg) (n : Nat) (q : ES) (zf : Nat → Int) (s : Nat) : Int := dwnZ false g n q zf ((vI g n).2 (bg q s)) + zsm (fun s' => zsd zf s' * zb (decide (bg q s' = bg q s) && decide (key n g q s' < key n g q s))) (2 * q.1)
theorem wFZ (hg : gOk n g) (hE : EOk g (vI g n).2 n (vI g n).1 q) {zf : Nat → Int} {e : Nat} (he : e < q.1) (hd : 0 < dX (gE g q e)) :
    WvZ g n q zf (2 * e) = zsm (fun e' => zf e' * zb (unE false g n q e (pF g n q e).1 e')) q.1 := by
  obtain ⟨w1, w2, w3⟩ := e_wide hg hE he hd
  have hv := (eF_lt hE he).1
  unfold WvZ dwnZ
  rw [zsm_pair, ← zsm_add]
  refine zsm_congr (fun e' he' => ?_)
  show zf e' * zb (unP false g n q ((vI g n).2 (bg q (2 * e))) e') + (zsd zf (2 * e') * zb (decide (bg q (2 * e') = bg q (2 * e)) && decide (key n g q (2 * e') < key n g q (2 * e))) + zsd zf (2 * e' + 1) * zb (decide (bg q (2 * e' + 1) = bg q (2 * e)) && decide (key n g q (2 * e' + 1) < key n g q (2 * e)))) = zf e' * zb (unE false g n q e (pF g n q e).1 e')
  have b1 := srk_le n g (eS q e)
  rw [zsd_e, zsd_o, bg_e, bg_e, bg_o, key_e, key_e, key_o, decide_eq_false (show ¬ n + 1 + srk n g (eS q e') < srk n g (eS q e) by omega), Bool.and_false, zb_f, Int.mul_zero, Int.add_zero, ← Int.mul_add]
  congr 1
  have hcr : srk n g (eS q e') < srk n g (eS q e) ↔ 0 < cr (gE g q e') (gE g q e) := (srk_iff hg.1 (hE.1 e' he').1 (hE.1 e he).1).1.symm
  rw [decide_eq_decide.mpr hcr]
  unfold unP unE
  cases hs : spB false g n q (pF g n q e).1 e'
  · have : (decide (eF q e' = eF q e) && decide (0 < cr (gE g q e') (gE g q e))) = false := by
      rw [Bool.eq_false_iff]
      intro w
      rw [Bool.and_eq_true, decide_eq_true_eq, decide_eq_true_eq] at w
      obtain ⟨x1, x2⟩ := w
      by_cases hd' : 0 < dX (gE g q e')
      · have : spB false g n q (pF g n q e).1 e' = true := spB_R.mpr ⟨by show ((vI g n).2 (eF q e')).1 ≤ ((vI g n).2 (eF q e)).1; rw [x1]; exact Rat.le_refl, by show ((vI g n).2 (eF q e)).1 < _; rw [← x1]; exact (e_wide hg hE he' hd').1⟩
        rw [hs] at this; cases this
      · have : cr (gE g q e') (gE g q e) < 0 := cr_vert (hg.1 _ (hE.1 e' he').1) hd' hd
        omega
    rw [this]; rfl
  · have hd' := sp_wide hg hE he' hs
    have ha := atF hg hE hv he' hs
    have i1 : (lny (gE g q e') ((vI g n).2 (eF q e)).1 < ((vI g n).2 (eF q e)).2) ↔ (lny (gE g q e') (pF g n q e).1 < lny (gE g q e) (pF g n q e).1) := by rw [← w2]
    have i2 : (lny (gE g q e') ((vI g n).2 (eF q e)).1 = ((vI g n).2 (eF q e)).2) ↔ (lny (gE g q e') (pF g n q e).1 = lny (gE g q e) (pF g n q e).1) := by rw [← w2]
    rw [decide_eq_decide.mpr (ha.trans i2), decide_eq_decide.mpr (slp_cr hd' hd), decide_eq_decide.mpr i1, Bool.true_and, Bool.true_and]
    unfold lowB
    refine zb_or rfl ?_
    rintro ⟨x1, x2⟩
    rw [Bool.and_eq_true] at x2
    have x1 := of_decide_eq_true x1
    have x2 := of_decide_eq_true x2.1
    rw [x2] at x1
    exact Rat.lt_irrefl x1
theorem kir_vZ {zf : Nat → Int} (hz : kirZ q zf) (v : Nat) (K : Nat → Bool) :
    zsm (fun s' => zsd zf s' * zb (decide (bg q s' = v) && K s')) (2 * q.1) = -zsm (fun s' => zsd zf s' * zb (decide (bg q s' = v) && !K s')) (2 * q.1) := by
  have h := hz (fun u => decide (u = v))
  have h2 : zsm (fun s => zsd zf s * zb (decide (bg q s = v))) (2 * q.1) = zsm (fun s' => zsd zf s' * zb (decide (bg q s' = v) && K s') + zsd zf s' * zb (decide (bg q s' = v) && !K s')) (2 * q.1) := zsm_congr (fun s _ => by
    show zsd zf s * zb (decide (bg q s = v)) = zsd zf s * zb (decide (bg q s = v) && K s) + zsd zf s * zb (decide (bg q s = v) && !K s)
    rw [← Int.mul_add]
    congr 1
    cases decide (bg q s = v) <;> cases K s <;> rfl)
  have h : zsm (fun s => zsd zf s * zb (decide (bg q s = v))) (2 * q.1) = 0 := h
  rw [h2, zsm_add] at h
  omega
theorem wBZ (hg : gOk n g) (hE : EOk g (vI g n).2 n (vI g n).1 q) (hk : ∀ s t, s < 2 * q.1 → t < 2 * q.1 → bg q s = bg q t → key n g q s = key n g q t → s = t) {zf : Nat → Int} (hz : kirZ q zf) {e : Nat} (he : e < q.1) (hd : 0 < dX (gE g q e)) :
    WvZ g n q zf (2 * e + 1) = zsm (fun e' => zf e' * zb (unE true g n q e (pT g n q e).1 e')) q.1 + zf e := by
  obtain ⟨w1, w2, w3⟩ := e_wide hg hE he hd
  have hv := (eF_lt hE he).2
  have hdn := dn_sumZ hg hE hz ((vI g n).2 (eT q e))
  have hone : zf e = zsm (fun e' => zf e' * zb (decide (e' = e))) q.1 := by
    rw [zsm_one he (fun i _ hne => by rw [decide_eq_false hne, zb_f, Int.mul_zero]), decide_eq_true rfl, zb_t, Int.mul_one]
  have hK : zsm (fun s' => zsd zf s' * zb (decide (bg q s' = eT q e) && decide (key n g q s' < key n g q (2 * e + 1)))) (2 * q.1) = zsm (fun e' => zf e' * zb (decide (eT q e' = eT q e) && !decide (srk n g (eS q e') < srk n g (eS q e)))) q.1 := by
    rw [kir_vZ hz, zsm_pair]
    have : zsm (fun e' => zsd zf (2 * e') * zb (decide (bg q (2 * e') = eT q e) && !decide (key n g q (2 * e') < key n g q (2 * e + 1))) + zsd zf (2 * e' + 1) * zb (decide (bg q (2 * e' + 1) = eT q e) && !decide (key n g q (2 * e' + 1) < key n g q (2 * e + 1)))) q.1 + zsm (fun e' => zf e' * zb (decide (eT q e' = eT q e) && !decide (srk n g (eS q e') < srk n g (eS q e)))) q.1 = 0 := by
      rw [← zsm_add]
      refine zsm_0 (fun e' he' => ?_)
      show zsd zf (2 * e') * zb (decide (bg q (2 * e') = eT q e) && !decide (key n g q (2 * e') < key n g q (2 * e + 1))) + zsd zf (2 * e' + 1) * zb (decide (bg q (2 * e' + 1) = eT q e) && !decide (key n g q (2 * e' + 1) < key n g q (2 * e + 1))) + zf e' * zb (decide (eT q e' = eT q e) && !decide (srk n g (eS q e') < srk n g (eS q e))) = 0
      have b1 := srk_le n g (eS q e')
      rw [key_e, key_o, key_o, zsd_o, bg_o, decide_eq_true (show srk n g (eS q e') < n + 1 + srk n g (eS q e) by omega)]
      have : (decide (n + 1 + srk n g (eS q e') < n + 1 + srk n g (eS q e))) = decide (srk n g (eS q e') < srk n g (eS q e)) := decide_eq_decide.mpr (by omega)
      rw [this, Bool.not_true, Bool.and_false, zb_f, Int.mul_zero, Int.neg_mul]
      omega
    omega
  unfold WvZ
  rw [bg_o, hK, hone]
  have key' : zsm (fun e' => zf e' * zb (unP true g n q ((vI g n).2 (eT q e)) e')) q.1 + zsm (fun e' => zf e' * zb (decide (eT q e' = eT q e) && !decide (srk n g (eS q e') < srk n g (eS q e)))) q.1 = zsm (fun e' => zf e' * zb (unE true g n q e (pT g n q e).1 e')) q.1 + zsm (fun e' => zf e' * zb (decide (e' = e))) q.1 + zsm (fun e' => zf e' * zb (vtP g n q ((vI g n).2 (eT q e)) e')) q.1 := by
    rw [← zsm_add, ← zsm_add, ← zsm_add]
    refine zsm_congr (fun e' he' => ?_)
    show zf e' * zb (unP true g n q ((vI g n).2 (eT q e)) e') + zf e' * zb (decide (eT q e' = eT q e) && !decide (srk n g (eS q e') < srk n g (eS q e))) = zf e' * zb (unE true g n q e (pT g n q e).1 e') + zf e' * zb (decide (e' = e)) + zf e' * zb (vtP g n q ((vI g n).2 (eT q e)) e')
    rw [← Int.mul_add, ← Int.mul_add, ← Int.mul_add]
    congr 1
    have hcr : srk n g (eS q e') < srk n g (eS q e) ↔ 0 < cr (gE g q e') (gE g q e) := (srk_iff hg.1 (hE.1 e' he').1 (hE.1 e he).1).1.symm
    rw [decide_eq_decide.mpr hcr, vtP_at hg hE hv he']
    by_cases hd' : 0 < dX (gE g q e')
    · rw [decide_eq_true hd', Bool.not_true, Bool.false_and, zb_f, Int.add_zero]
      unfold unP unE
      cases hs : spB true g n q (pT g n q e).1 e'
      · have hne : eT q e' ≠ eT q e := by
          intro w
          have : spB true g n q (pT g n q e).1 e' = true := spB_L.mpr ⟨by show _ < ((vI g n).2 (eT q e)).1; rw [← w]; exact (e_wide hg hE he' hd').1, by show ((vI g n).2 (eT q e)).1 ≤ ((vI g n).2 (eT q e')).1; rw [w]; exact Rat.le_refl⟩
          rw [hs] at this; cases this
        rw [decide_eq_false hne, decide_eq_false (show ¬ e' = e from fun w => hne (by rw [w]))]; rfl
      · have ha := atT hg hE hv he' hs
        have i1 : (lny (gE g q e') ((vI g n).2 (eT q e)).1 < ((vI g n).2 (eT q e)).2) ↔ (lny (gE g q e') (pT g n q e).1 < lny (gE g q e) (pT g n q e).1) := by rw [← w3]
        have i2 : (lny (gE g q e') ((vI g n).2 (eT q e)).1 = ((vI g n).2 (eT q e)).2) ↔ (lny (gE g q e') (pT g n q e).1 = lny (gE g q e) (pT g n q e).1) := by rw [← w3]
        rw [decide_eq_decide.mpr (ha.trans i2), show decide (0 < cr (gE g q e') (gE g q e)) = decide (slp (gE g q e') < slp (gE g q e)) from decide_eq_decide.mpr (slp_cr hd' hd), decide_eq_decide.mpr i1, Bool.true_and, Bool.true_and]
        unfold lowB
        rw [if_pos rfl]
        by_cases hq : lny (gE g q e') (pT g n q e).1 = lny (gE g q e) (pT g n q e).1
        · have hT := ha.mpr (i2.mpr hq)
          rw [decide_eq_true hq, decide_eq_false (show ¬ lny (gE g q e') (pT g n q e).1 < lny (gE g q e) (pT g n q e).1 by rw [hq]; exact Rat.lt_irrefl), Bool.true_and, Bool.false_or, Bool.true_and]
          by_cases hee : e' = e
          · subst hee
            rw [decide_eq_false (Rat.lt_irrefl), decide_eq_true rfl]; rfl
          · rw [decide_eq_false hee]
            have hsl : slp (gE g q e') ≠ slp (gE g q e) := by
              intro w
              have c1 : ¬ srk n g (eS q e') < srk n g (eS q e) := fun z => by have := (slp_cr hd' hd).mp (hcr.mp z); rw [w] at this; exact Rat.lt_irrefl this
              have c2 : ¬ srk n g (eS q e) < srk n g (eS q e') := fun z => by have := (slp_cr hd hd').mp ((srk_iff hg.1 (hE.1 e he).1 (hE.1 e' he').1).1.mpr z); rw [w] at this; exact Rat.lt_irrefl this
              have := hk (2 * e' + 1) (2 * e + 1) (by omega) (by omega) (by rw [bg_o, bg_o]; exact hT) (by rw [key_o, key_o]; omega)
              omega
            rcases rat_tri (slp (gE g q e')) (slp (gE g q e)) with c | c | c
            · rw [decide_eq_true c, decide_eq_false (show ¬ slp (gE g q e) < slp (gE g q e') by grind)]; rfl
            · exact absurd c hsl
            · rw [decide_eq_true c, decide_eq_false (show ¬ slp (gE g q e') < slp (gE g q e) by grind)]; rfl
        · rw [decide_eq_false hq, Bool.false_and, Bool.false_and, Bool.or_false, decide_eq_false (show ¬ e' = e from fun w => hq (by rw [w]))]
    · have hn : cr (gE g q e') (gE g q e) < 0 := cr_vert (hg.1 _ (hE.1 e' he').1) hd' hd
      have r1 : unP true g n q ((vI g n).2 (eT q e)) e' = false := by
        rw [Bool.eq_false_iff]; intro w
        exact hd' (sp_wide hg hE he' (Bool.and_eq_true_iff.mp w).1)
      have r2 : unE true g n q e (pT g n q e).1 e' = false := by
        rw [Bool.eq_false_iff]; intro w
        exact hd' (sp_wide hg hE he' (Bool.and_eq_true_iff.mp w).1)
      rw [r1, r2, decide_eq_false hd', decide_eq_false (show ¬ 0 < cr (gE g q e') (gE g q e) by omega), decide_eq_false (show ¬ e' = e from fun w => hd' (by rw [w]; exact hd)), Bool.not_false, Bool.true_and, Bool.and_true, zb_f]
      omega
  unfold dwnZ at hdn ⊢
  omega
theorem wVZ (hg : gOk n g) (hE : EOk g (vI g n).2 n (vI g n).1 q) (hk : ∀ s t, s < 2 * q.1 → t < 2 * q.1 → bg q s = bg q t → key n g q s = key n g q t → s = t) {zf : Nat → Int} (hz : kirZ q zf) {e : Nat} (he : e < q.1) (hd : ¬ 0 < dX (gE g q e)) :
    WvZ g n q zf (2 * e + 1) = WvZ g n q zf (2 * e) + zf e := by
  obtain ⟨v1, v2, v3, v4⟩ := e_vert hg hE he hd
  obtain ⟨hv1, hv2⟩ := eF_lt hE he
  have dz := dirZ (hg.1 _ (hE.1 e he).1)
  have hcr : ∀ e', e' < q.1 → cr (gE g q e') (gE g q e) = dX (gE g q e') * dY (gE g q e) := by
    intro e' _
    unfold cr
    rw [show dX (gE g q e) = 0 by unfold gE at *; omega]; omega
  have hdy : 0 < dY (gE g q e) := by unfold gE at *; omega
  have k2 : zsm (fun s' => zsd zf s' * zb (decide (bg q s' = eT q e) && decide (key n g q s' < key n g q (2 * e + 1)))) (2 * q.1) = zf e := by
    rw [kir_vZ hz, zsm_one (x := 2 * e + 1) (by omega) (fun s' hs' hne => ?_), zsd_o, bg_o, decide_eq_true rfl, decide_eq_false (Nat.lt_irrefl _)]
    · show -(-zf e * 1) = _
      omega
    · have : (decide (bg q s' = eT q e) && !decide (key n g q s' < key n g q (2 * e + 1))) = false := by
        rw [Bool.eq_false_iff]
        intro w
        rw [Bool.and_eq_true, decide_eq_true_eq, Bool.not_eq_true', decide_eq_false_iff_not] at w
        obtain ⟨x1, x2⟩ := w
        rw [key_o] at x2
        have b1 := srk_le n g (eS q (s' / 2))
        have he2 : s' / 2 < q.1 := by omega
        have hodd : s' % 2 = 1 := by
          rcases (show s' % 2 = 0 ∨ s' % 2 = 1 by omega) with z | z
          · exfalso
            apply x2
            rw [show s' = 2 * (s' / 2) by omega, key_e]; omega
          · exact z
        have hs2 : s' = 2 * (s' / 2) + 1 := by omega
        rw [hs2, key_o] at x2
        have c1 : ¬ 0 < cr (gE g q (s' / 2)) (gE g q e) := fun z => by
          have := (srk_iff hg.1 (hE.1 _ he2).1 (hE.1 e he).1).1.mp z
          omega
        rw [hcr _ he2] at c1
        have d0 : ¬ 0 < dX (gE g q (s' / 2)) := fun z => c1 (Int.mul_pos z hdy)
        have dz2 := dirZ (hg.1 _ (hE.1 _ he2).1)
        have c0 : cr (gE g q (s' / 2)) (gE g q e) = 0 := by
          rw [hcr _ he2, show dX (gE g q (s' / 2)) = 0 by unfold gE at *; omega]; omega
        have c2 := (srk_iff hg.1 (hE.1 _ he2).1 (hE.1 e he).1).2.1.mp c0
        have := hk s' (2 * e + 1) hs' (by omega) (by rw [bg_o]; exact x1) (by rw [hs2, key_o, key_o, c2])
        exact hne this
      rw [this, zb_f, Int.mul_zero]
  have k1 : dwnZ false g n q zf ((vI g n).2 (eT q e)) = WvZ g n q zf (2 * e) := by
    unfold WvZ dwnZ
    rw [zsm_pair, ← zsm_add]
    refine zsm_congr (fun e' he' => ?_)
    show zf e' * zb (unP false g n q ((vI g n).2 (eT q e)) e') = zf e' * zb (unP false g n q ((vI g n).2 (bg q (2 * e))) e') + (zsd zf (2 * e') * zb (decide (bg q (2 * e') = bg q (2 * e)) && decide (key n g q (2 * e') < key n g q (2 * e))) + zsd zf (2 * e' + 1) * zb (decide (bg q (2 * e' + 1) = bg q (2 * e)) && decide (key n g q (2 * e' + 1) < key n g q (2 * e))))
    have b1 := srk_le n g (eS q e)
    rw [zsd_e, zsd_o, bg_e, bg_e, bg_o, key_e, key_e, key_o, decide_eq_false (show ¬ n + 1 + srk n g (eS q e') < srk n g (eS q e) by omega), Bool.and_false, zb_f, Int.mul_zero, Int.add_zero, ← Int.mul_add]
    congr 1
    have hsr : srk n g (eS q e') < srk n g (eS q e) ↔ 0 < dX (gE g q e') := by
      rw [(srk_iff hg.1 (hE.1 e' he').1 (hE.1 e he).1).1.symm]
      show 0 < cr (gE g q e') (gE g q e) ↔ _
      rw [hcr e' he']
      constructor
      · intro z
        rcases Int.lt_or_le 0 (dX (gE g q e')) with w | w
        · exact w
        · exfalso
          have := Int.mul_nonneg (a := -dX (gE g q e')) (b := dY (gE g q e)) (by omega) (by omega)
          rw [Int.neg_mul] at this; omega
      · intro z; exact Int.mul_pos z hdy
    rw [decide_eq_decide.mpr hsr]
    unfold unP
    have hsp : spB false g n q ((vI g n).2 (eT q e)).1 e' = spB false g n q ((vI g n).2 (eF q e)).1 e' := by
      rw [show ((vI g n).2 (eT q e)).1 = ((vI g n).2 (eF q e)).1 from v1.symm]
    rw [hsp]
    cases hs : spB false g n q ((vI g n).2 (eF q e)).1 e'
    · have : (decide (eF q e' = eF q e) && decide (0 < dX (gE g q e'))) = false := by
        rw [Bool.eq_false_iff]
        intro w
        rw [Bool.and_eq_true, decide_eq_true_eq, decide_eq_true_eq] at w
        obtain ⟨x1, x2⟩ := w
        have : spB false g n q ((vI g n).2 (eF q e)).1 e' = true := spB_R.mpr ⟨by show ((vI g n).2 (eF q e')).1 ≤ ((vI g n).2 (eF q e)).1; rw [x1]; exact Rat.le_refl, by rw [← x1]; exact (e_wide hg hE he' x2).1⟩
        rw [hs] at this; cases this
      rw [this]; rfl
    · have hd' := sp_wide hg hE he' hs
      have ha := atF hg hE hv1 he' hs
      rw [decide_eq_decide.mpr ha, decide_eq_true hd', Bool.and_true, Bool.true_and, Bool.true_and]
      obtain ⟨s1, s2⟩ := spB_R.mp hs
      obtain ⟨o1, o2, o3⟩ := e_on hg hE he' hd' (X := ((vI g n).2 (eF q e)).1) s1 (by grind)
      have hno : ¬ (((vI g n).2 (eF q e)).2 < lny (gE g q e') ((vI g n).2 (eF q e)).1 ∧ lny (gE g q e') ((vI g n).2 (eF q e)).1 < ((vI g n).2 (eT q e)).2) := by
        rintro ⟨c1, c2⟩
        have o4 := vert_on hg hE he hd (p := (((vI g n).2 (eF q e)).1, lny (gE g q e') ((vI g n).2 (eF q e)).1)) rfl (show ((vI g n).2 (eF q e)).2 ≤ lny (gE g q e') ((vI g n).2 (eF q e)).1 by grind) (show lny (gE g q e') ((vI g n).2 (eF q e)).1 ≤ ((vI g n).2 (eT q e)).2 by grind)
        exact ins_two hg hE he (hE.1 e' he').1 (fun w => hd (by unfold gE at *; rw [← w]; exact hd')) o4 o1 (Or.inr ⟨rfl, c1⟩) (Or.inr ⟨v1, c2⟩)
      have v1' : ((vI g n).2 (eT q e)).1 = ((vI g n).2 (eF q e)).1 := v1.symm
      have v2' : ((vI g n).2 (eF q e)).2 < ((vI g n).2 (eT q e)).2 := v2
      have i0 : lny (gE g q e') ((vI g n).2 (eT q e)).1 < ((vI g n).2 (eT q e)).2 ↔ lny (gE g q e') ((vI g n).2 (eF q e)).1 < ((vI g n).2 (eT q e)).2 := by rw [v1']
      rw [decide_eq_decide.mpr i0]
      symm
      rcases rat_tri (lny (gE g q e') ((vI g n).2 (eF q e)).1) ((vI g n).2 (eF q e)).2 with c | c | c
      · rw [decide_eq_true c, decide_eq_false (show ¬ lny (gE g q e') ((vI g n).2 (eF q e)).1 = ((vI g n).2 (eF q e)).2 by grind), decide_eq_true (show lny (gE g q e') ((vI g n).2 (eF q e)).1 < ((vI g n).2 (eT q e)).2 by grind)]; rfl
      · rw [decide_eq_false (show ¬ lny (gE g q e') ((vI g n).2 (eF q e)).1 < ((vI g n).2 (eF q e)).2 by grind), decide_eq_true c, decide_eq_true (show lny (gE g q e') ((vI g n).2 (eF q e)).1 < ((vI g n).2 (eT q e)).2 by grind)]; rfl
      · rw [decide_eq_false (show ¬ lny (gE g q e') ((vI g n).2 (eF q e)).1 < ((vI g n).2 (eF q e)).2 by grind), decide_eq_false (show ¬ lny (gE g q e') ((vI g n).2 (eF q e)).1 = ((vI g n).2 (eF q e)).2 by grind), decide_eq_false (show ¬ lny (gE g q e') ((vI g n).2 (eF q e)).1 < ((vI g n).2 (eT q e)).2 from fun w => hno ⟨c, w⟩)]; rfl
  have e0 : WvZ g n q zf (2 * e + 1) = dwnZ false g n q zf ((vI g n).2 (eT q e)) + zsm (fun s' => zsd zf s' * zb (decide (bg q s' = eT q e) && decide (key n g q s' < key n g q (2 * e + 1)))) (2 * q.1) := by
    unfold WvZ; rw [bg_o]
  rw [e0, k1, k2]
theorem wEZ (hg : gOk n g) (hE : EOk g (vI g n).2 n (vI g n).1 q) (hk : ∀ s t, s < 2 * q.1 → t < 2 * q.1 → bg q s = bg q t → key n g q s = key n g q t → s = t) {zf : Nat → Int} (hz : kirZ q zf) {e : Nat} (he : e < q.1) :
    WvZ g n q zf (2 * e + 1) = WvZ g n q zf (2 * e) + zf e := by
  by_cases hd : 0 < dX (gE g q e)
  · rw [wBZ hg hE hk hz he hd, wFZ hg hE (zf := zf) he hd, mv_sumZ hg hE hz he hd (e_wide hg hE he hd).1 Rat.le_refl Rat.le_refl]
  · exact wVZ hg hE hk hz he hd
end KIZ
