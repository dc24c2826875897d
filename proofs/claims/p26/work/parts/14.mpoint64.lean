section MPT2
variable {F : Nat} {M : MS}
variable {n : Nat} {V : Nat → Pt} {a b : Int} {c : Nat}
theorem e_point64 (hn : n ≤ 99) (hv : ∀ i, i < n → mV4 M i (V i)) (hbv : ∀ i, i < n → bV (V i)) (ha : -4000000 ≤ a ∧ a ≤ 4000000) (hb : -4000000 ≤ b ∧ b ≤ 4000000) (hc : c ≤ 20000) (hc0 : c ≠ 0) :
    ∀ (j m at_ : Nat) (th : Bool), j ≤ n → j < m → f_point_L64 F m M (zL a) (zL b) (zL c) (nI at_) (bI th) (zI ((j : Int) - 1)) = if th || exB V (mkRat a c, mkRat b c) j then some M else f_point_L173 F F M (zL a) (zL b) (zL c) (nI (mpos V (mkRat a c, mkRat b c) j at_)) (M.1 5) := by
  intro j
  induction j with
  | zero =>
    intro m at_ th _ hm
    obtain ⟨m, rfl⟩ : ∃ q, m = q + 1 := ⟨m - 1, by omega⟩
    rw [f_point_L64, if_pos (by decide)]
    cases th <;> simp [bI, exB, mpos]
  | succ j ih =>
    intro m at_ th hj hm
    obtain ⟨m, rfl⟩ : ∃ q, m = q + 1 := ⟨m - 1, by omega⟩
    have ej : zI (((j + 1 : Nat) : Int) - 1) = nI j := by rw [nI_zI]; congr 1; omega
    obtain ⟨v1, v2, v3, v4⟩ := hv j (by omega)
    have c1 : f_compare F M (zL a) (zL c) (zL (V j).1.num) (zL (V j).1.den) = some (zI (cmpR (mkRat a c) (V j).1)) := by
      rw [e_compare (cmp_bd ha hc (hbv j (by omega)).1), csgn_mk _ hc0]
    have c2 : f_compare F M (zL b) (zL c) (zL (V j).2.num) (zL (V j).2.den) = some (zI (cmpR (mkRat b c) (V j).2)) := by
      rw [e_compare (cmp_bd hb hc (hbv j (by omega)).2), csgn_mk _ hc0]
    have key : f_point_b123 F (f_point_L64 F m) M (zL a) (zL b) (zL c) (nI at_) (bI th) (nI j) (zI (cmpV (mkRat a c, mkRat b c) (V j))) = if th || exB V (mkRat a c, mkRat b c) (j + 1) then some M else f_point_L173 F F M (zL a) (zL b) (zL c) (nI (mpos V (mkRat a c, mkRat b c) (j + 1) at_)) (M.1 5) := by
      have k32 := cmpV_32 (mkRat a c, mkRat b c) (V j)
      have ej1 : nI j + (-1) = zI ((j : Int) - 1) := nI_m1 j
      have fin : ∀ th2 : Bool, f_point_b140 F (f_point_L64 F m) M (zL a) (zL b) (zL c) (nI at_) (nI j) (zI (cmpV (mkRat a c, mkRat b c) (V j))) (bI th2) = if th2 || exB V (mkRat a c, mkRat b c) j then some M else f_point_L173 F F M (zL a) (zL b) (zL c) (nI (mpos V (mkRat a c, mkRat b c) (j + 1) at_)) (M.1 5) := by
        intro th2
        unfold f_point_b140 f_point_b154
        rw [ej1]
        by_cases q : 0 ≤ cmpV (mkRat a c, mkRat b c) (V j)
        · rw [if_pos ((zI_0le k32).mpr q), ih m at_ th2 (by omega) (by omega), mpos, ite_cond_eq_false _ _ (eq_false (show ¬ ltV (mkRat a c, mkRat b c) (V j) from fun w => by have := cmpV_neg.mpr w; omega))]
        · rw [if_neg (fun w => q ((zI_0le k32).mp w)), ih m j th2 (by omega) (by omega), mpos, ite_cond_eq_true _ _ (eq_true (show ltV (mkRat a c, mkRat b c) (V j) from cmpV_neg.mp (by omega)))]
      unfold f_point_b123
      have z0 : zI (cmpV (mkRat a c, mkRat b c) (V j)) = 0 ↔ (mkRat a c, mkRat b c) = V j := (zI_eq0 k32).trans cmpV_0
      cases th
      · rw [ite_cond_eq_true _ _ (eq_true (show bI false = 0 from rfl)), exB]
        by_cases q : (mkRat a c, mkRat b c) = V j
        · rw [if_pos (z0.mpr q), decide_eq_true q.symm, Bool.or_true]; exact fin true
        · rw [if_neg (fun w => q (z0.mp w)), decide_eq_false (fun w => q w.symm), Bool.or_false]; exact fin false
      · rw [ite_cond_eq_false _ _ (eq_false (show ¬ bI true = 0 by decide))]; exact (fin true).trans (by simp)
    rw [f_point_L64, ej, if_neg (nI_pos (by omega)), rdL_at (by omega) (by decide), rdL_at (by omega) (by decide), v1, v2, c1, cal_some]
    unfold cmpV at key
    by_cases q : cmpR (mkRat a c) (V j).1 = 0
    · rw [if_pos q] at key
      rw [if_pos ((zI_eq0 (cmpR_32 _ _)).mpr q), rdL_at (by omega) (by decide), rdL_at (by omega) (by decide), v3, v4, c2, cal_some]
      exact key
    · rw [if_neg q] at key
      rw [if_neg (fun w => q ((zI_eq0 (cmpR_32 _ _)).mp w))]
      exact key
end MPT2
