/-! ### all the vertices, in the reference -/
theorem divInt_mk (p : Int) {d : Int} (hd : d ≠ 0) : Rat.divInt p d = mkRat (if d < 0 then -p else p) d.natAbs := by
  rcases Int.lt_or_le d 0 with q | q
  · rw [if_pos q]
    have h1 : d = -((d.natAbs : Nat) : Int) := by omega
    conv => lhs; rw [h1]
    rw [Rat.divInt_neg', Rat.divInt_ofNat]
  · rw [if_neg (by omega)]
    have h1 : d = ((d.natAbs : Nat) : Int) := by omega
    conv => lhs; rw [h1]
    rw [Rat.divInt_ofNat]
theorem bR_mk {a : Int} {c : Nat} (hc0 : c ≠ 0) (ha : -4000000 ≤ a ∧ a ≤ 4000000) (hc : c ≤ 20000) : bR (mkRat a c) := by
  obtain ⟨g, hg, h1, h2, -⟩ := mkRat_sc a hc0
  have h3 : (mkRat a c).num.natAbs ≤ a.natAbs := by
    conv => rhs; rw [h1]
    rw [Int.natAbs_mul]; exact Nat.le_mul_of_pos_right _ (by omega)
  have h4 : (mkRat a c).den ≤ c := by
    have : c = (mkRat a c).den * g := by omega
    conv => rhs; rw [this]
    exact Nat.le_mul_of_pos_right _ hg
  exact ⟨⟨by omega, by omega⟩, by omega⟩
theorem bR_div {a d : Int} (hd : d ≠ 0) (ha : -4000000 ≤ a ∧ a ≤ 4000000) (hc : -20000 ≤ d ∧ d ≤ 20000) : bR (Rat.divInt a d) := by
  rw [divInt_mk a hd]
  exact bR_mk (by omega) (by split <;> omega) (by omega)
section MVS
variable {F : Nat} {n : Nat} {V : Nat → Pt}
theorem e_point {M : MS} (hF : 1000001 ≤ F) (hV : mVer M n V) (hs : vsort n V) (hbv : ∀ i, i < n → bV (V i)) (hn : n ≤ 99) {px py d : Int} (hx : -4000000 ≤ px ∧ px ≤ 4000000) (hy : -4000000 ≤ py ∧ py ≤ 4000000) (hd : d ≠ 0) (hd2 : -20000 ≤ d ∧ d ≤ 20000) :
    ∃ M2, f_point F M (zL px) (zL py) (zL d) = some M2 ∧ mVer M2 (vins (n, V) (Rat.divInt px d, Rat.divInt py d)).1 (vins (n, V) (Rat.divInt px d, Rat.divInt py d)).2 ∧ mFrV M M2 := by
  have e1 : f_point F M (zL px) (zL py) (zL d) = f_point_b45 F M (zL (if d < 0 then -px else px)) (zL (if d < 0 then -py else py)) (zL (d.natAbs : Nat)) := by
    unfold f_point f_point_b13 f_point_b28
    have e : lg_cmp (zL d) 0 = zI (csgn d 0) := zL_cmp0 ⟨by omega, by omega⟩
    rw [e, zL_neg, zL_neg, zL_neg]
    rcases Int.lt_trichotomy d 0 with q | q | q
    · rw [csgn_lt q]
      simp only [if_neg (show ¬ (0 ≤ zI (-1)) by decide), if_pos q]
      congr 2; omega
    · exact absurd q hd
    · rw [csgn_gt q]
      simp only [if_pos (show (0 ≤ zI 1) by decide), if_neg (show ¬ d < 0 by omega)]
      congr 2; omega
  rw [e1, divInt_mk px hd, divInt_mk py hd]
  have hc0 : d.natAbs ≠ 0 := by omega
  have hc : d.natAbs ≤ 20000 := by omega
  have ha : -4000000 ≤ (if d < 0 then -px else px) ∧ (if d < 0 then -px else px) ≤ 4000000 := by split <;> omega
  have hb : -4000000 ≤ (if d < 0 then -py else py) ∧ (if d < 0 then -py else py) ≤ 4000000 := by split <;> omega
  generalize (if d < 0 then -px else px) = a at ha
  generalize (if d < 0 then -py else py) = b at hb
  generalize d.natAbs = c at hc0 hc
  obtain ⟨h5, hv⟩ := hV
  unfold f_point_b45
  have en : nI n - 1 = zI ((n : Int) - 1) := by rw [nI_zI]; exact zI_sub n 1
  have e64 := e_point64 (F := F) hn hv hbv ha hb hc hc0 n F n false (Nat.le_refl _) (by omega)
  rw [h5, en]
  rw [h5] at e64
  refine (show _ = _ from e64) ▸ ?_
  rw [Bool.false_or]
  cases hx : exB V (mkRat a c, mkRat b c) n
  · rw [if_neg (by decide), mpos_vpos hs hx]
    have hnot : ¬ (vpos V (mkRat a c, mkRat b c) n < n ∧ V (vpos V (mkRat a c, mkRat b c) n) = (mkRat a c, mkRat b c)) := fun w => by rw [(exB_iff hs).mpr w] at hx; cases hx
    have hle := vpos_le V (mkRat a c, mkRat b c) n
    obtain ⟨M2, g1, g2, g3⟩ := e_point173 hF hn ha hb hc hc0 (vpos V (mkRat a c, mkRat b c) n) (n - vpos V (mkRat a c, mkRat b c) n) F M (by omega) (by omega) ⟨h5, fun i _ h => hv i h, fun i h1 h2 => by omega⟩
    rw [show vpos V (mkRat a c, mkRat b c) n + (n - vpos V (mkRat a c, mkRat b c) n) = n by omega] at g1
    refine ⟨M2, g1, ?_, g3⟩
    unfold vins
    rw [if_neg hnot]; exact g2
  · rw [if_pos rfl]
    refine ⟨M, rfl, ?_, rfl, fun _ _ => rfl⟩
    unfold vins
    rw [if_pos ((exB_iff hs).mp hx)]; exact ⟨h5, hv⟩
end MVS
