/-! ### the reference's public operations: what is asked, and the plain answers -/
def inP (x : Int) : Bool := decide (0 ≤ x ∧ x ≤ 100)
def inB (x : Int) (k : Nat) : Bool := decide (0 ≤ x ∧ x < k)
theorem inB_nat {x : Int} {k : Nat} (h : inB x k = true) : ∃ v, v < k ∧ x = (v : Int) ∧ zI x = nI v := by
  have h := of_decide_eq_true h
  exact ⟨x.toNat, by omega, by omega, by rw [nI_zI, Int.toNat_of_nonneg h.1]⟩
theorem zI_of (a : Int32) : zI a.toInt = a ∧ i32 a.toInt := ⟨Int32.ofInt_toInt a, Int32.le_toInt a, Int32.toInt_lt a⟩
section MOP
variable {F : Nat} {M : MS}
theorem e_isIn {x a b : Int} (hx : i32 x) (ha : i32 a) (hb : i32 b) : f_isIn F M (zI x) (zI a) (zI b) = some (bI (decide (a ≤ x ∧ x ≤ b))) := by
  unfold f_isIn
  by_cases h1 : x < a
  · rw [if_pos ((zI_lt hx ha).mpr h1), decide_eq_false (by omega)]; rfl
  · rw [if_neg (fun w => h1 ((zI_lt hx ha).mp w))]
    by_cases h2 : b < x
    · rw [if_pos ((zI_lt hb hx).mpr h2), decide_eq_false (by omega)]; rfl
    · rw [if_neg (fun w => h2 ((zI_lt hb hx).mp w)), decide_eq_true (by omega)]; rfl
theorem e_isInB {x : Int} (hx : i32 x) {k : Nat} (hk : k < 2147483648) : f_isIn F M (zI x) 0 (nI k - 1) = some (bI (inB x k)) := by
  rw [nI_zI, show (1 : Int32) = zI 1 from rfl, zI_sub, show (0 : Int32) = zI 0 from rfl, e_isIn hx i32_0 ⟨by omega, by omega⟩]
  unfold inB
  congr 2
  exact decide_eq_decide.mpr (by omega)
theorem e_isPlace {x : Int} (hx : i32 x) : f_isPlace F M (zI x) = some (bI (inP x)) := by
  unfold f_isPlace
  rw [show (0 : Int32) = zI 0 from rfl, show (100 : Int32) = zI 100 from rfl, e_isIn hx i32_0 ⟨by omega, by omega⟩, cal_some, okB_bI]
  rfl
theorem e_goes (b : Bool) : f_goes F M (bI (!b)) = some (mpF M 23 (bI (!b)), bI b) := by
  unfold f_goes wrF
  cases b
  · rfl
  · rfl
theorem e_asksVertex {x : Int} (hx : i32 x) {k : Nat} (hk : k < 2147483648) (h5 : M.1 5 = nI k) : f_asksVertex F M (zI x) = some (mpF M 23 (bI (!inB x k)), bI (inB x k)) := by
  unfold f_asksVertex f_asksVertex_b20
  have h1 := e_goes (F := F) (M := M) (inB x k)
  rw [h5, e_isInB hx hk, cal_some]
  cases hb : inB x k
  · rw [hb] at h1
    rw [if_pos (show bI false = 0 from rfl), show (1 : Int32) = bI (!false) from rfl, h1, caM_some, okB_bI]
  · rw [hb] at h1
    rw [if_neg (show ¬ bI true = 0 by decide), show (0 : Int32) = bI (!true) from rfl, h1, caM_some, okB_bI]
theorem e_asksEdge {x : Int} (hx : i32 x) {k : Nat} (hk : k < 2147483648) (h5 : M.1 11 = nI k) : f_asksEdge F M (zI x) = some (mpF M 23 (bI (!inB x k)), bI (inB x k)) := by
  unfold f_asksEdge f_asksEdge_b20
  have h1 := e_goes (F := F) (M := M) (inB x k)
  rw [h5, e_isInB hx hk, cal_some]
  cases hb : inB x k
  · rw [hb] at h1
    rw [if_pos (show bI false = 0 from rfl), show (1 : Int32) = bI (!false) from rfl, h1, caM_some, okB_bI]
  · rw [hb] at h1
    rw [if_neg (show ¬ bI true = 0 by decide), show (0 : Int32) = bI (!true) from rfl, h1, caM_some, okB_bI]
theorem e_asksFace {x : Int} (hx : i32 x) {k : Nat} (hk : k < 2147483648) (h5 : M.1 21 = nI k) : f_asksFace F M (zI x) = some (mpF M 23 (bI (!inB x k)), bI (inB x k)) := by
  unfold f_asksFace f_asksFace_b20
  have h1 := e_goes (F := F) (M := M) (inB x k)
  rw [h5, e_isInB hx hk, cal_some]
  cases hb : inB x k
  · rw [hb] at h1
    rw [if_pos (show bI false = 0 from rfl), show (1 : Int32) = bI (!false) from rfl, h1, caM_some, okB_bI]
  · rw [hb] at h1
    rw [if_neg (show ¬ bI true = 0 by decide), show (0 : Int32) = bI (!true) from rfl, h1, caM_some, okB_bI]
theorem e_isSegment {x : Int} (hx : i32 x) {k : Nat} (hk : k < 2147483648) (h0 : M.1 0 = nI k) : f_isSegment F M (zI x) = some (bI (inB x k)) := by
  unfold f_isSegment
  rw [h0, e_isInB hx hk, cal_some, okB_bI]
/-- the four numbers of a vertex -/
theorem e_coord {x : Int} (hx : i32 x) {k : Nat} {V : Nat → Pt} (hV : mVer M k V) (hk : k ≤ 99) :
    f_xNumerator F M (zI x) = some (mpF M 23 (bI (!inB x k)), if inB x k then zI (V x.toNat).1.num else 0) ∧
    f_xDenominator F M (zI x) = some (mpF M 23 (bI (!inB x k)), if inB x k then zI (V x.toNat).1.den else 0) ∧
    f_yNumerator F M (zI x) = some (mpF M 23 (bI (!inB x k)), if inB x k then zI (V x.toNat).2.num else 0) ∧
    f_yDenominator F M (zI x) = some (mpF M 23 (bI (!inB x k)), if inB x k then zI (V x.toNat).2.den else 0) := by
  unfold f_xNumerator f_xDenominator f_yNumerator f_yDenominator
  rw [e_asksVertex hx (by omega) hV.1, caM_some, caM_some, caM_some, caM_some]
  cases hb : inB x k
  · rw [if_pos (show bI false = 0 from rfl)]
    exact ⟨rfl, rfl, rfl, rfl⟩
  · obtain ⟨v, h1, h2, h3⟩ := inB_nat hb
    obtain ⟨v1, v2, v3, v4⟩ := hV.2 v h1
    have hv : x.toNat = v := by omega
    rw [if_neg (show ¬ bI true = 0 by decide), if_pos rfl, if_pos rfl, if_pos rfl, if_pos rfl, h3, hv, rdL_at (by omega) (by decide), rdL_at (by omega) (by decide), rdL_at (by omega) (by decide), rdL_at (by omega) (by decide)]
    show some (mpF M 23 0, (M.2.2 6 v).toInt32) = _ ∧ some (mpF M 23 0, (M.2.2 7 v).toInt32) = _ ∧ some (mpF M 23 0, (M.2.2 8 v).toInt32) = _ ∧ some (mpF M 23 0, (M.2.2 9 v).toInt32) = _
    rw [v1, v2, v3, v4, zL_int, zL_int, zL_int, zL_int]
    exact ⟨rfl, rfl, rfl, rfl⟩
/-- the row of an edge -/
theorem e_ends {x : Int} (hx : i32 x) {q : ES} (hE : mEdg M q) (hk : q.1 ≤ 158) :
    f_segmentOf F M (zI x) = some (mpF M 23 (bI (!inB x q.1)), if inB x q.1 then nI (eS q x.toNat) else 0) ∧
    f_from F M (zI x) = some (mpF M 23 (bI (!inB x q.1)), if inB x q.1 then nI (eF q x.toNat) else 0) ∧
    f_to F M (zI x) = some (mpF M 23 (bI (!inB x q.1)), if inB x q.1 then nI (eT q x.toNat) else 0) := by
  unfold f_segmentOf f_from f_to
  rw [e_asksEdge hx (by omega) hE.1, caM_some, caM_some, caM_some]
  cases hb : inB x q.1
  · rw [if_pos (show bI false = 0 from rfl)]
    exact ⟨rfl, rfl, rfl⟩
  · obtain ⟨v, h1, h2, h3⟩ := inB_nat hb
    obtain ⟨v1, v2, v3⟩ := hE.2 v h1
    have hv : x.toNat = v := by omega
    rw [if_neg (show ¬ bI true = 0 by decide), if_pos rfl, if_pos rfl, if_pos rfl, h3, hv, rdI_at (by omega) (by decide), rdI_at (by omega) (by decide), rdI_at (by omega) (by decide)]
    show some (mpF M 23 0, M.2.1 12 v) = _ ∧ some (mpF M 23 0, M.2.1 13 v) = _ ∧ some (mpF M 23 0, M.2.1 14 v) = _
    rw [v1, v2, v3]
    exact ⟨rfl, rfl, rfl⟩
/-- the faces of an edge -/
theorem e_lr {x : Int} (hx : i32 x) {q : ES} (hE : mEdg M q) (hk : q.1 ≤ 158) {rd fo : Nat → Nat} (hrd : ∀ s, s < 2 * q.1 → M.2.1 15 s = nI (rd s) ∧ rd s < 320) (hfo : ∀ s, s < 2 * q.1 → M.2.1 20 (rd s) = nI (fo (rd s))) :
    f_leftOf F M (zI x) = some (mpF M 23 (bI (!inB x q.1)), if inB x q.1 then nI (fo (rd (2 * x.toNat))) else 0) ∧
    f_rightOf F M (zI x) = some (mpF M 23 (bI (!inB x q.1)), if inB x q.1 then nI (fo (rd (2 * x.toNat + 1))) else 0) := by
  unfold f_leftOf f_rightOf
  rw [e_asksEdge hx (by omega) hE.1, caM_some, caM_some]
  cases hb : inB x q.1
  · rw [if_pos (show bI false = 0 from rfl)]
    exact ⟨rfl, rfl⟩
  · obtain ⟨v, h1, h2, h3⟩ := inB_nat hb
    have hv : x.toNat = v := by omega
    have ha : (2 : Int32) * nI v = nI (2 * v) := by rw [show (2 : Int32) = zI 2 from rfl, nI_zI, zI_mul, nI_zI]; rfl
    rw [if_neg (show ¬ bI true = 0 by decide), if_pos rfl, if_pos rfl, h3, hv, ha, nI_1, rdI_at (by omega) (by decide), rdI_at (by omega) (by decide)]
    show rdI 320 (M.2.1 20) (M.2.1 15 (2 * v)) (fun t8 => some (mpF M 23 0, t8)) = _ ∧ rdI 320 (M.2.1 20) (M.2.1 15 (2 * v + 1)) (fun t8 => some (mpF M 23 0, t8)) = _
    obtain ⟨a1, a2⟩ := hrd (2 * v) (by omega)
    obtain ⟨b1, b2⟩ := hrd (2 * v + 1) (by omega)
    rw [a1, b1, rdI_at a2 (by decide), rdI_at b2 (by decide), hfo _ (by omega), hfo _ (by omega)]
    exact ⟨rfl, rfl⟩
end MOP
