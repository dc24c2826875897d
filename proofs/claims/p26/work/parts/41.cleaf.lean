/-! ### the class: segments and points in its pool, and what their small methods answer -/
def cSeg (S : CS) (D : CD) (a : Nat) (s : Sg) : Prop := (a ∈ S.1 ∧ S.2.1 a = 4) ∧ (D.1 a 0 = zI (sX s) ∧ D.1 a 1 = zI (sY s) ∧ D.1 a 2 = zI (eX s) ∧ D.1 a 3 = zI (eY s)) ∧ D.2.1 a 4 = zL (dX s) ∧ D.2.1 a 5 = zL (dY s)
def cPt (S : CS) (D : CD) (a : Nat) (p : Pt) : Prop := (a ∈ S.1 ∧ S.2.1 a = 2) ∧ D.2.1 a 0 = zL p.1.num ∧ D.2.1 a 1 = zL p.1.den ∧ D.2.1 a 2 = zL p.2.num ∧ D.2.1 a 3 = zL p.2.den
theorem ck_ok {α : Type} {S : CS} {a k : Nat} {g : Option α} (h : a ∈ S.1 ∧ S.2.1 a = k) : ckK S a k g = g := ckK_ok h.1 h.2
/-- the rank of a whole point -/
def rkP (x y : Int) : Int := x * 101 + y
/-- the common stretch of two segments -/
def stc (s t : Sg) : Int := (if rkP (eX t) (eY t) < rkP (eX s) (eY s) then rkP (eX t) (eY t) else rkP (eX s) (eY s)) - (if rkP (sX s) (sY s) < rkP (sX t) (sY t) then rkP (sX t) (sY t) else rkP (sX s) (sY s))
section CLEAF
variable {F : Nat} {S : CS} {D : CD} {a b c : Nat} {s t : Sg} {p r : Pt}
theorem j_compare {x y : Int} (hx : i64 x) (hy : i64 y) : f_J13_compare_74951 F S D (zL x) (zL y) = some (zI (csgn x y)) := by
  unfold f_J13_compare_74951
  rw [zL_cmp hx hy]
  unfold csgn
  by_cases h1 : y < x
  · rw [if_pos h1]; rfl
  · rw [if_neg h1]
    by_cases h2 : x = y
    · rw [if_pos h2]; rfl
    · rw [if_neg h2]; rfl
theorem k_turn (hs : cSeg S D a s) (ht : cSeg S D b t) : f_X4_turn F S D a b = some (zL (cr s t)) := by
  unfold f_X4_turn
  rw [ck_ok hs.1, ck_ok ht.1, hs.2.2.1, hs.2.2.2, ht.2.2.1, ht.2.2.2, zL_mul, zL_mul, zL_sub]
  rfl
theorem k_share (hs : cSeg S D a s) (ht : cSeg S D b t) (os : sOk s) (ot : sOk t) : f_X4_share F S D a b = some (zL (ct s t t)) := by
  obtain ⟨⟨a1, a2, -, -⟩, -⟩ := id os
  obtain ⟨⟨b1, b2, -, -⟩, -⟩ := id ot
  unfold inR at a1 a2 b1 b2
  unfold f_X4_share
  rw [ck_ok hs.1, ck_ok ht.1, hs.2.1.1, hs.2.1.2.1, ht.2.1.1, ht.2.1.2.1, ht.2.2.1, ht.2.2.2, zI_sub, zI_sub, zI_long ⟨by omega, by omega⟩, zI_long ⟨by omega, by omega⟩, zL_mul, zL_mul, zL_sub]
  rfl
theorem rkP_lt {x y u v : Int} (h1 : inR x) (h2 : inR y) (h3 : inR u) (h4 : inR v) : rkP x y < rkP u v ↔ ltP x y u v = true := by
  unfold rkP ltP inR at *
  rw [decide_eq_true_iff]
  omega
theorem k_stretch (hs : cSeg S D a s) (ht : cSeg S D b t) (os : sOk s) (ot : sOk t) : f_X4_commonStretch F S D a b = some (zI (stc s t)) := by
  obtain ⟨⟨a1, a2, a3, a4⟩, -⟩ := id os
  obtain ⟨⟨b1, b2, b3, b4⟩, -⟩ := id ot
  have rk : ∀ x y : Int, f_X4_rank F S D (zI x) (zI y) = some (zI (rkP x y)) := by
    intro x y
    unfold f_X4_rank rkP
    rw [show (101 : Int32) = zI 101 from rfl, zI_mul, zI_add]
  have k32 : ∀ x y : Int, inR x → inR y → i32 (rkP x y) := by
    intro x y hx hy
    unfold inR at hx hy
    unfold rkP
    exact ⟨by omega, by omega⟩
  have l1 := zI_lt (k32 _ _ b3 b4) (k32 _ _ a3 a4)
  have l2 := zI_lt (k32 _ _ a1 a2) (k32 _ _ b1 b2)
  unfold f_X4_commonStretch stc
  rw [ck_ok hs.1, hs.2.1.1, hs.2.1.2.1, hs.2.1.2.2.1, hs.2.1.2.2.2, rk, cal_some, ck_ok ht.1, ht.2.1.1, ht.2.1.2.1, ht.2.1.2.2.1, ht.2.1.2.2.2, rk, cal_some, rk, cal_some, rk, cal_some]
  simp only [l1, l2]
  split <;> split <;> rw [zI_sub]
theorem k_part {x y : Int} (hx : i64 x) (hy : i64 y) : f_X4_isPart F S D (zL x) (zL y) = some (bI (prt x y)) := by
  have c1 := csgn_s y 0
  have c2 := csgn_s x 0
  have c3 := csgn_s x y
  unfold f_X4_isPart prt
  rw [show (0 : Int64) = zL 0 from rfl, zL_cmp hy i64_0, zL_cmp hx i64_0, zL_cmp hx hy]
  simp only [zI_le0 (csgn_32 y 0), zI_0lt (csgn_32 x 0), zI_lt0 (csgn_32 x y), zI_lt0 (csgn_32 x 0), zI_0lt (csgn_32 x y), c2.1, c2.2.2, c3.1, c3.2.2]
  have c4 : csgn y 0 ≤ 0 ↔ ¬ 0 < y := by have := c1.2.2; omega
  simp only [c4]
  unfold bI okB
  by_cases h1 : 0 < y
  · rw [if_neg (by omega), if_pos h1]
    by_cases h2 : x < 0
    · rw [if_pos h2, decide_eq_false (by omega)]; rfl
    · rw [if_neg h2]
      by_cases h3 : y < x
      · rw [if_pos h3, decide_eq_false (by omega)]; rfl
      · rw [if_neg h3, decide_eq_true (by omega)]; rfl
  · rw [if_pos h1, if_neg h1]
    by_cases h2 : 0 < x
    · rw [if_pos h2, decide_eq_false (by omega)]; rfl
    · rw [if_neg h2]
      by_cases h3 : x < y
      · rw [if_pos h3, decide_eq_false (by omega)]; rfl
      · rw [if_neg h3, decide_eq_true (by omega)]; rfl
theorem cr_neg (s t : Sg) : cr t s = -cr s t := by unfold cr; grind
theorem ct_neg (s t : Sg) : ct t s s = -ct s t s := by unfold ct; grind
theorem prt_neg {x y : Int} (h : y ≠ 0) : prt (-x) (-y) = prt x y := by
  unfold prt
  by_cases h1 : 0 < y
  · rw [if_neg (by omega), if_pos h1]
    exact decide_eq_decide.mpr (by omega)
  · rw [if_pos (by omega), if_neg h1]
    exact decide_eq_decide.mpr (by omega)
theorem d_ne {s : Sg} (h : sOk s) : dX s ≠ 0 ∨ dY s ≠ 0 := by
  obtain ⟨-, h⟩ := h
  have := of_decide_eq_true h
  unfold dX dY
  omega
theorem ct_par {s t : Sg} (hs : sOk s) (ht : sOk t) (h : cr s t = 0) : ct s t t = 0 ↔ ct s t s = 0 := by
  have d1 := d_ne hs
  have d2 := d_ne ht
  unfold cr at h
  unfold ct
  constructor
  · intro e
    have e1 : ((sX t - sX s) * dY s - (sY t - sY s) * dX s) * dX t = 0 := by grind
    have e2 : ((sX t - sX s) * dY s - (sY t - sY s) * dX s) * dY t = 0 := by grind
    rcases Int.mul_eq_zero.mp e1 with z | z
    · exact z
    · rcases Int.mul_eq_zero.mp e2 with w | w
      · exact w
      · exact absurd w (by omega)
  · intro e
    have e1 : ((sX t - sX s) * dY t - (sY t - sY s) * dX t) * dX s = 0 := by grind
    have e2 : ((sX t - sX s) * dY t - (sY t - sY s) * dX t) * dY s = 0 := by grind
    rcases Int.mul_eq_zero.mp e1 with z | z
    · exact z
    · rcases Int.mul_eq_zero.mp e2 with w | w
      · exact w
      · exact absurd w (by omega)
theorem stc_bd {s t : Sg} (hs : sOk s) (ht : sOk t) : i32 (stc s t) := by
  obtain ⟨⟨a1, a2, a3, a4⟩, -⟩ := hs
  obtain ⟨⟨b1, b2, b3, b4⟩, -⟩ := ht
  unfold inR at *
  unfold stc rkP
  refine ⟨?_, ?_⟩ <;> (repeat' split) <;> omega
theorem stc_comm (s t : Sg) : stc s t = stc t s := by
  unfold stc
  (repeat' split) <;> omega
theorem onl_stc {s t : Sg} (hs : sOk s) (ht : sOk t) : (onl s t = 2 ↔ 0 < stc s t) ∧ (0 < onl s t ↔ 0 ≤ stc s t) := by
  obtain ⟨⟨a1, a2, a3, a4⟩, -⟩ := hs
  obtain ⟨⟨b1, b2, b3, b4⟩, -⟩ := ht
  have l1 := rkP_lt a1 a2 b1 b2
  have l2 := rkP_lt a3 a4 b3 b4
  unfold inR at *
  unfold onl stc
  by_cases h1 : rkP (sX s) (sY s) < rkP (sX t) (sY t) <;> by_cases h2 : rkP (eX s) (eY s) < rkP (eX t) (eY t)
  · rw [if_pos (l1.mp h1), if_pos (l1.mp h1), if_pos (l2.mp h2), if_pos (l2.mp h2), if_neg (show ¬ rkP (eX t) (eY t) < rkP (eX s) (eY s) by omega), if_pos h1]
    unfold ltP rkP at *
    simp only [decide_eq_true_iff]
    (repeat' split) <;> omega
  · rw [if_pos (l1.mp h1), if_pos (l1.mp h1), if_neg (fun w => h2 (l2.mpr w)), if_neg (fun w => h2 (l2.mpr w)), if_pos h1]
    unfold ltP rkP at *
    simp only [decide_eq_true_iff]
    (repeat' split) <;> omega
  · rw [if_neg (fun w => h1 (l1.mpr w)), if_neg (fun w => h1 (l1.mpr w)), if_pos (l2.mp h2), if_pos (l2.mp h2), if_neg (show ¬ rkP (eX t) (eY t) < rkP (eX s) (eY s) by omega), if_neg h1]
    unfold ltP rkP at *
    simp only [decide_eq_true_iff]
    (repeat' split) <;> omega
  · rw [if_neg (fun w => h1 (l1.mpr w)), if_neg (fun w => h1 (l1.mpr w)), if_neg (fun w => h2 (l2.mpr w)), if_neg (fun w => h2 (l2.mpr w)), if_neg h1]
    unfold ltP rkP at *
    simp only [decide_eq_true_iff]
    (repeat' split) <;> omega
theorem onl_02 (s t : Sg) : 0 ≤ onl s t ∧ onl s t ≤ 2 := by
  unfold onl; repeat' split
  all_goals omega
theorem com2_iff {s t : Sg} (hs : sOk s) (ht : sOk t) : com s t = 2 ↔ cr s t = 0 ∧ ct s t t = 0 ∧ 0 < stc s t := by
  unfold com
  by_cases h1 : cr s t = 0
  · rw [if_pos h1]
    by_cases h2 : ct s t t = 0
    · rw [if_pos ((ct_par hs ht h1).mp h2), (onl_stc hs ht).1]
      exact ⟨fun h => ⟨h1, h2, h⟩, fun h => h.2.2⟩
    · rw [if_neg (fun w => h2 ((ct_par hs ht h1).mpr w))]
      exact ⟨(fun h => by omega), fun h => absurd h.2.1 h2⟩
  · rw [if_neg h1]
    exact ⟨(fun h => by split at h <;> omega), fun h => absurd h.1 h1⟩
theorem com2_comm {s t : Sg} (hs : sOk s) (ht : sOk t) : com s t = 2 ↔ com t s = 2 := by
  rw [com2_iff hs ht, com2_iff ht hs, cr_neg s t, ct_neg s t, stc_comm t s]
  constructor
  · rintro ⟨h1, h2, h3⟩
    have := (ct_par hs ht h1).mp h2
    exact ⟨by omega, by omega, h3⟩
  · rintro ⟨h1, h2, h3⟩
    have h1 : cr s t = 0 := by omega
    exact ⟨h1, (ct_par hs ht h1).mpr (by omega), h3⟩
theorem k_touches (hs : cSeg S D a s) (ht : cSeg S D b t) (os : sOk s) (ot : sOk t) : f_X4_touches F S D a b = some (bI (decide (0 < com s t))) := by
  have k1 := cr_bd os ot
  have k2 := ct_bd os ot ot
  have k4 := ct_bd os ot os
  have e0 : ∀ x : Int, -20000 ≤ x ∧ x ≤ 20000 → (lg_cmp (zL x) 0 = 0 ↔ x = 0) := by
    intro x hx
    rw [zL_cmp0 ⟨by omega, by omega⟩, zI_eq0 (csgn_32 x 0)]
    exact (csgn_s x 0).2.1
  have o02 := onl_stc os ot
  have st := stc_bd os ot
  unfold f_X4_touches
  rw [ck_ok hs.1, k_turn hs ht, cal_some]
  by_cases h1 : cr s t = 0
  · rw [if_pos ((e0 _ k1).mpr h1), k_share hs ht os ot, cal_some]
    unfold com
    rw [if_pos h1]
    by_cases h2 : ct s t t = 0
    · rw [if_pos ((e0 _ k2).mpr h2), if_pos ((ct_par os ot h1).mp h2), k_stretch hs ht os ot, cal_some]
      by_cases h3 : stc s t < 0
      · rw [if_pos ((zI_lt0 st).mpr h3), decide_eq_false (by omega)]; rfl
      · rw [if_neg (fun w => h3 ((zI_lt0 st).mp w)), decide_eq_true (by omega)]; rfl
    · rw [if_neg (fun w => h2 ((e0 _ k2).mp w)), if_neg (fun w => h2 ((ct_par os ot h1).mpr w))]; rfl
  · rw [if_neg (fun w => h1 ((e0 _ k1).mp w)), k_share hs ht os ot, cal_some, k_part ⟨by omega, by omega⟩ ⟨by omega, by omega⟩, cal_some, ck_ok ht.1, k_share ht hs ot os, cal_some, zL_neg, ct_neg s t, k_part ⟨by omega, by omega⟩ ⟨by omega, by omega⟩, cal_some, prt_neg h1]
    unfold com
    rw [if_neg h1]
    cases prt (ct s t t) (cr s t)
    · rw [if_pos (show bI false = 0 from rfl)]; rfl
    · rw [if_neg (show ¬ bI true = 0 by decide)]
      cases prt (ct s t s) (cr s t)
      · rw [if_pos (show bI false = 0 from rfl)]; rfl
      · rw [if_neg (show ¬ bI true = 0 by decide)]; rfl
theorem k_overlaps (hs : cSeg S D a s) (ht : cSeg S D b t) (os : sOk s) (ot : sOk t) : f_X4_overlaps F S D a b = some (bI (decide (com s t = 2))) := by
  have k1 := cr_bd os ot
  have k2 := ct_bd os ot ot
  have e0 : ∀ x : Int, -20000 ≤ x ∧ x ≤ 20000 → (lg_cmp (zL x) 0 = 0 ↔ x = 0) := by
    intro x hx
    rw [zL_cmp0 ⟨by omega, by omega⟩, zI_eq0 (csgn_32 x 0)]
    exact (csgn_s x 0).2.1
  have st := stc_bd os ot
  have c2 := com2_iff os ot
  unfold f_X4_overlaps
  rw [ck_ok hs.1, k_turn hs ht, cal_some]
  by_cases h1 : cr s t = 0
  · rw [if_pos ((e0 _ k1).mpr h1), k_share hs ht os ot, cal_some]
    by_cases h2 : ct s t t = 0
    · rw [if_pos ((e0 _ k2).mpr h2), k_stretch hs ht os ot, cal_some]
      by_cases h3 : stc s t ≤ 0
      · rw [if_pos ((zI_le0 st).mpr h3), decide_eq_false (fun w => by have := c2.mp w; omega)]; rfl
      · rw [if_neg (fun w => h3 ((zI_le0 st).mp w)), decide_eq_true (c2.mpr ⟨h1, h2, by omega⟩)]; rfl
    · rw [if_neg (fun w => h2 ((e0 _ k2).mp w)), decide_eq_false (fun w => h2 (c2.mp w).2.1)]; rfl
  · rw [if_neg (fun w => h1 ((e0 _ k1).mp w)), decide_eq_false (fun w => h1 (c2.mp w).1)]; rfl
theorem k_parallel (hs : cSeg S D a s) (ht : cSeg S D b t) (os : sOk s) (ot : sOk t) : f_X4_isParallel F S D a b = some (bI (decide (cr s t = 0))) := by
  have k1 := cr_bd os ot
  unfold f_X4_isParallel
  rw [ck_ok hs.1, k_turn hs ht, cal_some, zL_cmp0 ⟨by omega, by omega⟩]
  have e := zI_eq0 (csgn_32 (cr s t) 0)
  have e2 := (csgn_s (cr s t) 0).2.1
  by_cases h : cr s t = 0
  · rw [if_pos (e.mpr (e2.mpr h)), decide_eq_true h]; rfl
  · rw [if_neg (fun w => h (e2.mp (e.mp w))), decide_eq_false h]; rfl
theorem k_slopes (hs : cSeg S D a s) (ht : cSeg S D b t) (os : sOk s) (ot : sOk t) : f_X4_compareSlopes F S D a b = some (zI (csgn 0 (cr s t))) := by
  have k1 := cr_bd os ot
  unfold f_X4_compareSlopes
  rw [ck_ok hs.1, k_turn hs ht, cal_some, show (0 : Int64) = zL 0 from rfl, j_compare i64_0 ⟨by omega, by omega⟩, cal_some]
end CLEAF
