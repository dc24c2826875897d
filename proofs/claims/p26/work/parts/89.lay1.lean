/-! the new object's layout -/
section L1
variable {N : Nat} {S : CS} {D : CD} {a0 sz e : Nat}
theorem sRef_r (S : CS) (q k v a : Nat) (h : a ≠ q) : (sRef S q k v).2.2.1 a = S.2.2.1 a := va_up_ne _ _ h
theorem rX5_r (N : Nat) (S : CS) (a sz x : Nat) (h : x < sz) (hx : x ≠ a) : (rX5_init N S a sz).2.2.1 x = S.2.2.1 x := (rX5_old N S a sz x h).2.2 hx
theorem rX0_r (S : CS) (a sz x : Nat) (h : x < sz) (hx : x ≠ a) : (rX0_init S a sz).2.2.1 x = S.2.2.1 x := (rX0_old S a sz x h).2.2 hx
theorem rX1_r (S : CS) (a sz x : Nat) (h : x < sz) (hx : x ≠ a) : (rX1_init S a sz).2.2.1 x = S.2.2.1 x := (rX1_old S a sz x h).2.2 hx
theorem X6_a0 (h : a0 < sz) : (sX6 N S a0 sz e).2.2.1 a0 0 = some sz ∧ (sX6 N S a0 sz e).2.2.1 a0 1 = some (sz + 1) ∧ (sX6 N S a0 sz e).2.2.1 a0 2 = some (sz + 2) ∧ (sX6 N S a0 sz e).2.2.1 a0 3 = some (sz + 103) ∧ (sX6 N S a0 sz e).2.2.1 a0 4 = some (sz + 114) ∧ (sX6 N S a0 sz e).2.2.1 a0 5 = some (sz + 119) ∧ (sX6 N S a0 sz e).2.2.1 a0 6 = some (sz + 121) := by
  refine ⟨?_, ?_, ?_, ?_, ?_, ?_, ?_⟩ <;> simp (disch := omega) only [sX6, sX6_6, sX6_5, sX6_4, sX6_3, sX6_2, ref_ne, ref_at, sAdd_r, sRef_r, rX5_r, rX0_r, rX1_r]
theorem sX6_L (N : Nat) (S : CS) (a0 sz e : Nat) : (sX6 N S a0 sz e).1 = S.1 ++ ([sz, sz + 1, sz + 2, sz + 3] ++ ((List.range N).map (sz + 3 + 1 + ·) ++ [sz + 3 + 91, sz + 3 + 92, sz + 3 + 93, sz + 3 + 94, sz + 3 + 95, sz + 3 + 96, sz + 3 + 97, sz + 3 + 98, sz + 3 + 99, sz + 103, sz + 104, sz + 105, sz + 106, sz + 107, sz + 108, sz + 109, sz + 110, sz + 111, sz + 112, sz + 113, sz + 114, sz + 115, sz + 116, sz + 117, sz + 118, sz + 119, sz + 120, sz + 121])) := by
  simp only [sX6, sX6_6, sX6_5, sX6_4, sX6_3, sX6_2, sX6_1, rX1_init, rX0_init, nRow, sRef, sAdd, rX5_L, List.append_assoc, List.cons_append, List.nil_append, Nat.add_zero, Nat.add_assoc, Nat.reduceAdd]
theorem sX6_mem (hN : N = 90) {k : Nat} (hk : k < 122) : sz + k ∈ (sX6 N S a0 sz e).1 := by
  rw [sX6_L]
  refine List.mem_append_right _ ?_
  simp only [List.mem_append, List.mem_cons, List.not_mem_nil, or_false, List.mem_map, List.mem_range]
  by_cases h1 : k < 4
  · exact Or.inl (by omega)
  · refine Or.inr ?_
    by_cases h2 : k < 94
    · exact Or.inl ⟨k - 4, by omega, by omega⟩
    · exact Or.inr (by omega)
theorem cLay_6 (hN : N = 90) (hm0 : a0 ∈ S.1) (hk0 : S.2.1 a0 = 6) (hlt : a0 < sz) (he : e < sz) (hne : e ∉ S.1) : cLay (sX6 N S a0 sz e) (A6 a0 sz e) := by
  have F3 := x5_at hN (sAdd (sRef (sX6_2 S a0 sz e) a0 1 (sz + 1)) (sz + 2) 5 0) (sz + 2) (sz + 3) (by omega)
  have F4 := x0_at (sAdd (sRef (sX6_3 N S a0 sz e) a0 2 (sz + 2)) (sz + 103) 0 0) (sz + 103) (sz + 104) (by omega)
  have F5 := x1_at (sAdd (sRef (sX6_4 N S a0 sz e) a0 3 (sz + 103)) (sz + 114) 1 0) (sz + 114) (sz + 115) (by omega)
  dsimp only at F3 F4 F5
  have E3 : rX5_init N (sAdd (sRef (sX6_2 S a0 sz e) a0 1 (sz + 1)) (sz + 2) 5 0) (sz + 2) (sz + 3) = sX6_3 N S a0 sz e := rfl
  have E4 : rX0_init (sAdd (sRef (sX6_3 N S a0 sz e) a0 2 (sz + 2)) (sz + 103) 0 0) (sz + 103) (sz + 104) = sX6_4 N S a0 sz e := rfl
  have E5 : rX1_init (sAdd (sRef (sX6_4 N S a0 sz e) a0 3 (sz + 103)) (sz + 114) 1 0) (sz + 114) (sz + 115) = sX6_5 N S a0 sz e := rfl
  rw [E3] at F3; rw [E4] at F4; rw [E5] at F5
  obtain ⟨⟨f1, f2, f3, f4⟩, ⟨g0, g1, g2, g3, g4, g5⟩, fr⟩ := F3
  obtain ⟨⟨h0, h1, h2, h3, h4⟩, hr⟩ := F4
  obtain ⟨⟨i0, i1⟩, ir⟩ := F5
  have q3 := lo_3 (N := N) (S := S) (a0 := a0) (sz := sz) (e := e)
  have q4 := lo_4 (N := N) (S := S) (a0 := a0) (sz := sz) (e := e)
  have q5 := lo_5 (N := N) (S := S) (a0 := a0) (sz := sz) (e := e)
  have q6 := lo_6 (N := N) (S := S) (a0 := a0) (sz := sz) (e := e)
  have R3 : ∀ i, i < 4 → (sX6 N S a0 sz e).2.1 (sz + (95 + 2 * i)) = 3 ∧ (sX6 N S a0 sz e).2.1 (sz + (96 + 2 * i)) = 8 ∧ (sX6 N S a0 sz e).2.2.1 (sz + (95 + 2 * i)) 0 = some (sz + (96 + 2 * i)) ∧ (sX6 N S a0 sz e).2.2.2 (sz + (96 + 2 * i)) = 90 := fun i hi => by
    obtain ⟨a1, a2, a3, a4⟩ := fr i hi
    rw [show sz + 3 + (92 + 2 * i) + 1 = sz + (96 + 2 * i) from by omega, show sz + 3 + (92 + 2 * i) = sz + (95 + 2 * i) from by omega] at *
    obtain ⟨b1, b2, b3⟩ := q3 (sz + (95 + 2 * i)) (by omega)
    obtain ⟨c1, c2, c3⟩ := q3 (sz + (96 + 2 * i)) (by omega)
    exact ⟨b1.trans a1, c1.trans a2, (congrFun (b3 (by omega)) 0).trans a3, c2.trans a4⟩
  have R4 : ∀ i, i < 5 → (sX6 N S a0 sz e).2.1 (sz + (104 + 2 * i)) = 3 ∧ (sX6 N S a0 sz e).2.1 (sz + (105 + 2 * i)) = 8 ∧ (sX6 N S a0 sz e).2.2.1 (sz + (104 + 2 * i)) 0 = some (sz + (105 + 2 * i)) ∧ (sX6 N S a0 sz e).2.2.2 (sz + (105 + 2 * i)) = if i < 3 then 144 else 288 := fun i hi => by
    obtain ⟨a1, a2, a3, a4⟩ := hr i hi
    rw [show sz + 104 + 2 * i + 1 = sz + (105 + 2 * i) from by omega, show sz + 104 + 2 * i = sz + (104 + 2 * i) from by omega] at *
    obtain ⟨b1, b2, b3⟩ := q4 (sz + (104 + 2 * i)) (by omega)
    obtain ⟨c1, c2, c3⟩ := q4 (sz + (105 + 2 * i)) (by omega)
    exact ⟨b1.trans a1, c1.trans a2, (congrFun (b3 (by omega)) 0).trans a3, c2.trans a4⟩
  have R5 : ∀ i, i < 2 → (sX6 N S a0 sz e).2.1 (sz + (115 + 2 * i)) = 3 ∧ (sX6 N S a0 sz e).2.1 (sz + (116 + 2 * i)) = 8 ∧ (sX6 N S a0 sz e).2.2.1 (sz + (115 + 2 * i)) 0 = some (sz + (116 + 2 * i)) ∧ (sX6 N S a0 sz e).2.2.2 (sz + (116 + 2 * i)) = 56 := fun i hi => by
    obtain ⟨a1, a2, a3, a4⟩ := ir i hi
    rw [show sz + 115 + 2 * i + 1 = sz + (116 + 2 * i) from by omega, show sz + 115 + 2 * i = sz + (115 + 2 * i) from by omega] at *
    obtain ⟨b1, b2, b3⟩ := q5 (sz + (115 + 2 * i)) (by omega)
    obtain ⟨c1, c2, c3⟩ := q5 (sz + (116 + 2 * i)) (by omega)
    exact ⟨b1.trans a1, c1.trans a2, (congrFun (b3 (by omega)) 0).trans a3, c2.trans a4⟩
  have A_ : ∀ i, i ≠ 0 → i ≠ 2 → A6 a0 sz e i = sz + tao i := fun i h1 h2 => by unfold A6; rw [if_neg h1, if_neg h2]
  have A_0 : A6 a0 sz e 0 = a0 := rfl
  have A_2 : A6 a0 sz e 2 = e := rfl
  obtain ⟨z0, z1, z2, z3, z4, z5, z6⟩ := X6_a0 (N := N) (S := S) (e := e) hlt
  have K1 : (sX6 N S a0 sz e).2.1 (sz + 0) = 7 := (lo_1 (N := N) sz (by omega)).1.trans (va_up_self _ _ _)
  have K3 : (sX6 N S a0 sz e).2.1 (sz + 1) = 4 := (lo_2 (N := N) (sz + 1) (by omega)).1.trans (va_up_self _ _ _)
  have K4 : (sX6 N S a0 sz e).2.1 (sz + 2) = 5 := (q3 (sz + 2) (by omega)).1.trans ((rX5_old N _ (sz + 2) (sz + 3) (sz + 2) (by omega)).1.trans (va_up_self _ _ _))
  have K5 : (sX6 N S a0 sz e).2.1 (sz + 103) = 0 := (q4 (sz + 103) (by omega)).1.trans ((rX0_old _ (sz + 103) (sz + 104) (sz + 103) (by omega)).1.trans (va_up_self _ _ _))
  have K6 : (sX6 N S a0 sz e).2.1 (sz + 114) = 1 := (q5 (sz + 114) (by omega)).1.trans ((rX1_old _ (sz + 114) (sz + 115) (sz + 114) (by omega)).1.trans (va_up_self _ _ _))
  have K7 : (sX6 N S a0 sz e).2.1 (sz + 119) = 3 := (q6 (sz + 119) (by omega)).1.trans ((va_up_ne _ _ (by omega)).trans (va_up_self _ _ _))
  have K8 : (sX6 N S a0 sz e).2.1 (sz + 120) = 8 := (q6 (sz + 120) (by omega)).1.trans (va_up_self _ _ _)
  have K9 : (sX6 N S a0 sz e).2.1 (sz + 121) = 2 := va_up_self _ _ _
  have K10 : (sX6 N S a0 sz e).2.1 (sz + 3) = 9 := (q3 (sz + 3) (by omega)).1.trans f1
  have K11 : (sX6 N S a0 sz e).2.1 (sz + 94) = 2 := (q3 (sz + 3 + 91) (by omega)).1.trans f3
  have K12 : (sX6 N S a0 sz e).2.1 (sz + 95) = 3 := (R3 0 (by decide)).1
  have K13 : (sX6 N S a0 sz e).2.1 (sz + 97) = 3 := (R3 1 (by decide)).1
  have K14 : (sX6 N S a0 sz e).2.1 (sz + 99) = 3 := (R3 2 (by decide)).1
  have K15 : (sX6 N S a0 sz e).2.1 (sz + 101) = 3 := (R3 3 (by decide)).1
  have K16 : (sX6 N S a0 sz e).2.1 (sz + 96) = 8 := (R3 0 (by decide)).2.1
  have K17 : (sX6 N S a0 sz e).2.1 (sz + 98) = 8 := (R3 1 (by decide)).2.1
  have K18 : (sX6 N S a0 sz e).2.1 (sz + 100) = 8 := (R3 2 (by decide)).2.1
  have K19 : (sX6 N S a0 sz e).2.1 (sz + 102) = 8 := (R3 3 (by decide)).2.1
  have K20 : (sX6 N S a0 sz e).2.1 (sz + 104) = 3 := (R4 0 (by decide)).1
  have K21 : (sX6 N S a0 sz e).2.1 (sz + 106) = 3 := (R4 1 (by decide)).1
  have K22 : (sX6 N S a0 sz e).2.1 (sz + 108) = 3 := (R4 2 (by decide)).1
  have K23 : (sX6 N S a0 sz e).2.1 (sz + 110) = 3 := (R4 3 (by decide)).1
  have K24 : (sX6 N S a0 sz e).2.1 (sz + 112) = 3 := (R4 4 (by decide)).1
  have K25 : (sX6 N S a0 sz e).2.1 (sz + 105) = 8 := (R4 0 (by decide)).2.1
  have K26 : (sX6 N S a0 sz e).2.1 (sz + 107) = 8 := (R4 1 (by decide)).2.1
  have K27 : (sX6 N S a0 sz e).2.1 (sz + 109) = 8 := (R4 2 (by decide)).2.1
  have K28 : (sX6 N S a0 sz e).2.1 (sz + 111) = 8 := (R4 3 (by decide)).2.1
  have K29 : (sX6 N S a0 sz e).2.1 (sz + 113) = 8 := (R4 4 (by decide)).2.1
  have K30 : (sX6 N S a0 sz e).2.1 (sz + 115) = 3 := (R5 0 (by decide)).1
  have K31 : (sX6 N S a0 sz e).2.1 (sz + 117) = 3 := (R5 1 (by decide)).1
  have K32 : (sX6 N S a0 sz e).2.1 (sz + 116) = 8 := (R5 0 (by decide)).2.1
  have K33 : (sX6 N S a0 sz e).2.1 (sz + 118) = 8 := (R5 1 (by decide)).2.1
  refine ⟨fun i hi h2 => ?_, fun i j hi hj h => A6_inj hlt he (fun w => hne (w ▸ hm0)) hi hj h, fun q hq => ?_, fun q hq => ?_⟩
  · by_cases hi0 : i = 0
    · subst hi0
      exact ⟨by rw [A_0, sX6_L]; exact List.mem_append_left _ hm0, by rw [A_0]; exact (lo_0 (N := N) a0 hlt).1.trans hk0⟩
    · rw [A_ i hi0 h2]
      have ht : tao i < 122 := by
        unfold tao
        by_cases h34 : i < 34
        · rw [if_pos h34]
          have : ∀ i, i < 34 → taoL.getD i 0 < 122 := by decide
          exact this i h34
        · rw [if_neg h34]; omega
      refine ⟨sX6_mem hN ht, ?_⟩
      by_cases h34 : i < 34
      · match i, h34, hi0, h2 with
        | 1, _, _, _ => exact K1
        | 3, _, _, _ => exact K3
        | 4, _, _, _ => exact K4
        | 5, _, _, _ => exact K5
        | 6, _, _, _ => exact K6
        | 7, _, _, _ => exact K7
        | 8, _, _, _ => exact K8
        | 9, _, _, _ => exact K9
        | 10, _, _, _ => exact K10
        | 11, _, _, _ => exact K11
        | 12, _, _, _ => exact K12
        | 13, _, _, _ => exact K13
        | 14, _, _, _ => exact K14
        | 15, _, _, _ => exact K15
        | 16, _, _, _ => exact K16
        | 17, _, _, _ => exact K17
        | 18, _, _, _ => exact K18
        | 19, _, _, _ => exact K19
        | 20, _, _, _ => exact K20
        | 21, _, _, _ => exact K21
        | 22, _, _, _ => exact K22
        | 23, _, _, _ => exact K23
        | 24, _, _, _ => exact K24
        | 25, _, _, _ => exact K25
        | 26, _, _, _ => exact K26
        | 27, _, _, _ => exact K27
        | 28, _, _, _ => exact K28
        | 29, _, _, _ => exact K29
        | 30, _, _, _ => exact K30
        | 31, _, _, _ => exact K31
        | 32, _, _, _ => exact K32
        | 33, _, _, _ => exact K33
        | 0, _, h, _ => exact absurd rfl h
        | 2, _, _, h => exact absurd rfl h
        | n + 34, h, _, _ => omega
      · have e1 : tao i = i - 30 := by unfold tao; rw [if_neg h34]
        have e2 : kdR i = 2 := by unfold kdR; simp only [show ¬ i = 0 from by omega, show ¬ i = 1 from by omega, show ¬ i = 2 from by omega, show ¬ i = 3 from by omega, show ¬ i = 4 from by omega, show ¬ i = 5 from by omega, show ¬ i = 6 from by omega, show ¬ i = 7 from by omega, show ¬ i = 8 from by omega, show ¬ i = 9 from by omega, show ¬ i = 10 from by omega, show ¬ i = 11 from by omega, show ¬ i < 16 from by omega, show ¬ i < 20 from by omega, show ¬ i < 25 from by omega, show ¬ i < 30 from by omega, show ¬ i < 32 from by omega, h34, if_false]
        rw [e1, e2, show sz + (i - 30) = sz + 3 + 1 + (i - 34) from by omega]
        exact (q3 _ (by omega)).1.trans (f4 (i - 34) (by omega))
  · unfold rfR at hq
    simp only [List.mem_cons, List.not_mem_nil, or_false] at hq
    rcases hq with rfl | rfl | rfl | rfl | rfl | rfl | rfl | rfl | rfl | rfl | rfl | rfl | rfl | rfl | rfl | rfl | rfl | rfl | rfl | rfl | rfl | rfl | rfl | rfl | rfl | rfl | rfl | rfl | rfl | rfl | rfl | rfl | rfl
    · exact z0
    · exact z1
    · exact z2
    · exact z3
    · exact z4
    · exact z5
    · exact z6
    · exact (congrFun ((lo_1 (N := N) sz (by omega)).2.2 (by omega)) 1).trans (ref_at _ _ _ _)
    · exact (congrFun ((q3 (sz + 2) (by omega)).2.2 (by omega)) 0).trans g0
    · exact (congrFun ((q3 (sz + 2) (by omega)).2.2 (by omega)) 1).trans g1
    · exact (congrFun ((q3 (sz + 2) (by omega)).2.2 (by omega)) 2).trans g2
    · exact (congrFun ((q3 (sz + 2) (by omega)).2.2 (by omega)) 3).trans g3
    · exact (congrFun ((q3 (sz + 2) (by omega)).2.2 (by omega)) 4).trans g4
    · exact (congrFun ((q3 (sz + 2) (by omega)).2.2 (by omega)) 5).trans g5
    · exact (congrFun ((q4 (sz + 103) (by omega)).2.2 (by omega)) 0).trans h0
    · exact (congrFun ((q4 (sz + 103) (by omega)).2.2 (by omega)) 1).trans h1
    · exact (congrFun ((q4 (sz + 103) (by omega)).2.2 (by omega)) 2).trans h2
    · exact (congrFun ((q4 (sz + 103) (by omega)).2.2 (by omega)) 3).trans h3
    · exact (congrFun ((q4 (sz + 103) (by omega)).2.2 (by omega)) 4).trans h4
    · exact (congrFun ((q5 (sz + 114) (by omega)).2.2 (by omega)) 0).trans i0
    · exact (congrFun ((q5 (sz + 114) (by omega)).2.2 (by omega)) 1).trans i1
    · exact (congrFun ((q6 (sz + 119) (by omega)).2.2 (by omega)) 0).trans (ref_at _ _ _ _)
    · exact (R3 0 (by decide)).2.2.1
    · exact (R3 1 (by decide)).2.2.1
    · exact (R3 2 (by decide)).2.2.1
    · exact (R3 3 (by decide)).2.2.1
    · exact (R4 0 (by decide)).2.2.1
    · exact (R4 1 (by decide)).2.2.1
    · exact (R4 2 (by decide)).2.2.1
    · exact (R4 3 (by decide)).2.2.1
    · exact (R4 4 (by decide)).2.2.1
    · exact (R5 0 (by decide)).2.2.1
    · exact (R5 1 (by decide)).2.2.1
  · unfold lnR at hq
    simp only [List.mem_cons, List.not_mem_nil, or_false] at hq
    rcases hq with rfl | rfl | rfl | rfl | rfl | rfl | rfl | rfl | rfl | rfl | rfl | rfl | rfl
    · exact (q6 (sz + 120) (by omega)).2.1.trans (va_up_self _ _ _)
    · exact (q3 (sz + 3) (by omega)).2.1.trans f2
    · exact (R3 0 (by decide)).2.2.2
    · exact (R3 1 (by decide)).2.2.2
    · exact (R3 2 (by decide)).2.2.2
    · exact (R3 3 (by decide)).2.2.2
    · exact (R4 0 (by decide)).2.2.2
    · exact (R4 1 (by decide)).2.2.2
    · exact (R4 2 (by decide)).2.2.2
    · exact (R4 3 (by decide)).2.2.2
    · exact (R4 4 (by decide)).2.2.2
    · exact (R5 0 (by decide)).2.2.2
    · exact (R5 1 (by decide)).2.2.2
end L1
