/-! The checks that throw, in the pictures. -/
section CHK
variable {F : Nat} {S : CS} {D : CD} {A sg w : Nat → Nat} {n : Nat} {g : Nat → Sg} {root rd : Nat → Nat} {c : Nat} {lo ou : Nat → Nat}
theorem t_ckCo {x : Int} (hx : i32 x) (h : ¬ inR x) (a : Nat) : t_X6_checkCoordinate F S D a (zI x) = some (D, "java/lang/IllegalArgumentException") ∧ f_X6_checkCoordinate F S D a (zI x) = none := by
  unfold t_X6_checkCoordinate f_X6_checkCoordinate
  unfold inR at h
  have i100 : i32 100 := ⟨by omega, by omega⟩
  have e2 : zI x ≤ (100 : Int32) ↔ x ≤ 100 := zI_le hx i100
  by_cases h0 : x < 0
  · rw [if_pos ((zI_lt0 hx).mpr h0), if_pos ((zI_lt0 hx).mpr h0)]
    exact ⟨rfl, rfl⟩
  · rw [if_neg (fun k => h0 ((zI_lt0 hx).mp k)), if_neg (fun k => by have := e2.mp k; omega), if_neg (fun k => h0 ((zI_lt0 hx).mp k)), if_neg (fun k => by have := e2.mp k; omega)]
    exact ⟨rfl, rfl⟩
theorem t_cmp {x : Int} {m : Nat} (hx : i32 x) (hm : m < 2000000000) (h : inB x m = false) : zI x < 0 ∨ (¬ zI x < 0 ∧ ¬ zI x < nI m) := by
  have h' : ¬ (0 ≤ x ∧ x < m) := by unfold inB at h; exact of_decide_eq_false h
  by_cases h0 : x < 0
  · exact Or.inl ((zI_lt0 hx).mpr h0)
  · refine Or.inr ⟨fun k => h0 ((zI_lt0 hx).mp k), fun k => ?_⟩
    rw [nI_zI] at k
    have := (zI_lt hx (show i32 (m : Int) from ⟨by omega, by omega⟩)).mp k
    omega
theorem t_ckSeg (P : cPic S D A sg w n g root rd c lo ou) {x : Int} (hx : i32 x) (h : inB x n = false) : t_X6_checkSegment F S D (A 0) (zI x) = some (D, "java/lang/IndexOutOfBoundsException") ∧ f_X6_checkSegment F S D (A 0) (zI x) = none := by
  have k1 := P.2.2.1
  obtain ⟨hL, hl, hn, hV, hE, hd, h7, hs, hH⟩ := P
  unfold t_X6_checkSegment f_X6_checkSegment
  rcases t_cmp hx (by omega) h with h1 | ⟨h1, h2⟩
  · rw [if_pos h1, if_pos h1]; exact ⟨rfl, rfl⟩
  · rw [if_neg h1, if_neg h1, ly_k hL 0 (by decide) (by decide), ly_k hL 0 (by decide) (by decide), ly_r hL 0 0 1 (by decide), ly_r hL 0 0 1 (by decide), ly_k hL 1 (by decide) (by decide), ly_k hL 1 (by decide) (by decide), k_size hL hl, cal_some, cal_some, if_neg h2, if_neg h2]
    exact ⟨rfl, rfl⟩
theorem t_ckVer (P : cPic S D A sg w n g root rd c lo ou) {x : Int} (hx : i32 x) (h : inB x (vI g n).1 = false) : t_X6_checkVertex F S D (A 0) (zI x) = some (D, "java/lang/IndexOutOfBoundsException") ∧ f_X6_checkVertex F S D (A 0) (zI x) = none := by
  have k1 : (vI g n).1 ≤ 90 := (EE_facts P.2.2.2.2.2.2.2.2.1 P.2.2.1).1
  obtain ⟨hL, hl, hn, hV, hE, hd, h7, hs, hH⟩ := P
  unfold t_X6_checkVertex f_X6_checkVertex
  rcases t_cmp hx (by omega) h with h1 | ⟨h1, h2⟩
  · rw [if_pos h1, if_pos h1]; exact ⟨rfl, rfl⟩
  · rw [if_neg h1, if_neg h1, ly_k hL 0 (by decide) (by decide), ly_k hL 0 (by decide) (by decide), ly_r hL 0 2 4 (by decide), ly_r hL 0 2 4 (by decide), ly_k hL 4 (by decide) (by decide), ly_k hL 4 (by decide) (by decide), hV.1, if_neg h2, if_neg h2]
    exact ⟨rfl, rfl⟩
theorem t_ckEdg (P : cPic S D A sg w n g root rd c lo ou) {x : Int} (hx : i32 x) (h : inB x (EE g n).1 = false) : t_X6_checkEdge F S D (A 0) (zI x) = some (D, "java/lang/IndexOutOfBoundsException") ∧ f_X6_checkEdge F S D (A 0) (zI x) = none := by
  have k1 := (EE_facts P.2.2.2.2.2.2.2.2.1 P.2.2.1).2.1
  obtain ⟨hL, hl, hn, hV, hE, hd, h7, hs, hH⟩ := P
  unfold t_X6_checkEdge f_X6_checkEdge
  rcases t_cmp hx (by omega) h with h1 | ⟨h1, h2⟩
  · rw [if_pos h1, if_pos h1]; exact ⟨rfl, rfl⟩
  · rw [if_neg h1, if_neg h1, ly_k hL 0 (by decide) (by decide), ly_k hL 0 (by decide) (by decide), ly_r hL 0 3 5 (by decide), ly_r hL 0 3 5 (by decide), ly_k hL 5 (by decide) (by decide), ly_k hL 5 (by decide) (by decide), hE.1, if_neg h2, if_neg h2]
    exact ⟨rfl, rfl⟩
theorem t_ckFac (P : cPic S D A sg w n g root rd c lo ou) {x : Int} (hx : i32 x) (h : inB x (nFc n g root rd c) = false) : t_X6_checkFace F S D (A 0) (zI x) = some (D, "java/lang/IndexOutOfBoundsException") ∧ f_X6_checkFace F S D (A 0) (zI x) = none := by
  have k1 := nFc_le P
  obtain ⟨hL, hl, hn, hV, hE, hd, h7, hs, hH⟩ := P
  unfold t_X6_checkFace f_X6_checkFace
  rcases t_cmp hx (by omega) h with h1 | ⟨h1, h2⟩
  · rw [if_pos h1, if_pos h1]; exact ⟨rfl, rfl⟩
  · rw [if_neg h1, if_neg h1, ly_k hL 0 (by decide) (by decide), ly_k hL 0 (by decide) (by decide), ly_r hL 0 4 6 (by decide), ly_r hL 0 4 6 (by decide), ly_k hL 6 (by decide) (by decide), ly_k hL 6 (by decide) (by decide), hs.2.1, if_neg h2, if_neg h2]
    exact ⟨rfl, rfl⟩
end CHK
