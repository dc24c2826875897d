/-! Calls that throw, in the pictures. -/
section TPB
variable {F : Nat} {S : CS} {D : CD} {A sg w : Nat → Nat} {n : Nat} {g : Nat → Sg} {root rd : Nat → Nat} {c : Nat} {lo ou : Nat → Nat}
theorem tp_xNumerator (P : cPic S D A sg w n g root rd c lo ou) {x : Int} (hx : i32 x) (h : inB x (vI g n).1 = false) : t_X6_xNumerator F S D (A 0) (zI x) = some (D, "java/lang/IndexOutOfBoundsException") := by
  obtain ⟨h1, h2⟩ := t_ckVer (F := F) P hx h
  unfold t_X6_xNumerator
  rw [ly_k P.1 0 (by decide) (by decide), h1, h2]
  rfl
theorem tp_xDenominator (P : cPic S D A sg w n g root rd c lo ou) {x : Int} (hx : i32 x) (h : inB x (vI g n).1 = false) : t_X6_xDenominator F S D (A 0) (zI x) = some (D, "java/lang/IndexOutOfBoundsException") := by
  obtain ⟨h1, h2⟩ := t_ckVer (F := F) P hx h
  unfold t_X6_xDenominator
  rw [ly_k P.1 0 (by decide) (by decide), h1, h2]
  rfl
theorem tp_yNumerator (P : cPic S D A sg w n g root rd c lo ou) {x : Int} (hx : i32 x) (h : inB x (vI g n).1 = false) : t_X6_yNumerator F S D (A 0) (zI x) = some (D, "java/lang/IndexOutOfBoundsException") := by
  obtain ⟨h1, h2⟩ := t_ckVer (F := F) P hx h
  unfold t_X6_yNumerator
  rw [ly_k P.1 0 (by decide) (by decide), h1, h2]
  rfl
theorem tp_yDenominator (P : cPic S D A sg w n g root rd c lo ou) {x : Int} (hx : i32 x) (h : inB x (vI g n).1 = false) : t_X6_yDenominator F S D (A 0) (zI x) = some (D, "java/lang/IndexOutOfBoundsException") := by
  obtain ⟨h1, h2⟩ := t_ckVer (F := F) P hx h
  unfold t_X6_yDenominator
  rw [ly_k P.1 0 (by decide) (by decide), h1, h2]
  rfl
theorem tp_degree (P : cPic S D A sg w n g root rd c lo ou) {x : Int} (hx : i32 x) (h : inB x (vI g n).1 = false) : t_X6_degree F S D (A 0) (zI x) = some (D, "java/lang/IndexOutOfBoundsException") := by
  obtain ⟨h1, h2⟩ := t_ckVer (F := F) P hx h
  unfold t_X6_degree
  rw [ly_k P.1 0 (by decide) (by decide), h1, h2]
  rfl
theorem tp_segmentOf (P : cPic S D A sg w n g root rd c lo ou) {x : Int} (hx : i32 x) (h : inB x (EE g n).1 = false) : t_X6_segmentOf F S D (A 0) (zI x) = some (D, "java/lang/IndexOutOfBoundsException") := by
  obtain ⟨h1, h2⟩ := t_ckEdg (F := F) P hx h
  unfold t_X6_segmentOf
  rw [ly_k P.1 0 (by decide) (by decide), h1, h2]
  rfl
theorem tp_from (P : cPic S D A sg w n g root rd c lo ou) {x : Int} (hx : i32 x) (h : inB x (EE g n).1 = false) : t_X6_from F S D (A 0) (zI x) = some (D, "java/lang/IndexOutOfBoundsException") := by
  obtain ⟨h1, h2⟩ := t_ckEdg (F := F) P hx h
  unfold t_X6_from
  rw [ly_k P.1 0 (by decide) (by decide), h1, h2]
  rfl
theorem tp_to (P : cPic S D A sg w n g root rd c lo ou) {x : Int} (hx : i32 x) (h : inB x (EE g n).1 = false) : t_X6_to F S D (A 0) (zI x) = some (D, "java/lang/IndexOutOfBoundsException") := by
  obtain ⟨h1, h2⟩ := t_ckEdg (F := F) P hx h
  unfold t_X6_to
  rw [ly_k P.1 0 (by decide) (by decide), h1, h2]
  rfl
theorem tp_leftOf (P : cPic S D A sg w n g root rd c lo ou) {x : Int} (hx : i32 x) (h : inB x (EE g n).1 = false) : t_X6_leftOf F S D (A 0) (zI x) = some (D, "java/lang/IndexOutOfBoundsException") := by
  obtain ⟨h1, h2⟩ := t_ckEdg (F := F) P hx h
  unfold t_X6_leftOf
  rw [ly_k P.1 0 (by decide) (by decide), h1, h2]
  rfl
theorem tp_rightOf (P : cPic S D A sg w n g root rd c lo ou) {x : Int} (hx : i32 x) (h : inB x (EE g n).1 = false) : t_X6_rightOf F S D (A 0) (zI x) = some (D, "java/lang/IndexOutOfBoundsException") := by
  obtain ⟨h1, h2⟩ := t_ckEdg (F := F) P hx h
  unfold t_X6_rightOf
  rw [ly_k P.1 0 (by decide) (by decide), h1, h2]
  rfl
theorem tp_sides (P : cPic S D A sg w n g root rd c lo ou) {x : Int} (hx : i32 x) (h : inB x (nFc n g root rd c) = false) : t_X6_sides F S D (A 0) (zI x) = some (D, "java/lang/IndexOutOfBoundsException") := by
  obtain ⟨h1, h2⟩ := t_ckFac (F := F) P hx h
  unfold t_X6_sides
  rw [ly_k P.1 0 (by decide) (by decide), h1, h2]
  rfl
theorem tp_firstVertex (P : cPic S D A sg w n g root rd c lo ou) {x : Int} (hx : i32 x) (h : inB x (nFc n g root rd c) = false) : t_X6_firstVertex F S D (A 0) (zI x) = some (D, "java/lang/IndexOutOfBoundsException") := by
  obtain ⟨h1, h2⟩ := t_ckFac (F := F) P hx h
  unfold t_X6_firstVertex
  rw [ly_k P.1 0 (by decide) (by decide), h1, h2]
  rfl
theorem tp_remove (P : cPic S D A sg w n g root rd c lo ou) {x : Int} (hx : i32 x) (h : inB x n = false) : t_X6_remove F S D (A 0) (zI x) = some (D, "java/lang/IndexOutOfBoundsException") := by
  obtain ⟨h1, h2⟩ := t_ckSeg (F := F) P hx h
  unfold t_X6_remove
  rw [ly_k P.1 0 (by decide) (by decide), h1, h2]
  rfl
theorem tp_crossing (P : cPic S D A sg w n g root rd c lo ou) {x : Int} (hx : i32 x) (h : ¬ inR x) : t_X6_crossing F S D (A 0) (zI x) = some (D, "java/lang/IllegalArgumentException") := by
  obtain ⟨h1, h2⟩ := t_ckCo (F := F) (S := S) (D := D) hx h (A 0)
  unfold t_X6_crossing
  rw [ly_k P.1 0 (by decide) (by decide), h1, h2]
  rfl
theorem tp_faceAt (P : cPic S D A sg w n g root rd c lo ou) {x y : Int} (hx : i32 x) (hy : i32 y) (h : ¬ (inR x ∧ inR y)) : t_X6_faceAt F S D (A 0) (zI x) (zI y) = some (D, "java/lang/IllegalArgumentException") := by
  unfold t_X6_faceAt
  rw [ly_k P.1 0 (by decide) (by decide)]
  by_cases h0 : inR x
  · obtain ⟨h1, h2⟩ := t_ckCo (F := F) (S := S) (D := D) hy (fun k => h ⟨h0, k⟩) (A 0)
    rw [k_ckCo h0, h1, h2]
    rfl
  · obtain ⟨h1, h2⟩ := t_ckCo (F := F) (S := S) (D := D) hx h0 (A 0)
    rw [h1, h2]
    rfl
theorem tp_meet (P : cPic S D A sg w n g root rd c lo ou) {x y : Int} (hx : i32 x) (hy : i32 y) (h : inB x n = false ∨ (∃ i : Nat, i < n ∧ x = i) ∧ inB y n = false) : t_X6_meet F S D (A 0) (zI x) (zI y) = some (D, "java/lang/IndexOutOfBoundsException") := by
  unfold t_X6_meet
  rw [ly_k P.1 0 (by decide) (by decide)]
  rcases h with h | ⟨⟨i, hi, rfl⟩, h⟩
  · obtain ⟨h1, h2⟩ := t_ckSeg (F := F) P hx h
    rw [h1, h2]
    rfl
  · obtain ⟨h1, h2⟩ := t_ckSeg (F := F) P hy h
    rw [← nI_zI, k_ckSeg P hi, h1, h2]
    rfl
end TPB
