/-! The checks that throw, in the pictures. -/
section CHK
variable {F : Nat} {S : CS} {D : CD} {A sg w : Nat → Nat} {n : Nat} {g : Nat → Sg} {root rd : Nat → Nat} {c : Nat} {lo ou : Nat → Nat}
theorem t_ckCo {x : Int} (hx : i32 x) (h : ¬ inR x) (a : Nat) : t_X6_checkCoordinate F S D a (zI x) = some (D, "java/lang/IllegalArgumentException") ∧ f_X6_checkCoordinate F S D a (zI x) = none := by
  unfold t_X6_checkCoordinate f_X6_checkCoordinate
  unfold inR at h
  have i100 : i32 100 := ⟨by omega, by omega⟩
  have e2 : zI x ≤ (100 : Int32) ↔ x ≤ 100 := zI_le hx i100
  by_cases h0 : x < 0
  · rw [if_pos ((zI_lt0 hx).mpr h0), if_pos ((zI_lt0 hx).mpr h0)]
    exact ⟨rfl, rfl⟩
  · rw [if_neg (fun k => h0 ((zI_lt0 hx).mp k)), if_neg (fun k => by have := e2.mp k; omega), if_neg (fun k => h0 ((zI_lt0 hx).mp k)), if_neg (fun k => by have := e2.mp k; omega)]
    exact ⟨rfl, rfl⟩
end CHK
