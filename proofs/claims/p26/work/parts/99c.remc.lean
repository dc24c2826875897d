/-! SegmentMap.remove from one picture to the next. -/
theorem i_remove (l : Launch) (G : cG) (F : Nat) (hF : 1000 ≤ F) (S : CS) (z : Nat × Nat) (D : CD) (a0 n x : Nat) {g : Nat → Sg} {root rd : Nat → Nat} {c : Nat} {lo ou : Nat → Nat} (hA : cAll S D z a0 n g root rd c lo ou) (hx : x < n) {root' rd' : Nat → Nat} {c' : Nat} {lo' ou' : Nat → Nat} (hFH : FH (n - 1) (rmG x g) (EE (rmG x g) (n - 1)) root' rd' c' lo' ou') :
    cMKi l yX6_remove wX6_remove ({ frames := 8, cells := 0, slots := 0, locals := 200 }) G S z [.ref a0, .int (nI x)] D 0 0 (nI (n - 1)) (fun _ S2 D2 => cAll S2 D2 z a0 (n - 1) (rmG x g) root' rd' c' lo' ou') := by
  obtain ⟨A, sg, w, rfl, hz, P⟩ := hA
  have P0 := P
  obtain ⟨hL, hl, hn12, hV, hrest⟩ := P
  obtain ⟨m0, k0⟩ := hL.1 0 (by decide) (by decide)
  obtain ⟨m1, k1⟩ := hL.1 1 (by decide) (by decide)
  have hw : cW90 D A w := ⟨hV.2.1, hV.2.2.1⟩
  rcases hz with ⟨-, h0⟩ | ⟨h1, h2, h3⟩
  · exact absurd hx (by omega)
  refine i_X6_remove l G F S z D (A 0) (A 1) (A 2) n x m0 k0 (hL.2.2.1 (0, 0, 1) (by decide)) m1 k1 hn12 hx (hL.2.2.1 (1, 1, 2) (by decide)) hl.1 h1 h2 (by omega) hl.2.1.1 (fun i hi y hy => ?_) (hl.2.2.2.1 x hx) (k_ckSeg P0 hx) (fun S2 D2 => cAll S2 D2 z (A 0) (n - 1) (rmG x g) root' rd' c' lo' ou') (fun D2 hr => ?_)
  · rw [hl.2.2.2.1 i hi] at hy
    cases hy
    exact (hl.2.2.2.2 i hi).1
  · obtain ⟨-, hD, hs, hb1, hb2⟩ := hr
    have ne12 : A 1 ≠ A 2 := fun e => by rw [← e, k1] at h2; exact absurd h2 (by decide)
    have key : ∀ (a : Nat) (u : Sg), cSeg S D a u → cSeg S D2 a u := by
      intro a u hu
      have q1 : a ≠ A 2 := fun e => by have := hu.1.2; rw [e, h2] at this; exact absurd this (by decide)
      have q2 : a ≠ A 1 := fun e => by have := hu.1.2; rw [e, k1] at this; exact absurd this (by decide)
      obtain ⟨g1, g2, -, -⟩ := hD a q1 q2
      exact cSeg_keep hu hu.1.1 rfl g1 g2
    have hl2 : cLin S D2 A (fun i => if i < x then sg i else sg (i + 1)) (n - 1) (rmG x g) := by
      refine ⟨hs, ⟨by have := hl.2.1.1; omega, fun _ => ⟨h1, h2⟩⟩, hl.2.2.1, fun i hi => ?_, fun i hi => ?_⟩
      · show D2.2.2.2 (A 2) i = some (if i < x then sg i else sg (i + 1))
        by_cases e : i < x
        · rw [if_pos e, hb1 i e]; exact hl.2.2.2.1 i (by omega)
        · rw [if_neg e, hb2 i (by omega) hi]; exact hl.2.2.2.1 (i + 1) (by omega)
      · show cSeg S D2 (if i < x then sg i else sg (i + 1)) (rmG x g i)
        unfold rmG
        by_cases e : i < x
        · rw [if_pos e, if_pos e]; exact key _ _ (hl.2.2.2.2 i (by omega))
        · rw [if_neg e, if_neg e]; exact key _ _ (hl.2.2.2.2 (i + 1) (by omega))
    have hw2 : cW90 D2 A w := ⟨fun i hi => ⟨(hw.1 i hi).1, by
      have q1 : A 10 ≠ A 2 := fun e => by
        have := (hL.1 10 (by decide) (by decide)).2
        rw [e, h2] at this
        exact absurd this (by decide)
      rw [(hD (A 10) q1 (ly_ne hL 10 1 (by decide) (by decide) (by decide))).2.2.2]
      exact (hw.1 i hi).2⟩, hw.2⟩
    obtain ⟨D3, w3, f1, f2⟩ := k_rebuild (F := F) hF hL hl2 (by omega) hw2 hFH
    exact ⟨D3, f1, f2.2.1.1, A, _, w3, rfl, Or.inr ⟨h1, h2, h3⟩, f2⟩
