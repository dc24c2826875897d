/-! SegmentMap.add from one picture to the next. -/
theorem adP_el {x y x2 y2 : Int} (h : adP x y x2 y2 = true) : (inR x ∧ inR y ∧ inR x2 ∧ inR y2) ∧ ¬ (x = x2 ∧ y = y2) := by
  unfold adP inP at h
  simp only [Bool.and_eq_true, decide_eq_true_eq, Bool.not_eq_true', Bool.and_eq_false_iff, decide_eq_false_iff_not] at h
  obtain ⟨⟨⟨⟨h1, h2⟩, h3⟩, h4⟩, h5⟩ := h
  exact ⟨⟨h1, h2, h3, h4⟩, fun w => h5.elim (fun k => k w.1) (fun k => k w.2)⟩
theorem rLs_of {S : CS} {D : CD} {A sg : Nat → Nat} {n : Nat} {g : Nat → Sg} {z : Nat × Nat} (hL : cLay S A) (hl : cLin S D A sg n g) (hz : cRowZ S A z n) : rLs S D z (A 1) (A 2) n := by
  refine ⟨hL.2.2.1 (1, 1, 2) (by decide), hl.1, ?_⟩
  rcases hz with ⟨h1, h2⟩ | ⟨h1, h2, h3⟩
  · exact Or.inl ⟨h1, h2⟩
  · refine Or.inr ⟨h1, h2, h3, hl.2.1.1, fun i hi y hy => ?_⟩
    rw [hl.2.2.2.1 i hi] at hy
    cases hy
    exact (hl.2.2.2.2 i hi).1
theorem i_add (l : Launch) (G : cG) (F : Nat) (hF : 1000 ≤ F) (S : CS) (z : Nat × Nat) (D : CD) (a0 n : Nat) {g : Nat → Sg} {root rd : Nat → Nat} {c : Nat} {lo ou : Nat → Nat} (hA : cAll S D z a0 n g root rd c lo ou) {x y x2 y2 : Int} (hn : n < 12) (hp : adP x y x2 y2 = true) (hc : adC n g (nrm x y x2 y2) = true) {root' rd' : Nat → Nat} {c' : Nat} {lo' ou' : Nat → Nat} (hFH : FH (n + 1) (adG n g (nrm x y x2 y2)) (EE (adG n g (nrm x y x2 y2)) (n + 1)) root' rd' c' lo' ou') :
    cMKi l yX6_add wX6_add ({ frames := 9, cells := 2, slots := 21, locals := 300 }) G S z [.ref a0, .int (zI x), .int (zI y), .int (zI x2), .int (zI y2)] D 2 21 (nI n) (fun _ S2 D2 => cAll S2 D2 z a0 (n + 1) (adG n g (nrm x y x2 y2)) root' rd' c' lo' ou') := by
  obtain ⟨A, sg, w, rfl, hz, hL, hl, hn12, hV, hrest⟩ := hA
  have hFH0 := hrest.2.2.2.2
  obtain ⟨⟨p1, p2, p3, p4⟩, p5⟩ := adP_el hp
  have hg0 : gOk n g := hFH0.1
  have hs := nrm_ok p1 p2 p3 p4 p5
  have i1 := inR_32 p1; have i2 := inR_32 p2; have i3 := inR_32 p3; have i4 := inR_32 p4
  obtain ⟨m0, k0⟩ := hL.1 0 (by decide) (by decide)
  obtain ⟨m1, k1⟩ := hL.1 1 (by decide) (by decide)
  have hw : cW90 D A w := ⟨hV.2.1, hV.2.2.1⟩
  have a2q : ∀ q, q ∉ S.1 → q ≠ z.1 → A 2 ≠ q := fun q h1 h2 e => by
    rcases hz with ⟨h3, -⟩ | ⟨h3, -⟩
    · exact h2 (e.symm.trans h3)
    · exact h1 (e ▸ h3)
  refine i_X6_add l G F S z D (A 0) (A 1) (A 2) n (zI x) (zI y) (zI x2) (zI y2) m0 k0 (hL.2.2.1 (0, 0, 1) (by decide)) m1 k1 hn (rLs_of hL hl hz) (k_ckCo p1 _) (k_ckCo p2 _) (k_ckCo p3 _) (k_ckCo p4 _) (fun e => p5 ⟨(zI_eq i1 i3).mp e.1, (zI_eq i2 i4).mp e.2⟩) (fun S2 D2 => cAll S2 D2 z (A 0) (n + 1) (adG n g (nrm x y x2 y2)) root' rd' c' lo' ou') (fun q hq hqz => ?_) (fun q b S2 D2 hq hqz hb hr => ?_)
  · have h := k_overAny (F := F) hF (cLay_add (kd := 4) (len := 0) hL hq) (cLin_add (zI x) (zI y) (zI x2) (zI y2) hL hl hq (a2q q hq hqz)) (by omega) hg0.1 hs (seg_new p1 p2 p3 p4)
    rw [h]
    have e : anyN (fun i => decide (com (g i) (nrm x y x2 y2) = 2)) n = false := by
      cases hh : anyN (fun i => decide (com (g i) (nrm x y x2 y2) = 2)) n with
      | false => rfl
      | true =>
        obtain ⟨i, hi, hd⟩ := anyN_iff.mp hh
        have h2 : com (nrm x y x2 y2) (g i) = 2 := (com2_comm (hg0.1 i hi) hs).mp (of_decide_eq_true hd)
        unfold adC at hc
        rw [Bool.not_eq_true'] at hc
        have := anyN_iff (P := fun i => decide (com (nrm x y x2 y2) (g i) = 2)) (k := n) |>.mpr ⟨i, hi, decide_eq_true h2⟩
        rw [hc] at this
        cases this
    rw [e]
    rfl
  · have hL1 := cLay_add (kd := 4) (len := 0) hL hq
    have hl1 := cLin_add (zI x) (zI y) (zI x2) (zI y2) hL hl hq (a2q q hq hqz)
    have n10 : A 10 ≠ q := fun e => hq (e ▸ (hL.1 10 (by decide) (by decide)).1)
    have hw1 : cW90 (dSg (dNew D q) q (zI x) (zI y) (zI x2) (zI y2)) A w := ⟨fun i hi => ⟨(hw.1 i hi).1, by rw [(dSn_x D q (A 10) _ _ _ _ n10).2.2.2]; exact (hw.1 i hi).2⟩, hw.2⟩
    obtain ⟨A2, sg2, e0, e1, hz2, hL2, hl2, hw2⟩ := add_pic z hL1 hl1 hw1 (seg_new p1 p2 p3 p4) hb hr
    obtain ⟨D3, w3, f1, f2⟩ := k_rebuild (F := F) hF hL2 hl2 (by omega) hw2 hFH
    refine ⟨D3, by rw [← e0]; exact f1, ?_, A2, sg2, w3, e0, hz2, f2⟩
    rw [← e1]
    exact f2.2.1.1
