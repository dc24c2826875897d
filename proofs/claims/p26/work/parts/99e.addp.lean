/-! add that overlaps throws. -/
theorem i_addO (l : Launch) (hfl : l.stackTraces = false) (G : cG) (F : Nat) (hF : 1000 ≤ F) (S : CS) (z : Nat × Nat) (D : CD) (a0 n : Nat) {g : Nat → Sg} {root rd : Nat → Nat} {c : Nat} {lo ou : Nat → Nat} (hA : cAll S D z a0 n g root rd c lo ou) {x y x2 y2 : Int} (hn : n < 12) (hp : adP x y x2 y2 = true) (hc : adC n g (nrm x y x2 y2) = false) :
    ∀ sz : Nat, vx_Met l yX6_add wX6_add ({ frames := 9, cells := 2, slots := 12, locals := 300 }) (cPx G sz S D [.ref a0, .int (zI x), .int (zI y), .int (zI x2), .int (zI y2)]) xQI (xX G S D "java/lang/IllegalStateException" sz) 2 12 (cA G S sz) := by
  obtain ⟨A, sg, w, rfl, hz, hL, hl, hn12, hV, hrest⟩ := hA
  have hg0 : gOk n g := hrest.2.2.2.2.1
  obtain ⟨⟨p1, p2, p3, p4⟩, p5⟩ := adP_el hp
  have hs := nrm_ok p1 p2 p3 p4 p5
  have i1 := inR_32 p1; have i2 := inR_32 p2; have i3 := inR_32 p3; have i4 := inR_32 p4
  obtain ⟨m0, k0⟩ := hL.1 0 (by decide) (by decide)
  obtain ⟨m1, k1⟩ := hL.1 1 (by decide) (by decide)
  have hany : anyN (fun i => decide (com (g i) (nrm x y x2 y2) = 2)) n = true := by
    unfold adC at hc
    rw [Bool.not_eq_false'] at hc
    obtain ⟨i, hi, hd⟩ := anyN_iff.mp hc
    exact anyN_iff.mpr ⟨i, hi, decide_eq_true ((com2_comm hs (hg0.1 i hi)).mp (of_decide_eq_true hd))⟩
  have hn0 : n ≠ 0 := fun e => by
    obtain ⟨i, hi, -⟩ := anyN_iff.mp hany
    omega
  refine i_X6_addO l hfl G F S D (A 0) (A 1) n (zI x) (zI y) (zI x2) (zI y2) m0 k0 (hL.2.2.1 (0, 0, 1) (by decide)) m1 k1 hn hl.1 (k_ckCo p1 _) (k_ckCo p2 _) (k_ckCo p3 _) (k_ckCo p4 _) (fun e => p5 ⟨(zI_eq i1 i3).mp e.1, (zI_eq i2 i4).mp e.2⟩) (fun q hq => ?_)
  have a2q : A 2 ≠ q := fun e => by
    rcases hz with ⟨-, h3⟩ | ⟨h3, -⟩
    · exact hn0 h3
    · exact hq (e ▸ h3)
  have h := k_overAny (F := F) hF (cLay_add (kd := 4) (len := 0) hL hq) (cLin_add (zI x) (zI y) (zI x2) (zI y2) hL hl hq a2q) (by omega) hg0.1 hs (seg_new p1 p2 p3 p4)
  rw [h, hany]
  rfl
