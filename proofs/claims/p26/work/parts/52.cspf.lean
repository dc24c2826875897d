/-! ### the class's sides around the vertices, all of them -/
theorem cFrR.wk {A : Nat → Nat} {R R2 : List Nat} {D D2 : CD} (h : cFrR A R D D2) (hs : ∀ r, r ∈ R → r ∈ R2) : cFrR A R2 D D2 := ⟨h.1, h.2.1, h.2.2.1, fun b hb => h.2.2.2 b (fun r hr => hb r (hs r hr))⟩
section CSF
variable {F : Nat} {S : CS} {D : CD} {A : Nat → Nat} {sg : Nat → Nat} {n nV : Nat} {g : Nat → Sg} {q : ES} {o : Nat → Nat}
theorem sPre_R (hL : cLay S A) {D2 : CD} {R : List Nat} (h : sPre S D A sg n nV g q o) (hf : cFrR A R D D2) (hR : ∀ r, r ∈ R → r < 124 ∧ r ≠ 8 ∧ r ≠ 25 ∧ r ≠ 26 ∧ r ≠ 27) : sPre S D2 A sg n nV g q o := by
  obtain ⟨h1, h2, h3, h4, h5, h6, h7, h8, h9, h10⟩ := h
  refine ⟨cLin_R h1 hf, h2, cE3_R hL h3 hf (fun r hr => ⟨(hR r hr).1, (hR r hr).2.2⟩), h4, h5, h6, h7, h8, h9, fun k hk => ?_⟩
  rw [hf.row hL (j := 8) (by omega) (fun r hr => ⟨(hR r hr).1, (hR r hr).2.1⟩)]
  exact h10 k hk
theorem k_spread (hF : 1000 ≤ F) (hL : cLay S A) (P : sPre S D A sg n nV g q o) (h6 : D.1 (A 4) 6 = nI nV) :
    ∃ D2 Q, f_X6_spreadEdges F S D (A 0) = some D2 ∧ cFrR A [16, 17, 18, 19, 28] D D2 ∧ (∀ s, s < 2 * q.1 → Q s = true) ∧ cRng n nV g q D2 A Q ∧ ∀ v, v < nV → D2.2.2.1 (A 19) v = nI v := by
  obtain ⟨Dr, a1, a2, a3⟩ := k_reset (F := F) (D := D) hF hL h6 P.2.2.2.2.1
  have Pr := sPre_R hL P a2 (by decide)
  have r0 : cRng n nV g q Dr A (pSo q o 0 (fun _ => false) 0) := by
    refine ⟨fun v hv => ?_, fun v hv hx => ?_, fun s hs h => (by cases h)⟩
    case refine_2 =>
      obtain ⟨s, _, h, _⟩ := hx
      cases h
    rw [(a3 v hv).1]
    have : cnt (fun s => pSo q o 0 (fun _ => false) 0 s && decide (bg q s = v)) (2 * q.1) = 0 := cnt_0.mpr (fun i _ => rfl)
    rw [this]; rfl
  obtain ⟨D2, b1, b2, b3⟩ := k_se9 (F := F) hF hL Pr n F 0 Dr (by have := P.2.1; omega) (by have := P.2.1; omega) cFrR.rf r0
  refine ⟨D2, _, ?_, (a2.wk (by decide)).trans (b2.wk (by decide)), fun s hs => ?_, b3, fun v hv => ?_⟩
  · unfold f_X6_spreadEdges
    rw [ly_k hL 0 (by decide) (by decide), ly_r hL 0 2 4 (by decide), ly_k hL 4 (by decide) (by decide), a1, cal_some]
    exact b1
  · obtain ⟨o1, o2, -⟩ := P.2.2.2.2.2.2.2.2.1
    obtain ⟨k, k1, k2⟩ := inj_surj o1 o2 (P.2.2.2.2.2.2.2.1 (s / 2) (by omega))
    refine (pSo_iff n).mpr ?_
    by_cases z : s % 2 = 1
    · exact Or.inr ⟨z, by omega, k, k1, k2.symm⟩
    · exact Or.inl ((pSo_iff n).mpr (Or.inr ⟨by omega, by omega, k, k1, k2.symm⟩))
  · rw [b2.row hL (j := 19) (by omega) (by decide)]
    exact (a3 v hv).2.2.2
end CSF
