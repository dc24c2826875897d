/-! ### the class's map, whole -/
section CRB
variable {F : Nat} {S : CS} {D : CD} {A : Nat → Nat} {sg w : Nat → Nat} {n : Nat} {g : Nat → Sg} {rd root lo ou : Nat → Nat} {c : Nat}
/-- the map that stands in the class's objects -/
def cPic (S : CS) (D : CD) (A sg w : Nat → Nat) (n : Nat) (g : Nat → Sg) (root rd : Nat → Nat) (c : Nat) (lo ou : Nat → Nat) : Prop :=
  cLay S A ∧ cLin S D A sg n g ∧ n ≤ 12 ∧ cVer S D A w (vI g n).1 (vI g n).2 ∧ cE3 D A (EE g n) ∧ (∀ v, v < (vI g n).1 → D.2.2.1 (A 16) v = nI (atC (EE g n) v)) ∧ D.1 (A 0) 7 = nI (cnt (fun v => decide (root v = v)) (vI g n).1) ∧ fS2 D A n g (EE g n) root rd c lo ou (fun _ => true) ∧ FH n g (EE g n) root rd c lo ou
/-- the points' places -/
def cW90 (D : CD) (A w : Nat → Nat) : Prop := (∀ i, i < 90 → w i < 90 ∧ D.2.2.2 (A 10) i = some (A (34 + w i))) ∧ ∀ i j, i < 90 → j < 90 → w i = w j → i = j
theorem k_rebuild (hF : 1000 ≤ F) (hL : cLay S A) (hl : cLin S D A sg n g) (hn : n ≤ 12) (hw : cW90 D A w) (h : FH n g (EE g n) root rd c lo ou) :
    ∃ D2 w2, f_X6_rebuild F S D (A 0) = some D2 ∧ cPic S D2 A sg w2 n g root rd c lo ou := by
  have hg := h.1
  obtain ⟨f1, f2, f3, f4, f5, f6, f7, f8, f9⟩ := EE_facts hg hn
  have ne : ∀ i j, i < 124 → j < 124 → i ≠ j → A i ≠ A j := fun i j => ly_ne hL i j
  obtain ⟨D1, a1, a2, w1, a3⟩ := k_gatherV (F := F) (D := D) hF hL hl hg.1 hn hw.1 hw.2
  have l1 := cLin_G hL hl a2
  obtain ⟨D2, b1, b2, b3⟩ := k_gatherE (F := F) (D := D1) hF hL l1 a3 hg hn
  have l2 := cLin_E hL l1 b2
  have v2 := cVer_E hL a3 b2
  obtain ⟨D3, o, c1, c2, c3, c4⟩ := k_sort (F := F) (D := D2) hF hL l2 hg.1 hn
  have l3 := cLin_R l2 c2
  have v3 := cVer_R v2 c2
  have e3 : cE3 D3 A (EE g n) := by
    refine ⟨by rw [c2.1]; exact b3.1, fun i hi => ?_⟩
    obtain ⟨x1, x2, x3, x4, x5⟩ := b3.2 i hi
    rw [c2.row hL (j := 25) (by omega) (by decide), c2.row hL (j := 26) (by omega) (by decide), c2.row hL (j := 27) (by omega) (by decide)]
    exact ⟨x1, x2, x3⟩
  have fc3 : ∀ s, s < 2 * (EE g n).1 → D3.2.2.1 (A 29) s = -1 := by
    intro s hs
    obtain ⟨x1, x2, x3, x4, x5⟩ := b3.2 (s / 2) (by omega)
    rw [c2.row hL (j := 29) (by omega) (by decide)]
    rcases (show s % 2 = 0 ∨ s % 2 = 1 by omega) with y | y
    · rw [show s = 2 * (s / 2) by omega]; exact x4
    · rw [show s = 2 * (s / 2) + 1 by omega]; exact x5
  have P3 : sPre S D3 A sg n (VV g n) g (EE g n) o := ⟨l3, hn, e3, f2, f1, f7, f8, f5, c3, c4⟩
  obtain ⟨D4, Q, d1, d2, d3, d4, d5⟩ := k_spread (F := F) hF hL P3 v3.1
  have l4 := cLin_R l3 d2
  have v4 := cVer_R v3 d2
  have e4 := cE3_R hL e3 d2 (by decide)
  obtain ⟨D5, p, g1, g2, g3, g4, g5⟩ := k_joinAll (F := F) (D := D4) hF hL v4.1 f1 e4 f2 f4 d5
  have hrr : ∀ v, v < (vI g n).1 → p v = root v := fun v hv => root_unique g3 h.2.2.2.2.1 hv
  have row5 : ∀ j, j < 124 → j ≠ 19 → D5.2.2.1 (A j) = D4.2.2.1 (A j) := fun j hj hne => g2.2.2.2 _ (ne j 19 hj (by omega) hne)
  have fld5 : ∀ j k, j < 124 → j ≠ 0 → D5.1 (A j) k = D4.1 (A j) k := fun j k hj hne => g2.2.2.1 _ _ (Or.inl (ne j 0 hj (by omega) hne))
  have l5 : cLin S D5 A sg n g := by
    obtain ⟨h1, h2, h3, h4, h5⟩ := l4
    refine ⟨by rw [fld5 1 2 (by omega) (by omega)]; exact h1, h2, h3, fun i hi => by rw [g2.2.1]; exact h4 i hi, fun i hi => ?_⟩
    obtain ⟨s1, s2, s3⟩ := h5 i hi
    have e1 : ∀ k, D5.1 (sg i) k = D4.1 (sg i) k := fun k => g2.2.2.1 _ _ (Or.inl (kd_ne hL (by omega) s1.2 (by decide)))
    refine ⟨s1, ?_, by rw [g2.1]; exact s3⟩
    rw [e1, e1, e1, e1]; exact s2
  have v5 : cVer S D5 A w1 (VV g n) (VP g n) := by
    obtain ⟨h1, h2, h3, h4⟩ := v4
    refine ⟨by rw [fld5 4 6 (by omega) (by omega)]; exact h1, fun i hi => by rw [g2.2.1]; exact h2 i hi, h3, fun i hi => ?_⟩
    obtain ⟨p1, p2⟩ := h4 i hi
    exact ⟨p1, by rw [g2.1]; exact p2⟩
  have e5 : cE3 D5 A (EE g n) := by
    refine ⟨by rw [fld5 5 5 (by omega) (by omega)]; exact e4.1, fun i hi => ?_⟩
    rw [row5 25 (by omega) (by omega), row5 26 (by omega) (by omega), row5 27 (by omega) (by omega)]
    exact e4.2 i hi
  have r5 : cRng n (vI g n).1 g (EE g n) D5 A Q := by
    unfold cRng at *
    rw [row5 16 (by omega) (by omega), row5 17 (by omega) (by omega), row5 18 (by omega) (by omega), row5 28 (by omega) (by omega)]
    exact d4
  have G5 : gPre S D5 A sg w1 n g (EE g n) root Q := ⟨hL, l5, hn, v5, f1, e5, f2, r5, d3, fun u hu => by rw [g4 u hu, hrr u hu]⟩
  obtain ⟨D6, k1, k2, k3⟩ := k_gatherF (F := F) hF h G5 (fun s hs => by rw [row5 29 (by omega) (by omega), d2.row hL (j := 29) (by omega) (by decide)]; exact fc3 s hs)
  refine ⟨D6, w1, ?_, hL, cLin_Z hL l5 k2, hn, cVer_Z hL v5 k2, cE3_Z hL e5 k2, fun v hv => ?_, ?_, k3, h⟩
  · unfold f_X6_rebuild
    rw [ly_k hL 0 (by decide) (by decide), a1, cal_some, b1, cal_some, c1, cal_some, d1, cal_some, g1, cal_some, k1, cal_some]
  · rw [k2.row hL 16 (by omega) (by omega) (by omega) (by omega), r5.1 v hv]
    congr 1
    exact cnt_congr (fun s hs => by rw [d3 s hs, Bool.true_and])
  · rw [k2.fld hL 0 7 (by omega) (by omega), g5]
    congr 1
    exact cnt_congr (fun v hv => by rw [hrr v hv])
/-- what stands of the reference's map is all that the class needs -/
theorem FH_of {M : MS} {r : Nat → Option Nat} (hg : gOk n g) (hn : n ≤ 12) (hM : mPic M n g root r c lo ou) : FH n g (EE g n) root (fun s => (r s).getD 0) c lo ou := by
  obtain ⟨f1, f2, f3, f4, f5, f6, f7, f8, f9⟩ := EE_facts hg hn
  obtain ⟨m1, m2, m3, m4, m5, m6, m7, m8, m9, m10, -⟩ := hM
  exact ⟨hg, f3, f8, f9, m5, rdOk_of m9 m10⟩
end CRB
