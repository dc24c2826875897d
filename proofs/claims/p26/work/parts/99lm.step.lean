/-! The law's state as pictures over both pools; what stands behind one turn. -/
section STP
variable {F : Nat} {S T S' : CS} {D D2 D' : CD} {A sg w : Nat → Nat} {n : Nat} {g : Nat → Sg} {root rd : Nat → Nat} {c : Nat} {lo ou : Nat → Nat} {gA mA o : Nat} {z : Nat × Nat}
theorem cPic_ext (hz : cRowZ S A z n) (P : cPic S D A sg w n g root rd c lo ou) (e1 : ∀ a ∈ S.1, a ∈ S'.1 ∧ S'.2.1 a = S.2.1 a) (er : S'.2.2.1 = S.2.2.1) (el : ∀ a, a ∈ S.1 ∨ a = z.1 → S'.2.2.2 a = S.2.2.2 a) (d1 : D'.1 = D.1) (d2 : D'.2.1 = D.2.1) (d4 : D'.2.2.2 = D.2.2.2) (d3 : ∀ a ∈ S.1, D'.2.2.1 a = D.2.2.1 a) : cPic S' D' A sg w n g root rd c lo ou := by
  obtain ⟨hL, hl, hn, hV, hE, hd, h7, hs, hF⟩ := P
  have r1 : ∀ t, t ∈ lnR → t.1 < 124 ∧ t.1 ≠ 2 := by decide
  have m : ∀ i, i < 124 → i ≠ 2 → A i ∈ S.1 := fun i hi h2 => (hL.1 i hi h2).1
  have hL' : cLay S' A := ⟨fun i hi h2 => ⟨(e1 _ (m i hi h2)).1, (e1 _ (m i hi h2)).2.trans (hL.1 i hi h2).2⟩, hL.2.1, fun t ht => by rw [er]; exact hL.2.2.1 t ht, fun t ht => (el _ (Or.inl (m _ (r1 t ht).1 (r1 t ht).2))).trans (hL.2.2.2 t ht)⟩
  have l2 : S'.2.2.2 (A 2) = S.2.2.2 (A 2) := by
    rcases hz with ⟨h3, -⟩ | ⟨h3, -⟩
    · exact el _ (Or.inr h3)
    · exact el _ (Or.inl h3)
  have row : ∀ i, i < 124 → i ≠ 2 → D'.2.2.1 (A i) = D.2.2.1 (A i) := fun i hi h2 => d3 _ (m i hi h2)
  refine ⟨hL', ?_, hn, ?_, ?_, ?_, by rw [d1]; exact h7, ?_, hF⟩
  · obtain ⟨b1, ⟨b2, b3⟩, b4, b5, b6⟩ := hl
    refine ⟨by rw [d1]; exact b1, ⟨by rw [l2]; exact b2, fun hp => ⟨(e1 _ (b3 hp).1).1, (e1 _ (b3 hp).1).2.trans (b3 hp).2⟩⟩, by rw [l2]; exact b4, fun i hi => by rw [d4]; exact b5 i hi, fun i hi => ?_⟩
    obtain ⟨c1, c2, c3, c4⟩ := b6 i hi
    exact ⟨⟨(e1 _ c1.1).1, (e1 _ c1.1).2.trans c1.2⟩, by rw [d1]; exact c2, by rw [d2]; exact c3, by rw [d2]; exact c4⟩
  · obtain ⟨b1, b2, b3, b4⟩ := hV
    refine ⟨by rw [d1]; exact b1, fun i hi => by rw [d4]; exact b2 i hi, b3, fun i hi => ?_⟩
    obtain ⟨c1, c2⟩ := b4 i hi
    exact ⟨⟨(e1 _ c1.1).1, (e1 _ c1.1).2.trans c1.2⟩, by rw [d2]; exact c2⟩
  · exact ⟨by rw [d1]; exact hE.1, fun i hi => by rw [row 25 (by decide) (by decide), row 26 (by decide) (by decide), row 27 (by decide) (by decide)]; exact hE.2 i hi⟩
  · intro v hv; rw [row 16 (by decide) (by decide)]; exact hd v hv
  · obtain ⟨s1, s2, s3, s4, s5, s6⟩ := hs
    exact ⟨fun s hs' => by rw [row 29 (by decide) (by decide)]; exact s1 s hs', by rw [d1]; exact s2, by rw [row 32 (by decide) (by decide)]; exact s3, fun u hu ha hf => by rw [row 32 (by decide) (by decide)]; exact s4 u hu ha hf, fun x hx => by rw [row 33 (by decide) (by decide)]; exact s5 x hx, s6⟩
theorem cPic_bk (P : cPic S D A sg w n g root rd c lo ou) (P2 : cPic T D2 A sg w n g root rd c lo ou) : cPic S D2 A sg w n g root rd c lo ou := by
  obtain ⟨hL, hl, hn, hV, hE, hd, h7, hs, hF⟩ := P
  obtain ⟨-, ql, -, qV, qE, qd, q7, qs, -⟩ := P2
  refine ⟨hL, ?_, hn, ?_, qE, qd, q7, qs, hF⟩
  · obtain ⟨b1, b2, b4, b5, b6⟩ := hl
    obtain ⟨a1, a2, a4, a5, a6⟩ := ql
    exact ⟨a1, b2, b4, a5, fun i hi => ⟨(b6 i hi).1, (a6 i hi).2⟩⟩
  · obtain ⟨b1, b2, b3, b4⟩ := hV
    obtain ⟨a1, a2, a3, a4⟩ := qV
    exact ⟨a1, a2, b3, fun i hi => ⟨(b4 i hi).1, (a4 i hi).2⟩⟩
theorem cPic_gm (hz : cRowZ S A z n) (P : cPic S D A sg w n g root rd c lo ou) (ha : apGM S z gA mA) : cPic (sGM S gA mA) D A sg w n g root rd c lo ou := by
  obtain ⟨a1, a2, a3, a4, a5⟩ := ha
  have ng : ∀ a ∈ S.1, a ≠ gA ∧ a ≠ mA := fun a h => ⟨fun w => a1 (w ▸ h), fun w => a2 (w ▸ h)⟩
  refine cPic_ext hz P (fun a ha => ⟨List.mem_cons_of_mem _ (List.mem_cons_of_mem _ ha), ?_⟩) rfl (fun a ha => ?_) rfl rfl rfl (fun _ _ => rfl)
  · show (if a = gA ∨ a = mA then 8 else S.2.1 a) = _
    rw [if_neg (fun w => w.elim (ng a ha).1 (ng a ha).2)]
  · show (if a = gA then 52 else if a = mA then 1 else S.2.2.2 a) = _
    have : a ≠ gA ∧ a ≠ mA := by
      rcases ha with ha | ha
      · exact ng a ha
      · rw [ha]; exact ⟨fun w => a4 w.symm, fun w => a5 w.symm⟩
    rw [if_neg this.1, if_neg this.2]
theorem gm_g : gOn (sGM S gA mA) gA := ⟨⟨List.mem_cons_self, if_pos (Or.inl rfl)⟩, if_pos rfl⟩
theorem gm_m (h : gA ≠ mA) : mOn (sGM S gA mA) mA := ⟨⟨List.mem_cons_of_mem _ List.mem_cons_self, if_pos (Or.inr rfl)⟩, (if_neg (fun w => h w.symm)).trans (if_pos rfl)⟩
theorem lSt_nx (hz : cRowZ S A z n) (h0 : A 0 = o) (ha : apGM S z gA mA) (P : cPic S D A sg w n g root rd c lo ou) (P2 : cPic (sGM S gA mA) D2 A sg w n g root rd c lo ou) (hr : ∀ i, i < n → rowG D2 gA i (g i)) (hn0 : D2.2.2.1 mA 0 = nI n) : lSt S D2 z o gA mA n g :=
  ⟨P.2.2.2.2.2.2.2.2.1, P.2.2.1, ⟨root, rd, c, lo, ou, A, sg, w, h0, hz, cPic_bk P P2⟩, ha, hr, hn0⟩
theorem e_Lb476 (P : cPic S D A sg w n g root rd c lo ou) (hF : 1000 ≤ F) (hg : gOn S gA) (hm : mOn S mA) (hr : ∀ i, i < n → rowG D gA i (g i)) (hn0 : D.2.2.1 mA 0 = nI n) (x0 : Nat) (x5 : Int32) {y : Nat} (hy : y < 2147483648) : f_L_law_B_b476 F S x0 (A 0) gA mA D 1 x5 (nI y) = some (D, 0, [1, x5 + 1], []) := by
  have hn := P.2.2.1
  unfold f_L_law_B_b476
  rw [if_neg (by decide), ck_ok hm.1, m_rd hm, hn0]
  by_cases h0 : n = 0
  · rw [if_pos (show nI n = 0 by rw [h0]; rfl)]; rfl
  · have hz : ¬ nI n = 0 := fun w => h0 ((nI_eq (b := 0) (by omega) (by omega)).mp w)
    have r1 : nI y - nI y / nI n * nI n = nI (y % n) := pk_rem (by omega) (by omega) (by omega)
    have r2 : nI y / 12 = nI (y / 12) := pk_div (d := 12) (by omega) (by decide) (by decide)
    have r3 : nI (y / 12) - nI (y / 12) / nI n * nI n = nI (y / 12 % n) := pk_rem (by omega) (by omega) (by omega)
    rw [if_neg hz]
    unfold dvI
    rw [m_rd hm, hn0, if_neg hz, m_rd hm, hn0, if_neg hz, r1, r2, r3, e_LareMeeting P hF hg hr (Nat.mod_lt _ (by omega)) (Nat.mod_lt _ (by omega)), cal_some, if_neg (by decide)]
    rfl
theorem e_L422 (hF : 1000 ≤ F) (hg : gOn S gA) (hm : mOn S mA) (x0 : Nat) (x5 : Int32) {y : Nat} (hy : y < 2147483648) : ∀ (d m k : Nat) (D : CD), cPic S D A sg w n g root rd c lo ou → (∀ i, i < n → rowG D gA i (g i)) → D.2.2.1 mA 0 = nI n → k + d = 10 → d < m →
    ∃ D2, f_L_law_B_L422 F S x0 (A 0) gA mA m D 1 x5 (nI y) (nI k) = some (D2, 0, [1, x5 + 1], []) ∧ D2.2.2 = D.2.2 ∧ cPic S D2 A sg w n g root rd c lo ou := by
  intro d
  induction d with
  | zero =>
    intro m k D P hr hn0 hk hm2
    obtain ⟨m, rfl⟩ : ∃ q, m = q + 1 := ⟨m - 1, by omega⟩
    refine ⟨D, ?_, rfl, P⟩
    rw [f_L_law_B_L422, if_pos (show (10 : Int32) ≤ nI k by rw [show k = 10 by omega]; decide)]
    exact e_Lb476 P hF hg hm hr hn0 x0 x5 hy
  | succ d ih =>
    intro m k D P hr hn0 hk hm2
    obtain ⟨m, rfl⟩ : ∃ q, m = q + 1 := ⟨m - 1, by omega⟩
    have q1 : nI y / 5 = nI (y / 5) := pk_div (d := 5) (by omega) (by decide) (by decide)
    have q2 : nI y / 500 = nI (y / 500) := pk_div (d := 500) (by omega) (by decide) (by decide)
    have q3 : 29 * nI k = nI (29 * k) := by rw [nI_zI, nI_zI]; show zI 29 * zI k = _; rw [zI_mul]; congr 1
    have q4 : 43 * nI k = nI (43 * k) := by rw [nI_zI, nI_zI]; show zI 43 * zI k = _; rw [zI_mul]; congr 1
    have q5 : nI (y / 5 + 29 * k) - nI (y / 5 + 29 * k) / 101 * 101 = nI ((y / 5 + 29 * k) % 101) := pk_rem (d := 101) (by omega) (by decide) (by decide)
    have q6 : nI (y / 500 + 43 * k) - nI (y / 500 + 43 * k) / 101 * 101 = nI ((y / 500 + 43 * k) % 101) := pk_rem (d := 101) (by omega) (by decide) (by decide)
    obtain ⟨D2, p1, p2, p3⟩ := e_LisAt (F := F) P hF hg hm hr hn0 (x := ((y / 5 + 29 * k) % 101 : Nat)) (y := ((y / 500 + 43 * k) % 101 : Nat)) ⟨by omega, by omega⟩ ⟨by omega, by omega⟩
    obtain ⟨D3, v1, v2, v3⟩ := ih m (k + 1) D2 p3 (fun i hi => by unfold rowG; rw [p2]; exact hr i hi) (by rw [p2]; exact hn0) (by omega) (by omega)
    refine ⟨D3, ?_, v2.trans p2, v3⟩
    rw [f_L_law_B_L422, if_neg (show ¬ (10 : Int32) ≤ nI k from fun w => by have := (nI_leI (a := 10) (b := k) (by omega) (by omega)).mp w; omega), if_neg (by decide), q1, q2, q3, q4, ixk, ixk, q5, q6, nI_zI ((y / 5 + 29 * k) % 101), nI_zI ((y / 500 + 43 * k) % 101), p1, caM_some, nI_1]
    exact v1
theorem e_Llaw_B (P : cPic S D A sg w n g root rd c lo ou) (hF : 4000001 ≤ F) (hg : gOn S gA) (hm : mOn S mA) (hr : ∀ i, i < n → rowG D gA i (g i)) (hn0 : D.2.2.1 mA 0 = nI n) (x0 : Nat) {k x y : Nat} (hk : k < 45) (hx : x < 2147483648) (hy : y < 2147483648) :
    ∃ D2, f_L_law_B F S D x0 (A 0) gA mA 1 (nI k) (nI x) (nI y) = some (D2, 0, [1, nI (k + 1)], []) ∧ D2.2.2 = D.2.2 ∧ cPic S D2 A sg w n g root rd c lo ou := by
  have q1 : nI y / 7 = nI (y / 7) := pk_div (d := 7) (by omega) (by decide) (by decide)
  have q2 : nI y / 700 = nI (y / 700) := pk_div (d := 700) (by omega) (by decide) (by decide)
  have q3 : nI (y / 7) - nI (y / 7) / 101 * 101 = nI (y / 7 % 101) := pk_rem (d := 101) (by omega) (by decide) (by decide)
  have q4 : nI (y / 700) - nI (y / 700) / 6 * 6 = nI (y / 700 % 6) := pk_rem (d := 6) (by omega) (by decide) (by decide)
  have q5 : nI (y / 700 % 6) * 20 = nI (y / 700 % 6 * 20) := by rw [nI_zI, nI_zI]; show zI _ * zI 20 = _; rw [zI_mul]; congr 1
  have q6 : nI k - nI k / 9 * 9 = nI (k % 9) := pk_rem (d := 9) (by omega) (by decide) (by decide)
  have q7 : nI x / 3 = nI (x / 3) := pk_div (d := 3) (by omega) (by decide) (by decide)
  have v0 := e_LareVertices (F := F) P hF hg hm hr hn0
  have v1 := e_LareEdges (F := F) P (by omega) hg hm hr hn0
  have v2 := e_LareFaces (F := F) P (by omega)
  obtain ⟨D3, a1, a2, a3⟩ := e_LisLine (F := F) P (by omega) hg hm hr hn0 (x := (y / 7 % 101 : Nat)) ⟨by omega, by omega⟩
  have hr3 : ∀ i, i < n → rowG D3 gA i (g i) := fun i hi => by unfold rowG; rw [a2]; exact hr i hi
  have hn3 : D3.2.2.1 mA 0 = nI n := by rw [a2]; exact hn0
  obtain ⟨D4, b1, b2, b3⟩ := e_LisLine (F := F) a3 (by omega) hg hm hr3 hn3 (x := (y / 700 % 6 * 20 : Nat)) ⟨by omega, by omega⟩
  have hr4 : ∀ i, i < n → rowG D4 gA i (g i) := fun i hi => by unfold rowG; rw [b2]; exact hr3 i hi
  have hn4 : D4.2.2.1 mA 0 = nI n := by rw [b2]; exact hn3
  have v5 := e_LisRefused (F := F) b3 (by omega) hm hn4 (x := x / 3) (by omega)
  obtain ⟨D5, c1, c2, c3⟩ := e_L422 (F := F) (by omega) hg hm x0 (nI k) hy 10 F 0 D4 b3 hr4 hn4 (by omega) (by omega)
  refine ⟨D5, ?_, c2.trans (b2.trans a2), c3⟩
  rw [nI_1] at c1
  have c1 : f_L_law_B_L422 F S x0 (A 0) gA mA F D4 1 (nI k) (nI y) 0 = some (D5, 0, [1, nI (k + 1)], []) := c1
  unfold f_L_law_B
  rw [if_neg (by decide), v0, caM_some, if_neg (by decide), v1, caM_some, if_neg (by decide), v2, caM_some, if_neg (by decide), q1, q3, nI_zI (y / 7 % 101), a1, caM_some, if_neg (by decide), q2, q4, q5, nI_zI (y / 700 % 6 * 20), b1, caM_some, if_neg (by decide), q6]
  by_cases h9 : 0 < k % 9
  · rw [if_pos (show (0 : Int32) < nI (k % 9) by rw [nI_zI]; exact (zI_lt (a := 0) (b := ((k % 9 : Nat) : Int)) ⟨by omega, by omega⟩ ⟨by omega, by omega⟩).mpr (by omega))]
    exact c1
  · rw [if_neg (show ¬ (0 : Int32) < nI (k % 9) by rw [show k % 9 = 0 by omega]; decide), q7, v5, caM_some, if_neg (by decide)]
    exact c1
theorem e_Llaw_S (P : cPic S D A sg w 0 g root rd c lo ou) (hF : 4000001 ≤ F) (hm : mOn S mA) (hn0 : D.2.2.1 mA 0 = nI 0) (x0 : Nat) : f_L_law_S F S D x0 (A 0) gA mA = some (D, 0, [1, 0], []) := by
  obtain ⟨c3, c5⟩ := nFc_bd (F := F) P
  have hH := P.2.2.2.2.2.2.2.2
  have eu := euler hH
  have cl := comp_le hH
  have hE := (no_edges hH.1 hH.2.1).mpr rfl
  have e0 : nFc 0 g root rd c = 1 + cnt (fun u => !arF 0 g (EE g 0) root rd u) c := by
    show 1 + cnt _ c = _
    congr 1 <;> exact cnt_congr (fun u _ => Bool.and_true _)
  have e1 : nFc 0 g root rd c = 1 := by omega
  rw [e1] at c3
  have r0 : f_L_isRefused F S D (A 0) mA 0 = some (D, 1) := e_LisRefused (F := F) P (by omega) hm hn0 (x := 0) (by omega)
  have r1 : f_L_isRefused F S D (A 0) mA 1 = some (D, 1) := e_LisRefused (F := F) P (by omega) hm hn0 (x := 1) (by omega)
  unfold f_L_law_S
  rw [ly_k P.1 0 (by decide) (by decide), c3, cal_some, if_pos (show nI 1 = 1 from rfl), r0, caM_some, if_neg (by decide), r1, caM_some, if_neg (by decide)]
end STP
