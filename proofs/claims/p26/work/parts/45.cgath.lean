/-! ### the class gathers its vertices -/
/-- what gathering vertices leaves -/
def cFrG (A : Nat → Nat) (D D2 : CD) : Prop := D2.2.2.1 = D.2.2.1 ∧ (∀ b k, b ≠ A 4 ∨ k ≠ 6 → D2.1 b k = D.1 b k) ∧ (∀ b, b ≠ A 9 → (∀ i, i < 90 → b ≠ A (34 + i)) → D2.2.1 b = D.2.1 b) ∧ ∀ b, b ≠ A 10 → D2.2.2.2 b = D.2.2.2 b
theorem cFrG.trans {A : Nat → Nat} {D D2 D3 : CD} (h : cFrG A D D2) (h2 : cFrG A D2 D3) : cFrG A D D3 := ⟨h2.1.trans h.1, fun b k hb => (h2.2.1 b k hb).trans (h.2.1 b k hb), fun b hb hc => (h2.2.2.1 b hb hc).trans (h.2.2.1 b hb hc), fun b hb => (h2.2.2.2 b hb).trans (h.2.2.2 b hb)⟩
theorem cFrG.rf {A : Nat → Nat} {D : CD} : cFrG A D D := ⟨rfl, fun _ _ _ => rfl, fun _ _ _ => rfl, fun _ _ => rfl⟩
theorem cFrV.toG {A : Nat → Nat} {D D2 : CD} (h : cFrV A D D2) : cFrG A D D2 := ⟨h.1, h.2.1, fun b _ hb => h.2.2.1 b hb, h.2.2.2⟩
theorem cFrP.toG {A : Nat → Nat} {D D2 : CD} (h : cFrP (A 9) D D2) : cFrG A D D2 := ⟨by rw [h.2.1], fun b k _ => by rw [h.1], fun b hb _ => h.2.2 b hb, fun b _ => by rw [h.2.1]⟩
def cVs (S : CS) (D : CD) (A : Nat → Nat) (q : VS) : Prop := ∃ w, cVer S D A w q.1 q.2
section CGA
variable {F : Nat} {S : CS} {D : CD} {A : Nat → Nat} {sg : Nat → Nat} {n : Nat} {g : Nat → Sg}
theorem kd_ne (hL : cLay S A) {a i k : Nat} (hi : i < 124) (hk : S.2.1 a = k) (h : kdR i ≠ k) (h2 : i ≠ 2 := by omega) : a ≠ A i := fun e => h (by rw [← (hL.1 i hi h2).2, ← e, hk])
theorem cLin_G (hL : cLay S A) {D2 : CD} (h : cLin S D A sg n g) (hf : cFrG A D D2) : cLin S D2 A sg n g := by
  obtain ⟨h1, h2, h3, h4, h5⟩ := h
  refine ⟨?_, h2, h3, fun i hi => ?_, fun i hi => ?_⟩
  · rw [hf.2.1 _ _ (Or.inl (ly_ne hL 1 4 (by omega) (by omega) (by omega)))]; exact h1
  · rw [hf.2.2.2 _ (ly_ne hL 2 10 (by omega) (by omega) (by omega))]; exact h4 i hi
  · obtain ⟨s1, s2, s3⟩ := h5 i hi
    have e1 : ∀ k, D2.1 (sg i) k = D.1 (sg i) k := fun k => hf.2.1 _ _ (Or.inl (kd_ne hL (by omega) s1.2 (by decide)))
    have e2 : D2.2.1 (sg i) = D.2.1 (sg i) := hf.2.2.1 _ (kd_ne hL (by omega) s1.2 (by decide)) (fun j hj => kd_ne hL (by omega) s1.2 (by have := (by decide +kernel : ∀ i, i < 90 → kdR (34 + i) = 2) j hj; omega))
    refine ⟨s1, ?_, ?_⟩
    · rw [e1, e1, e1, e1]; exact s2
    · rw [e2]; exact s3
theorem cVs_P (hL : cLay S A) {D2 : CD} {q : VS} (hq : q.1 ≤ 90) (h : cVs S D A q) (hf : cFrP (A 9) D D2) : cVs S D2 A q := by
  obtain ⟨w, h1, h2, h3, h4⟩ := h
  refine ⟨w, by rw [hf.1]; exact h1, fun i hi => by rw [hf.2.1]; exact h2 i hi, h3, fun i hi => ?_⟩
  exact cPt_fr (h4 i hi) hf (ly_ne hL _ 9 (by have := (h2 i (by omega)).1; omega) (by omega) (by omega))
/-- a point is put, and included -/
theorem k_putIncl (hF : 1000 ≤ F) (hL : cLay S A) {q : VS} (hv : cVs S D A q) (hg : vGood q) {x y d : Int} (hx : -4000000 ≤ x ∧ x ≤ 4000000) (hy : -4000000 ≤ y ∧ y ≤ 4000000) (hd : d ≠ 0) (hd2 : -20000 ≤ d ∧ d ≤ 20000) (h90 : (vins q (Rat.divInt x d, Rat.divInt y d)).1 ≤ 90) :
    ∃ D1 D2, f_X2_put F S D (A 9) (zL x) (zL y) (zL d) = some D1 ∧ f_X5_include F S D1 (A 4) (A 9) = some D2 ∧ cFrG A D D1 ∧ cFrG A D D2 ∧ cVs S D2 A (vins q (Rat.divInt x d, Rat.divInt y d)) := by
  have bp : bV (Rat.divInt x d, Rat.divInt y d) := ⟨bR_div hd hx hd2, bR_div hd hy hd2⟩
  have hq : q.1 ≤ 90 := by
    have : q.1 ≤ (vins q (Rat.divInt x d, Rat.divInt y d)).1 := by unfold vins; split <;> simp
    omega
  have h9 : A 9 ∈ S.1 ∧ S.2.1 (A 9) = 2 := hL.1 9 (by omega) (by omega)
  obtain ⟨D1, a1, a2, a3⟩ := k_put (F := F) (S := S) (D := D) hF h9 hx hy hd hd2
  obtain ⟨w, hw⟩ := cVs_P hL hq hv a3
  obtain ⟨D2, w2, b1, b2, b3⟩ := k_include (F := F) (nV := q.1) (V := q.2) hF hL hw hg.2 h90 a2 bp
  exact ⟨D1, D2, a1, b1, a3.toG, a3.toG.trans b2.toG, w2, b3⟩
theorem k_inclM (hF : 1000 ≤ F) (hL : cLay S A) (hl : cLin S D A sg n g) (ho : ∀ i, i < n → sOk (g i)) {i j : Nat} (hi : i < n) (hj : j < i) {q : VS} (hv : cVs S D A (vJ g i j q)) (hg : vGood (vJ g i j q)) (h90 : (vJ g i (j + 1) q).1 ≤ 90) :
    ∃ D2, f_X6_includeMeeting F S D (A 0) (sg i) (sg j) = some D2 ∧ cFrG A D D2 ∧ cVs S D2 A (vJ g i (j + 1) q) := by
  have si := hl.2.2.2.2 i hi
  have sj := hl.2.2.2.2 j (by omega)
  have oi := ho i hi
  have oj := ho j (by omega)
  unfold f_X6_includeMeeting
  rw [ck_ok si.1, k_parallel si sj oi oj, cal_some]
  by_cases z : cr (g i) (g j) = 0
  · rw [decide_eq_true z, if_neg (show ¬ bI true = 0 by decide)]
    have e : vJ g i (j + 1) q = vJ g i j q := by rw [vJ, if_neg (fun w => w.1 z)]
    rw [e]
    exact ⟨D, rfl, cFrG.rf, hv⟩
  · rw [decide_eq_false z, if_pos (show bI false = 0 from rfl), k_touches si sj oi oj, cal_some]
    have hc : 0 < com (g i) (g j) ↔ com (g i) (g j) = 1 := by
      unfold com
      rw [if_neg z]
      split <;> omega
    by_cases y : com (g i) (g j) = 1
    · have e : vJ g i (j + 1) q = vins (vJ g i j q) (meetP (g i) (g j)) := by rw [vJ, if_pos ⟨z, y⟩]
      rw [e] at h90
      rw [e, decide_eq_true (hc.mpr y), if_neg (show ¬ bI true = 0 by decide), ly_k hL 0 (by decide) (by decide), ly_r hL 0 6 9 (by decide)]
      obtain ⟨D1, D2, p1, p2, p3, p4, p5⟩ := k_putIncl (F := F) hF hL hv hg (meet_bd oi oj).1 (meet_bd oi oj).2 z (cr_bd oi oj) h90
      have pm : f_X4_putMeeting F S D (sg i) (sg j) (A 9) = some D1 := by
        obtain ⟨⟨a1, a2, -, -⟩, -⟩ := id oi
        unfold f_X4_putMeeting
        rw [ck_ok si.1, k_turn si sj, cal_some, k_share si sj oi oj, cal_some, ly_k hL 9 (by decide) (by decide), si.2.1.1, si.2.1.2.1, si.2.2.1, si.2.2.2, zI_long (inR_32 a1), zI_long (inR_32 a2), zL_mul, zL_mul, zL_mul, zL_mul, zL_add, zL_add, p1, cal_some]
      rw [pm, cal_some, ly_r hL 0 2 4 (by decide), ly_r hL 0 6 9 (by decide), ly_k hL 4 (by decide) (by decide), p2, cal_some]
      exact ⟨D2, rfl, p4, p5⟩
    · have e : vJ g i (j + 1) q = vJ g i j q := by rw [vJ, if_neg (fun w => y w.2)]
      rw [e, decide_eq_false (fun w => y (hc.mp w)), if_pos (show bI false = 0 from rfl)]
      exact ⟨D, rfl, cFrG.rf, hv⟩
theorem k_gv92 (hF : 1000 ≤ F) (hL : cLay S A) (ho : ∀ i, i < n → sOk (g i)) (hn : n ≤ 12) {i : Nat} (hi : i < n) {q : VS} (hq : vGood q) (h90 : q.1 + i ≤ 90) (k9 : CD → Int32 → Option CD) :
    ∀ (d m j : Nat) (D1 : CD), j + d = i → d < m → cFrG A D D1 → cLin S D1 A sg n g → cVs S D1 A (vJ g i j q) → ∃ D2, f_X6_gatherVertices_L92 F S (A 0) k9 m D1 (nI i) (sg i) (nI j) = k9 D2 (nI (i + 1)) ∧ cFrG A D D2 ∧ cVs S D2 A (vJ g i i q) := by
  intro d
  induction d with
  | zero =>
    intro m j D1 hj hm hf hl hv
    obtain ⟨m, rfl⟩ : ∃ q, m = q + 1 := ⟨m - 1, by omega⟩
    have e : j = i := by omega
    subst e
    rw [f_X6_gatherVertices_L92, if_pos (Int32.le_refl _), nI_1]
    exact ⟨D1, rfl, hf, hv⟩
  | succ d ih =>
    intro m j D1 hj hm hf hl hv
    obtain ⟨m, rfl⟩ : ∃ q, m = q + 1 := ⟨m - 1, by omega⟩
    have hji : j < i := by omega
    have hc := vJ_cnt g i q (j + 1)
    obtain ⟨D2, b1, b2, b3⟩ := k_inclM (F := F) hF hL hl ho hi hji hv (vJ_good ho hi hq j (by omega)) (by omega)
    rw [f_X6_gatherVertices_L92, if_neg (by rw [nI_leI (by omega) (by omega)]; omega), ly_k hL 0 (by decide) (by decide), ly_r hL 0 0 1 (by decide), ly_k hL 1 (by decide) (by decide), k_lget hL hl hn (show j < n by omega), cal_some, ck_ok (hl.2.2.2.2 j (by omega)).1, b1, cal_some, nI_1]
    exact ih m (j + 1) D2 (by omega) (by omega) (hf.trans b2) (cLin_G hL hl b2) b3
theorem k_gv9 (hF : 1000 ≤ F) (hL : cLay S A) (ho : ∀ i, i < n → sOk (g i)) (hn : n ≤ 12) (hl0 : cLin S D A sg n g) :
    ∀ (d m i : Nat) (D1 : CD), i + d = n → d < m → cFrG A D D1 → cVs S D1 A (vI g i) → ∃ D2, f_X6_gatherVertices_L9 F S (A 0) m D1 (nI i) = some D2 ∧ cFrG A D D2 ∧ cVs S D2 A (vI g n) := by
  intro d
  induction d with
  | zero =>
    intro m i D1 hj hm hf hv
    obtain ⟨m, rfl⟩ : ∃ q, m = q + 1 := ⟨m - 1, by omega⟩
    have hl := cLin_G hL hl0 hf
    have e : i = n := by omega
    subst e
    rw [f_X6_gatherVertices_L9, ly_k hL 0 (by decide) (by decide), ly_r hL 0 0 1 (by decide), ly_k hL 1 (by decide) (by decide), k_size hL hl, cal_some, if_pos (Int32.le_refl _)]
    exact ⟨D1, rfl, hf, hv⟩
  | succ d ih =>
    intro m i D1 hj hm hf hv
    obtain ⟨m, rfl⟩ : ∃ q, m = q + 1 := ⟨m - 1, by omega⟩
    have hl := cLin_G hL hl0 hf
    have hi : i < n := by omega
    have si := hl.2.2.2.2 i hi
    obtain ⟨⟨o1, o2, o3, o4⟩, -⟩ := id (ho i hi)
    have hc := vI_cnt g i
    have ht := tri_le (i + 1) (by omega)
    have ht : 2 * (i + 1) + (tri i + i) ≤ 90 := ht
    have hg0 := vI_good ho i (by omega)
    have c1 := vinsLe (vI g i) (ptI (sX (g i)) (sY (g i)))
    have c2 := vinsLe (vins (vI g i) (ptI (sX (g i)) (sY (g i)))) (ptI (eX (g i)) (eY (g i)))
    have r : ∀ {x : Int}, inR x → -4000000 ≤ x ∧ x ≤ 4000000 := fun h => by unfold inR at h; omega
    obtain ⟨Da, Db, p1, p2, p3, p4, p5⟩ := k_putIncl (F := F) hF hL hv hg0 (r o1) (r o2) (d := 1) (by omega) (by omega) (by have : (vins (vI g i) (ptI (sX (g i)) (sY (g i)))).1 ≤ 90 := (by omega); exact this)
    have lb := cLin_G hL hl p4
    have sb := lb.2.2.2.2 i hi
    have hg1 := vins_good hg0 (bV_pt o1 o2)
    obtain ⟨Dc, Dd, q1, q2, q3, q4, q5⟩ := k_putIncl (F := F) hF hL p5 hg1 (r o3) (r o4) (d := 1) (by omega) (by omega) (by have : (vins (vins (vI g i) (ptI (sX (g i)) (sY (g i)))) (ptI (eX (g i)) (eY (g i)))).1 ≤ 90 := (by omega); exact this)
    have ld := cLin_G hL lb q4
    obtain ⟨D2, r1, r2, r3⟩ := k_gv92 (F := F) (D := D) hF hL ho hn hi (vins_good hg1 (bV_pt o3 o4)) (by omega) (f_X6_gatherVertices_L9 F S (A 0) m) i F 0 Dd (by omega) (by omega) (hf.trans (p4.trans q4)) ld q5
    obtain ⟨D3, t1, t2, t3⟩ := ih m (i + 1) D2 (by omega) (by omega) r2 r3
    rw [f_X6_gatherVertices_L9, ly_k hL 0 (by decide) (by decide), ly_r hL 0 0 1 (by decide), ly_k hL 1 (by decide) (by decide), k_size hL hl, cal_some, if_neg (by rw [nI_leI (by omega) (by omega)]; omega), ly_r hL 0 0 1 (by decide), ly_k hL 1 (by decide) (by decide), k_lget hL hl hn hi, cal_some, ck_ok si.1, ly_r hL 0 6 9 (by decide), ly_k hL 9 (by decide) (by decide), si.2.1.1, si.2.1.2.1, zI_long (inR_32 o1), zI_long (inR_32 o2), show (1 : Int64) = zL 1 from rfl, p1, cal_some, ly_r hL 0 2 4 (by decide), ly_r hL 0 6 9 (by decide), ly_k hL 4 (by decide) (by decide), p2, cal_some, ly_r hL 0 6 9 (by decide), ly_k hL 9 (by decide) (by decide), sb.2.1.2.2.1, sb.2.1.2.2.2, zI_long (inR_32 o3), zI_long (inR_32 o4), q1, cal_some, ly_r hL 0 2 4 (by decide), ly_r hL 0 6 9 (by decide), ly_k hL 4 (by decide) (by decide), q2, cal_some]
    exact ⟨D3, r1.trans t1, t2, t3⟩
/-- the class gathers the vertices of its lines -/
theorem k_gatherV (hF : 1000 ≤ F) (hL : cLay S A) (hl : cLin S D A sg n g) (ho : ∀ i, i < n → sOk (g i)) (hn : n ≤ 12) {w : Nat → Nat} (hw : ∀ i, i < 90 → w i < 90 ∧ D.2.2.2 (A 10) i = some (A (34 + w i))) (hwi : ∀ i j, i < 90 → j < 90 → w i = w j → i = j) :
    ∃ D2, f_X6_gatherVertices F S D (A 0) = some D2 ∧ cFrG A D D2 ∧ cVs S D2 A (vI g n) := by
  have f0 : cFrG A D (cpF D (A 4) 6 0) := ⟨rfl, fun b k hb => cpF_n _ _ hb, fun _ _ _ => rfl, fun _ _ => rfl⟩
  obtain ⟨D2, h1, h2, h3⟩ := k_gv9 (F := F) (D := D) hF hL ho hn hl n F 0 (cpF D (A 4) 6 0) (by omega) (by omega) f0 ⟨w, cpF_s _ _ _ _, hw, hwi, fun i hi => by have : i < 0 := hi; omega⟩
  refine ⟨D2, ?_, h2, h3⟩
  unfold f_X6_gatherVertices f_X5_clear cfW
  rw [ly_k hL 0 (by decide) (by decide), ly_r hL 0 2 4 (by decide), ly_k hL 4 (by decide) (by decide), ly_k hL 4 (by decide) (by decide), cal_some]
  exact h1
end CGA
