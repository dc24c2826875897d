/-! The other calls: class and reference answer the same. -/
theorem inP_R {x : Int} (h : inP x = true) : inR x := by
  have h1 : 0 ≤ x ∧ x ≤ 100 := of_decide_eq_true h
  exact h1
theorem inP_N {x : Int} (h : inP x = false) : ¬ inR x := by
  have h1 : ¬ (0 ≤ x ∧ x ≤ 100) := of_decide_eq_false h
  exact h1
section PLAIN
variable {l : Launch} {G : cG} {Gm : mG} {S : CS} {D : CD} {z : Nat × Nat} {a0 : Nat} {M : MS}
theorem op_segments (hj : jP_ S D z a0 M) : ∃ (r : Int32) (M2 : MS), cMI l yX6_segments vX6_segments ({ frames := 1, cells := 0, slots := 0, locals := 20 }) G S [.ref a0] D D r ∧ mMI l yX7_segments vX7_segments ({ frames := 0, cells := 0, slots := 0, locals := 0 }) Gm [.ref (mO Gm)] M M2 r ∧ jP_ S D z a0 M2 := by
  have hj0 := hj
  obtain ⟨n, g, root, r, c, lo, ou, hg, hn, hM, A, sg, w, rfl, hz, P⟩ := hj
  exact ⟨M.1 0, mpF M 23 0, m_X6_segments l G 1000001 S D (A 0) _ (by rw [hM.1]; exact k_segments P), c_segments l Gm 0 M (mpF M 23 0) (M.1 0) rfl, hj0.to (fun n => mKp_23 _ _)⟩
theorem op_vertices (hj : jP_ S D z a0 M) : ∃ (r : Int32) (M2 : MS), cMI l yX6_vertices vX6_vertices ({ frames := 0, cells := 0, slots := 0, locals := 0 }) G S [.ref a0] D D r ∧ mMI l yX7_vertices vX7_vertices ({ frames := 0, cells := 0, slots := 0, locals := 0 }) Gm [.ref (mO Gm)] M M2 r ∧ jP_ S D z a0 M2 := by
  have hj0 := hj
  obtain ⟨n, g, root, r, c, lo, ou, hg, hn, hM, A, sg, w, rfl, hz, P⟩ := hj
  exact ⟨M.1 5, mpF M 23 0, m_X6_vertices l G 1000001 S D (A 0) _ (by rw [hM.2.2.1.1]; exact (k_counts P).1), c_vertices l Gm 0 M (mpF M 23 0) (M.1 5) rfl, hj0.to (fun n => mKp_23 _ _)⟩
theorem op_edges (hj : jP_ S D z a0 M) : ∃ (r : Int32) (M2 : MS), cMI l yX6_edges vX6_edges ({ frames := 0, cells := 0, slots := 0, locals := 0 }) G S [.ref a0] D D r ∧ mMI l yX7_edges vX7_edges ({ frames := 0, cells := 0, slots := 0, locals := 0 }) Gm [.ref (mO Gm)] M M2 r ∧ jP_ S D z a0 M2 := by
  have hj0 := hj
  obtain ⟨n, g, root, r, c, lo, ou, hg, hn, hM, A, sg, w, rfl, hz, P⟩ := hj
  exact ⟨M.1 11, mpF M 23 0, m_X6_edges l G 1000001 S D (A 0) _ (by rw [hM.2.2.2.1.1]; exact (k_counts P).2.1), c_edges l Gm 0 M (mpF M 23 0) (M.1 11) rfl, hj0.to (fun n => mKp_23 _ _)⟩
theorem op_faces (hj : jP_ S D z a0 M) : ∃ (r : Int32) (M2 : MS), cMI l yX6_faces vX6_faces ({ frames := 0, cells := 0, slots := 0, locals := 0 }) G S [.ref a0] D D r ∧ mMI l yX7_faces vX7_faces ({ frames := 0, cells := 0, slots := 0, locals := 0 }) Gm [.ref (mO Gm)] M M2 r ∧ jP_ S D z a0 M2 := by
  have hj0 := hj
  obtain ⟨n, g, root, r, c, lo, ou, hg, hn, hM, A, sg, w, rfl, hz, P⟩ := hj
  exact ⟨M.1 21, mpF M 23 0, m_X6_faces l G 1000001 S D (A 0) _ (by rw [mx_21 hM]; exact (k_counts P).2.2.1), c_faces l Gm 0 M (mpF M 23 0) (M.1 21) rfl, hj0.to (fun n => mKp_23 _ _)⟩
theorem op_components (hj : jP_ S D z a0 M) : ∃ (r : Int32) (M2 : MS), cMI l yX6_components vX6_components ({ frames := 0, cells := 0, slots := 0, locals := 0 }) G S [.ref a0] D D r ∧ mMI l yX7_components vX7_components ({ frames := 0, cells := 0, slots := 0, locals := 0 }) Gm [.ref (mO Gm)] M M2 r ∧ jP_ S D z a0 M2 := by
  have hj0 := hj
  obtain ⟨n, g, root, r, c, lo, ou, hg, hn, hM, A, sg, w, rfl, hz, P⟩ := hj
  exact ⟨M.1 22, mpF M 23 0, m_X6_components l G 1000001 S D (A 0) _ (by rw [hM.2.2.2.2.2.2.1]; exact (k_counts P).2.2.2), c_components l Gm 0 M (mpF M 23 0) (M.1 22) rfl, hj0.to (fun n => mKp_23 _ _)⟩
end PLAIN
section OPS
variable (l : Launch) (hfl : l.stackTraces = false) (G : cG) (Gm : mG) {S : CS} {D : CD} {z : Nat × Nat} {a0 o : Nat} {cJ : ClassId} {f : Nat → Int64} {M : MS}
theorem op_meet (hfl : l.stackTraces = false) (hj : jP_ S D z a0 M) (hD : ∀ D : CD, va_D (fun _ => True) (cW G S D)) (p1 p2 : Int32) :
    lRes l G Gm S D z a0 o cJ f M yL_meet wL_meet yX7_meet vX7_meet ({ frames := 3, cells := 0, slots := 0, locals := 74 }) [.ref a0, .int p1, .int p2, .ref o] [.ref (mO Gm), .int p1, .int p2] (fun b => if b = 0 then 0 else 1) := by
  obtain ⟨x, hx, rfl⟩ := ex_z p1
  obtain ⟨y, hy, rfl⟩ := ex_z p2
  have hj0 := hj
  obtain ⟨n, g, root, r, c, lo, ou, hg, hn, hM, A, sg, w, rfl, hz, P⟩ := hj
  obtain ⟨m0, k0⟩ := P.1.1 0 (by decide) (by decide)
  have hE := e_meet (F := 1000001) hx hy hM.1 hn hM.2.1 hg.1
  have hE2 : f_meet 1000001 M (zI x) (zI y) = some (mpF M 23 (bI (!(inB x n && inB y n))), if (inB x n && inB y n) then bI (decide (x = y) || decide (0 < com (g x.toNat) (g y.toNat))) else 0) := by
    rw [hE]
    cases (inB x n && inB y n) <;> rfl
  refine op_q (B := inB x n && inB y n) hj0 hD (c_meet l Gm 1000001 M _ (zI x) (zI y) _ hE2) (fun h => ?_) (fun h => ?_)
  · obtain ⟨h1, h2⟩ := Bool.and_eq_true_iff.mp h
    obtain ⟨i, i1, i2, i3⟩ := inB_nat h1
    obtain ⟨j, j1, j2, j3⟩ := inB_nat h2
    have hi : x.toNat = i := by rw [i2]; rfl
    have hjj : y.toNat = j := by rw [j2]; rfl
    refine wn_meet l G S D z (A 0) o cJ f (zI x) (zI y) m0 k0 (ws' := WC) hWCA (by exact ⟨rfl, rfl, Nat.le_of_ble_eq_true rfl, Nat.le_of_ble_eq_true rfl⟩) (by decide) (by decide) (wCal.ofI (m_X6_meet l G 1000001 S D (A 0) (zI x) (zI y) _ ?_)) (fun _ _ _ _ => ⟨fun _ h => Or.inl h, hD⟩)
    have he : decide (x = y) = decide (i = j) := by
      rw [i2, j2]
      exact decide_eq_decide.mpr ⟨fun h => by omega, fun h => by omega⟩
    rw [i3, j3, hi, hjj, he]
    exact k_meet P i1 j1
  · refine wt_meet_B l G S D z (A 0) o cJ f (zI x) (zI y) m0 k0 (ws' := WA) (fun _ h => h) (by exact ⟨rfl, rfl, Nat.le_of_ble_eq_true rfl, Nat.le_of_ble_eq_true rfl⟩) (by decide) (by decide) (tm_X6_meet l hfl G 1000001 S D D (A 0) (zI x) (zI y) _ (tp_meet P hx hy ?_))
    cases h1 : inB x n
    · exact Or.inl rfl
    · rw [h1, Bool.true_and] at h
      obtain ⟨i, i1, i2, i3⟩ := inB_nat h1
      exact Or.inr ⟨⟨i, i1, i2⟩, h⟩
theorem op_crossing (hfl : l.stackTraces = false) (hj : jP_ S D z a0 M) (hD : ∀ D : CD, va_D (fun _ => True) (cW G S D)) (p1 : Int32) :
    lRes l G Gm S D z a0 o cJ f M yL_crossing wL_crossing yX7_crossing vX7_crossing ({ frames := 3, cells := 0, slots := 0, locals := 67 }) [.ref a0, .int p1, .ref o] [.ref (mO Gm), .int p1] (fun b => b.toInt64) := by
  obtain ⟨x, hx, rfl⟩ := ex_z p1
  have hj0 := hj
  obtain ⟨n, g, root, r, c, lo, ou, hg, hn, hM, A, sg, w, rfl, hz, P⟩ := hj
  obtain ⟨m0, k0⟩ := P.1.1 0 (by decide) (by decide)
  refine op_q (B := inP x) hj0 hD (c_crossing l Gm 1000001 M _ (zI x) _ (e_crossing (F := 1000001) hx (Nat.le_of_ble_eq_true rfl) hM.1 hn hM.2.1 hg.1)) (fun h => ?_) (fun h => ?_)
  · exact wn_crossing l G S D z (A 0) o cJ f (zI x) m0 k0 (ws' := WC) hWCA (by exact ⟨rfl, rfl, Nat.le_of_ble_eq_true rfl, Nat.le_of_ble_eq_true rfl⟩) (by decide) (by decide) (wCal.ofI (m_X6_crossing l G 1000001 S D (A 0) (zI x) _ (k_crossing P (Nat.le_of_ble_eq_true rfl) (inP_R h)))) (fun _ _ _ _ => ⟨fun _ h => Or.inl h, hD⟩)
  · exact wt_crossing_A l G S D z (A 0) o cJ f (zI x) m0 k0 (ws' := WA) (fun _ h => h) (by exact ⟨rfl, rfl, Nat.le_of_ble_eq_true rfl, Nat.le_of_ble_eq_true rfl⟩) (by decide) (by decide) (tm_X6_crossing l hfl G 1000001 S D D (A 0) (zI x) _ (tp_crossing P hx (inP_N h)))
theorem op_crossingAt (hfl : l.stackTraces = false) (hj : jP_ S D z a0 M) (hD : ∀ D : CD, va_D (fun _ => True) (cW G S D)) (p1 p2 : Int32) :
    lRes l G Gm S D z a0 o cJ f M yL_crossingAt wL_crossingAt yX7_crossingAt vX7_crossingAt ({ frames := 4, cells := 0, slots := 0, locals := 97 }) [.ref a0, .int p1, .int p2, .ref o] [.ref (mO Gm), .int p1, .int p2] (fun b => b.toInt64) := by
  obtain ⟨x, hx, rfl⟩ := ex_z p1
  obtain ⟨y, hy, rfl⟩ := ex_z p2
  have hj0 := hj
  obtain ⟨n, g, root, r, c, lo, ou, hg, hn, hM, A, sg, w, rfl, hz, P⟩ := hj
  obtain ⟨m0, k0⟩ := P.1.1 0 (by decide) (by decide)
  have hE := e_crossingAt (F := 1000001) hx hy (Nat.le_of_ble_eq_true rfl) hM.1 hn hM.2.1 hg.1
  cases h1 : inP x with
  | false =>
    rw [h1, if_neg (by decide)] at hE
    refine ⟨1, 0, _, mpF M 23 1, wt_crossingAt_A l G S D z (A 0) o cJ f (zI x) (zI y) m0 k0 (ws' := WA) (fun _ h => h) (by exact ⟨rfl, rfl, Nat.le_of_ble_eq_true rfl, Nat.le_of_ble_eq_true rfl⟩) (by decide) (by decide) (tm_X6_crossingAt l hfl G 1000001 S D D (A 0) (zI x) (zI y) _ (tp_crossingAtA P hx (inP_N h1) _)), c_crossingAt l Gm 1000001 M _ (zI x) (zI y) _ hE, mpF_s _ _ _, fun sz S2 D2 v h => ?_⟩
    obtain ⟨rfl, rfl⟩ := h
    exact ⟨cGr.self hD, hj0.to (fun n => mKp_23 _ _), fun h => absurd h (by decide)⟩
  | true =>
    rw [h1, if_pos rfl] at hE
    cases h2 : inB y (cnt (fun i => crZ (g i) x) n) with
    | false =>
      rw [h2, if_neg (by decide)] at hE
      obtain ⟨D9, q1, q2⟩ := tp_crossingAtB (F := 1000001) P (Nat.le_of_ble_eq_true rfl) (inP_R h1) hy h2
      refine ⟨2, 0, _, mpF M 23 2, wt_crossingAt_B l G S D z (A 0) o cJ f (zI x) (zI y) m0 k0 (ws' := WA) (fun _ h => h) (by exact ⟨rfl, rfl, Nat.le_of_ble_eq_true rfl, Nat.le_of_ble_eq_true rfl⟩) (by decide) (by decide) (tm_X6_crossingAt l hfl G 1000001 S D D9 (A 0) (zI x) (zI y) _ q1), c_crossingAt l Gm 1000001 M _ (zI x) (zI y) _ hE, mpF_s _ _ _, fun sz S2 D2 v h => ?_⟩
      obtain ⟨rfl, rfl⟩ := h
      exact ⟨cGr.self hD, ⟨n, g, root, r, c, lo, ou, hg, hn, mPic_kp hM (mKp_23 _ _), A, sg, w, rfl, hz, q2⟩, fun h => absurd h (by decide)⟩
    | true =>
      rw [h2, if_pos rfl] at hE
      obtain ⟨D9, q1, q2⟩ := k_crossingAt (F := 1000001) P (Nat.le_of_ble_eq_true rfl) (inP_R h1) h2
      refine ⟨0, _, _, mpF M 23 0, wn_crossingAt l G S D z (A 0) o cJ f (zI x) (zI y) m0 k0 (ws' := WA) (fun _ h => h) (by exact ⟨rfl, rfl, Nat.le_of_ble_eq_true rfl, Nat.le_of_ble_eq_true rfl⟩) (by decide) (by decide) (wCal.ofI (m_X6_crossingAt l G 1000001 S D D9 (A 0) (zI x) (zI y) _ q1)) (fun _ _ _ _ => ⟨fun _ h => Or.inl h, hD⟩), c_crossingAt l Gm 1000001 M _ (zI x) (zI y) _ hE, mpF_s _ _ _, fun sz S2 D2 v h => ?_⟩
      obtain ⟨r9, _, rfl, rfl, rfl, hv⟩ := h
      exact ⟨cGr.self hD, ⟨n, g, root, r, c, lo, ou, hg, hn, mPic_kp hM (mKp_23 _ _), A, sg, w, rfl, hz, q2⟩, fun _ => hv⟩
theorem op_faceAt (hfl : l.stackTraces = false) (hj : jP_ S D z a0 M) (hD : ∀ D : CD, va_D (fun _ => True) (cW G S D)) (p1 p2 : Int32) :
    lRes l G Gm S D z a0 o cJ f M yL_faceAt wL_faceAt yX7_faceAt vX7_faceAt ({ frames := 4, cells := 0, slots := 0, locals := 108 }) [.ref a0, .int p1, .int p2, .ref o] [.ref (mO Gm), .int p1, .int p2] (fun b => b.toInt64) := by
  obtain ⟨x, hx, rfl⟩ := ex_z p1
  obtain ⟨y, hy, rfl⟩ := ex_z p2
  have hj0 := hj
  obtain ⟨n, g, root, r, c, lo, ou, hg, hn, hM, A, sg, w, rfl, hz, P⟩ := hj
  obtain ⟨m0, k0⟩ := P.1.1 0 (by decide) (by decide)
  obtain ⟨f1, f2, f3, f4, f5, f6, f7, f8, f9⟩ := EE_facts hg hn
  have hM0 : mPic (mpF M 23 0) n g root r c lo ou := mPic_kp hM (mKp_23 _ _)
  have hE := e_faceAt (F := 1000001) hx hy (Nat.le_of_ble_eq_true rfl) hM.1 hn hM.2.1 hg.1 (v := fAv false n g (VP g n) (EE g n) (fun s => (r s).getD 0) (foF n g (EE g n) root (fun s => (r s).getD 0) c lo ou) (ptI x y)) (fun hx' hy' => by
    have h := e_faceAbove (F := 1000001) (M := mpF M 23 0) (Nat.le_of_ble_eq_true rfl) hM0.1 hM0.2.1 hg.1 (Nat.le_succ_of_le hn) hM0.2.2.1 (vI_good hg.1 n (Nat.le_refl _)).2 (Nat.le_trans f1 (by decide)) hM0.2.2.2.1 (Nat.le_trans f2 (by decide)) f4 f5 (bV_pt hx' hy') (mx_rd hM0 hg hn) (fun s hs => (mx_fo hM0 hg hn s hs).1) false
    have e1 : (ptI x y).1.num = x := by rw [ptI_eq]; exact Rat.num_intCast x
    have e2 : (ptI x y).2.num = y := by rw [ptI_eq]; exact Rat.num_intCast y
    have e3 : (ptI x y).1.den = 1 := by rw [ptI_eq]; exact Rat.den_intCast x
    have e4 : (ptI x y).2.den = 1 := by rw [ptI_eq]; exact Rat.den_intCast y
    rw [e1, e2, e3, e4] at h
    exact h)
  cases hb : (inP x && inP y) with
  | false =>
    rw [hb, if_neg (by decide)] at hE
    refine ⟨1, 0, _, mpF M 23 1, wt_faceAt_A l G S D z (A 0) o cJ f (zI x) (zI y) m0 k0 (ws' := WA) (fun _ h => h) (by exact ⟨rfl, rfl, Nat.le_of_ble_eq_true rfl, Nat.le_of_ble_eq_true rfl⟩) (by decide) (by decide) (tm_X6_faceAt l hfl G 1000001 S D D (A 0) (zI x) (zI y) _ (tp_faceAt P hx hy (fun h => ?_))), c_faceAt l Gm 1000001 M _ (zI x) (zI y) _ hE, mpF_s _ _ _, fun sz S2 D2 v h => ?_⟩
    · rw [show inP x = true from decide_eq_true h.1, show inP y = true from decide_eq_true h.2] at hb
      cases hb
    · obtain ⟨rfl, rfl⟩ := h
      exact ⟨cGr.self hD, hj0.to (fun n => mKp_23 _ _), fun h => absurd h (by decide)⟩
  | true =>
    rw [hb, if_pos rfl] at hE
    obtain ⟨hb1, hb2⟩ := Bool.and_eq_true_iff.mp hb
    obtain ⟨D9, q1, q2⟩ := k_faceAt (F := 1000001) P (Nat.le_of_ble_eq_true rfl) (inP_R hb1) (inP_R hb2)
    have e1 : anyN (fun i => onB (g i) (ptI x y)) n = anyN (fun i => onZ (g i) x y) n := by
      refine Bool.eq_iff_iff.mpr ((anyN_iff.trans ⟨fun ⟨i, i1, i2⟩ => ⟨i, i1, ?_⟩, fun ⟨i, i1, i2⟩ => ⟨i, i1, ?_⟩⟩).trans anyN_iff.symm)
      · rw [← onB_Z (hg.1 i i1)]; exact i2
      · rw [onB_Z (hg.1 i i1)]; exact i2
    have hFH := FH_of hg hn hM
    have e2 : (if anyN (fun i => onB (g i) (ptI x y)) n then (-1 : Int32) else nI (fcO (fun s => foF n g (EE g n) root (fun s => (r s).getD 0) c lo ou ((r s).getD 0)) (fL g (vI g n).2 (EE g n) (ptI x y) (EE g n).1))) = (if anyN (fun i => onZ (g i) x y) n then -1 else nI (fAv false n g (VP g n) (EE g n) (fun s => (r s).getD 0) (foF n g (EE g n) root (fun s => (r s).getD 0) c lo ou) (ptI x y))) := by
      cases ha : anyN (fun i => onB (g i) (ptI x y)) n with
      | true => rw [← e1, ha]; rfl
      | false =>
        rw [← e1, ha, if_neg (by decide), if_neg (by decide)]
        congr 1
        exact fAv_lr hFH (fun i hi h => by
          have : anyN (fun i => onB (g i) (ptI x y)) n = true := anyN_iff.mpr ⟨i, hi, onB_iff.mpr h⟩
          rw [ha] at this; cases this) (cls_top hg hFH.2.1 (ptI x y))
    rw [← e2] at hE
    refine ⟨0, _, _, mpF M 23 0, wn_faceAt l G S D z (A 0) o cJ f (zI x) (zI y) m0 k0 (ws' := WC) hWCA (by exact ⟨rfl, rfl, Nat.le_of_ble_eq_true rfl, Nat.le_of_ble_eq_true rfl⟩) (by decide) (by decide) (wCal.ofI (m_X6_faceAt l G 1000001 S D D9 (A 0) (zI x) (zI y) _ q1)) (fun _ _ _ _ => ⟨fun _ h => Or.inl h, hD⟩), c_faceAt l Gm 1000001 M _ (zI x) (zI y) _ hE, mpF_s _ _ _, fun sz S2 D2 v h => ?_⟩
    obtain ⟨r9, _, rfl, rfl, rfl, hv⟩ := h
    exact ⟨cGr.self hD, ⟨n, g, root, r, c, lo, ou, hg, hn, hM0, A, sg, w, rfl, hz, q2⟩, fun _ => hv⟩
theorem op_remove (hfl : l.stackTraces = false) (hj : jP_ S D z a0 M) (hD : ∀ D : CD, va_D (fun _ => True) (cW G S D)) (p1 : Int32) :
    lRes l G Gm S D z a0 o cJ f M yL_remove wL_remove yX7_remove vX7_remove ({ frames := 8, cells := 0, slots := 0, locals := 179 }) [.ref a0, .int p1, .ref o] [.ref (mO Gm), .int p1] (fun b => b.toInt64) := by
  obtain ⟨x, hx, rfl⟩ := ex_z p1
  have hj0 := hj
  obtain ⟨n, g, root, r, c, lo, ou, hg, hn, hM, hA⟩ := hj
  have hA0 := hA
  obtain ⟨A, sg, w, rfl, hz, P⟩ := hA
  obtain ⟨m0, k0⟩ := P.1.1 0 (by decide) (by decide)
  have hE := e_remove (F := 1000001) (Nat.le_refl _) hx hM.1 hn hM.2.1 hg
  cases h1 : inB x n with
  | false =>
    refine ⟨1, 0, _, mpF M 23 1, wt_remove_B l G S D z (A 0) o cJ f (zI x) m0 k0 (ws' := WA) (fun _ h => h) (by exact ⟨rfl, rfl, Nat.le_of_ble_eq_true rfl, Nat.le_of_ble_eq_true rfl⟩) (by decide) (by decide) (tm_X6_remove l hfl G 1000001 S D D (A 0) (zI x) _ (tp_remove P hx h1)), c_remove l Gm 1000001 M _ (zI x) _ (hE.1 h1), mpF_s _ _ _, fun sz S2 D2 v h => ?_⟩
    obtain ⟨rfl, rfl⟩ := h
    exact ⟨cGr.self hD, hj0.to (fun n => mKp_23 _ _), fun h => absurd h (by decide)⟩
  | true =>
    obtain ⟨M2, root', r', c', lo', ou', e1, e2, e3, e4⟩ := hE.2 h1
    obtain ⟨v, v1, v2, v3⟩ := inB_nat h1
    have hv : x.toNat = v := by rw [v2]; rfl
    rw [hv] at e3 e4
    have hc := i_remove l G 1000001 (Nat.le_of_ble_eq_true rfl) S z D (A 0) n v hA0 v1 (FH_of e3 (by omega) e4)
    rw [v3] at e1 ⊢
    refine ⟨0, nI (n - 1), _, M2, wn_remove l G S D z (A 0) o cJ f (nI v) m0 k0 (ws' := WA) (fun _ h => h) (by exact ⟨rfl, rfl, Nat.le_of_ble_eq_true rfl, Nat.le_of_ble_eq_true rfl⟩) (by decide) (by decide) (wCal.ofK hc) (fun _ _ u h => ⟨h.2.2.2.1, h.2.2.2.2⟩), c_remove l Gm 1000001 M M2 (nI v) _ e1, e2, fun sz S2 D2 v9 h => ?_⟩
    obtain ⟨r9, u, ⟨rfl, h3, h4⟩, rfl, rfl, hv9⟩ := h
    exact ⟨h4, ⟨n - 1, _, root', r', c', lo', ou', e3, by omega, e4, h3⟩, fun _ => hv9⟩
theorem op_add (hfl : l.stackTraces = false) (hj : jP_ S D z a0 M) (hD : ∀ D : CD, va_D (fun _ => True) (cW G S D)) (p1 p2 p3 p4 : Int32) :
    lRes l G Gm S D z a0 o cJ f M yL_add wL_add yX7_add vX7_add ({ frames := 8, cells := 0, slots := 0, locals := 179 }) [.ref a0, .int p1, .int p2, .int p3, .int p4, .ref o] [.ref (mO Gm), .int p1, .int p2, .int p3, .int p4] (fun b => b.toInt64) := by
  obtain ⟨x, hx, rfl⟩ := ex_z p1
  obtain ⟨y, hy, rfl⟩ := ex_z p2
  obtain ⟨x2, hx2, rfl⟩ := ex_z p3
  obtain ⟨y2, hy2, rfl⟩ := ex_z p4
  have hj0 := hj
  obtain ⟨n, g, root, r, c, lo, ou, hg, hn, hM, hA⟩ := hj
  have hA0 := hA
  obtain ⟨A, sg, w, rfl, hz, P⟩ := hA
  obtain ⟨m0, k0⟩ := P.1.1 0 (by decide) (by decide)
  obtain ⟨t1, t2, t3⟩ := e_add (F := 1000001) (Nat.le_refl _) hx hy hx2 hy2 hM.1 hn hM.2.1 hg
  cases h1 : adP x y x2 y2 with
  | false =>
    obtain ⟨M2, e1, e2, e3⟩ := t1 h1
    refine ⟨1, 0, _, M2, wt_add_A l G S D z (A 0) o cJ f (zI x) (zI y) (zI x2) (zI y2) m0 k0 (ws' := WA) (fun _ h => h) (by exact ⟨rfl, rfl, Nat.le_of_ble_eq_true rfl, Nat.le_of_ble_eq_true rfl⟩) (by decide) (by decide) (tm_X6_add l hfl G 1000001 S D D (A 0) (zI x) (zI y) (zI x2) (zI y2) _ (tp_addA P hx hy hx2 hy2 h1)), c_add l Gm 1000001 M M2 (zI x) (zI y) (zI x2) (zI y2) _ e1, e2, fun sz S2 D2 v h => ?_⟩
    obtain ⟨rfl, rfl⟩ := h
    exact ⟨cGr.self hD, ⟨n, g, root, r, c, lo, ou, hg, hn, mPic_kp hM e3, hA0⟩, fun h => absurd h (by decide)⟩
  | true =>
    by_cases h12 : n = 12
    · obtain ⟨M2, e1, e2, e3⟩ := t2 h1 (Or.inl h12)
      refine ⟨2, 0, _, M2, wt_add_S l G S D z (A 0) o cJ f (zI x) (zI y) (zI x2) (zI y2) m0 k0 (ws' := WA) (fun _ h => h) (by exact ⟨rfl, rfl, Nat.le_of_ble_eq_true rfl, Nat.le_of_ble_eq_true rfl⟩) (by decide) (by decide) (tm_X6_add l hfl G 1000001 S D D (A 0) (zI x) (zI y) (zI x2) (zI y2) _ (tp_addS P h1 h12)), c_add l Gm 1000001 M M2 (zI x) (zI y) (zI x2) (zI y2) _ e1, e2, fun sz S2 D2 v h => ?_⟩
      obtain ⟨rfl, rfl⟩ := h
      exact ⟨cGr.self hD, ⟨n, g, root, r, c, lo, ou, hg, hn, mPic_kp hM e3, hA0⟩, fun h => absurd h (by decide)⟩
    · cases hc : adC n g (nrm x y x2 y2) with
      | false =>
        obtain ⟨M2, e1, e2, e3⟩ := t2 h1 (Or.inr hc)
        have ht := i_addO l hfl G 1000001 (Nat.le_of_ble_eq_true rfl) S z D (A 0) n hA0 (by omega) h1 hc
        refine ⟨2, 0, _, M2, wt_add_S l G S D z (A 0) o cJ f (zI x) (zI y) (zI x2) (zI y2) m0 k0 (ws' := WA) (fun _ h => h) (by exact ⟨rfl, rfl, Nat.le_of_ble_eq_true rfl, Nat.le_of_ble_eq_true rfl⟩) (by decide) (by decide) ht, c_add l Gm 1000001 M M2 (zI x) (zI y) (zI x2) (zI y2) _ e1, e2, fun sz S2 D2 v h => ?_⟩
        obtain ⟨rfl, rfl⟩ := h
        exact ⟨cGr.self hD, ⟨n, g, root, r, c, lo, ou, hg, hn, mPic_kp hM e3, hA0⟩, fun h => absurd h (by decide)⟩
      | true =>
        obtain ⟨M2, root', r', c', lo', ou', e1, e2, e3, e4⟩ := t3 h1 h12 hc
        have hi := i_add l G 1000001 (Nat.le_of_ble_eq_true rfl) S z D (A 0) n hA0 (by omega) h1 hc (FH_of e3 (by omega) e4)
        refine ⟨0, nI n, _, M2, wn_add l G S D z (A 0) o cJ f (zI x) (zI y) (zI x2) (zI y2) m0 k0 (ws' := WA) (fun _ h => h) (by exact ⟨rfl, rfl, Nat.le_of_ble_eq_true rfl, Nat.le_of_ble_eq_true rfl⟩) (by decide) (by decide) (wCal.ofK hi) (fun _ _ u h => ⟨h.2.2.2.1, h.2.2.2.2⟩), c_add l Gm 1000001 M M2 (zI x) (zI y) (zI x2) (zI y2) _ e1, e2, fun sz S2 D2 v9 h => ?_⟩
        obtain ⟨r9, u, ⟨rfl, h3, h4⟩, rfl, rfl, hv9⟩ := h
        exact ⟨h4, ⟨n + 1, _, root', r', c', lo', ou', e3, by omega, e4, h3⟩, fun _ => hv9⟩
end OPS
