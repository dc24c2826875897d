/-! The simple questions: class and reference answer the same. -/
theorem op_xNumerator (l : Launch) (hfl : l.stackTraces = false) (G : cG) (Gm : mG) {S : CS} {D : CD} {z : Nat × Nat} {a0 o : Nat} {cJ : ClassId} {f : Nat → Int64} {M : MS} (hj : jP_ S D z a0 M) (hD : ∀ D : CD, va_D (fun _ => True) (cW G S D)) (p1 : Int32) :
    lRes l G Gm S D z a0 o cJ f M yL_xNumerator wL_xNumerator yX7_xNumerator vX7_xNumerator ({ frames := 2, cells := 0, slots := 0, locals := 43 }) [.ref a0, .int p1, .ref o] [.ref (mO Gm), .int p1] (fun b => b.toInt64) := by
  obtain ⟨x, hx, rfl⟩ := ex_z p1
  have hj0 := hj
  obtain ⟨n, g, root, r, c, lo, ou, hg, hn, hM, A, sg, w, rfl, hz, P⟩ := hj
  obtain ⟨m0, k0⟩ := P.1.1 0 (by decide) (by decide)
  refine op_q (B := inB x ((vI g n).1)) hj0 hD (c_xNumerator l Gm 1000001 M _ (zI x) _ (e_coord (F := 1000001) hx hM.2.2.1 (Nat.le_trans (EE_facts hg hn).1 (by decide))).1) (fun h => ?_) (fun h => ?_)
  · obtain ⟨v, h1, h2, h3⟩ := inB_nat h
    have hv : x.toNat = v := by rw [h2]; rfl
    exact wn_xNumerator l G S D z (A 0) o cJ f (zI x) m0 k0 (ws' := WC) hWCA (by exact ⟨rfl, rfl, Nat.le_of_ble_eq_true rfl, Nat.le_of_ble_eq_true rfl⟩) (by decide) (by decide) (wCal.ofI (m_X6_xNumerator l G 1000001 S D (A 0) (zI x) _ (by rw [h3, hv]; exact (k_coord P h1).1))) (fun _ _ _ _ => ⟨fun _ h => Or.inl h, hD⟩)
  · exact wt_xNumerator_B l G S D z (A 0) o cJ f (zI x) m0 k0 (ws' := WA) (fun _ h => h) (by exact ⟨rfl, rfl, Nat.le_of_ble_eq_true rfl, Nat.le_of_ble_eq_true rfl⟩) (by decide) (by decide) (tm_X6_xNumerator l hfl G 1000001 S D D (A 0) (zI x) _ (tp_xNumerator P hx h))
theorem op_xDenominator (l : Launch) (hfl : l.stackTraces = false) (G : cG) (Gm : mG) {S : CS} {D : CD} {z : Nat × Nat} {a0 o : Nat} {cJ : ClassId} {f : Nat → Int64} {M : MS} (hj : jP_ S D z a0 M) (hD : ∀ D : CD, va_D (fun _ => True) (cW G S D)) (p1 : Int32) :
    lRes l G Gm S D z a0 o cJ f M yL_xDenominator wL_xDenominator yX7_xDenominator vX7_xDenominator ({ frames := 2, cells := 0, slots := 0, locals := 43 }) [.ref a0, .int p1, .ref o] [.ref (mO Gm), .int p1] (fun b => b.toInt64) := by
  obtain ⟨x, hx, rfl⟩ := ex_z p1
  have hj0 := hj
  obtain ⟨n, g, root, r, c, lo, ou, hg, hn, hM, A, sg, w, rfl, hz, P⟩ := hj
  obtain ⟨m0, k0⟩ := P.1.1 0 (by decide) (by decide)
  refine op_q (B := inB x ((vI g n).1)) hj0 hD (c_xDenominator l Gm 1000001 M _ (zI x) _ (e_coord (F := 1000001) hx hM.2.2.1 (Nat.le_trans (EE_facts hg hn).1 (by decide))).2.1) (fun h => ?_) (fun h => ?_)
  · obtain ⟨v, h1, h2, h3⟩ := inB_nat h
    have hv : x.toNat = v := by rw [h2]; rfl
    exact wn_xDenominator l G S D z (A 0) o cJ f (zI x) m0 k0 (ws' := WC) hWCA (by exact ⟨rfl, rfl, Nat.le_of_ble_eq_true rfl, Nat.le_of_ble_eq_true rfl⟩) (by decide) (by decide) (wCal.ofI (m_X6_xDenominator l G 1000001 S D (A 0) (zI x) _ (by rw [h3, hv]; exact (k_coord P h1).2.1))) (fun _ _ _ _ => ⟨fun _ h => Or.inl h, hD⟩)
  · exact wt_xDenominator_B l G S D z (A 0) o cJ f (zI x) m0 k0 (ws' := WA) (fun _ h => h) (by exact ⟨rfl, rfl, Nat.le_of_ble_eq_true rfl, Nat.le_of_ble_eq_true rfl⟩) (by decide) (by decide) (tm_X6_xDenominator l hfl G 1000001 S D D (A 0) (zI x) _ (tp_xDenominator P hx h))
theorem op_yNumerator (l : Launch) (hfl : l.stackTraces = false) (G : cG) (Gm : mG) {S : CS} {D : CD} {z : Nat × Nat} {a0 o : Nat} {cJ : ClassId} {f : Nat → Int64} {M : MS} (hj : jP_ S D z a0 M) (hD : ∀ D : CD, va_D (fun _ => True) (cW G S D)) (p1 : Int32) :
    lRes l G Gm S D z a0 o cJ f M yL_yNumerator wL_yNumerator yX7_yNumerator vX7_yNumerator ({ frames := 2, cells := 0, slots := 0, locals := 43 }) [.ref a0, .int p1, .ref o] [.ref (mO Gm), .int p1] (fun b => b.toInt64) := by
  obtain ⟨x, hx, rfl⟩ := ex_z p1
  have hj0 := hj
  obtain ⟨n, g, root, r, c, lo, ou, hg, hn, hM, A, sg, w, rfl, hz, P⟩ := hj
  obtain ⟨m0, k0⟩ := P.1.1 0 (by decide) (by decide)
  refine op_q (B := inB x ((vI g n).1)) hj0 hD (c_yNumerator l Gm 1000001 M _ (zI x) _ (e_coord (F := 1000001) hx hM.2.2.1 (Nat.le_trans (EE_facts hg hn).1 (by decide))).2.2.1) (fun h => ?_) (fun h => ?_)
  · obtain ⟨v, h1, h2, h3⟩ := inB_nat h
    have hv : x.toNat = v := by rw [h2]; rfl
    exact wn_yNumerator l G S D z (A 0) o cJ f (zI x) m0 k0 (ws' := WC) hWCA (by exact ⟨rfl, rfl, Nat.le_of_ble_eq_true rfl, Nat.le_of_ble_eq_true rfl⟩) (by decide) (by decide) (wCal.ofI (m_X6_yNumerator l G 1000001 S D (A 0) (zI x) _ (by rw [h3, hv]; exact (k_coord P h1).2.2.1))) (fun _ _ _ _ => ⟨fun _ h => Or.inl h, hD⟩)
  · exact wt_yNumerator_B l G S D z (A 0) o cJ f (zI x) m0 k0 (ws' := WA) (fun _ h => h) (by exact ⟨rfl, rfl, Nat.le_of_ble_eq_true rfl, Nat.le_of_ble_eq_true rfl⟩) (by decide) (by decide) (tm_X6_yNumerator l hfl G 1000001 S D D (A 0) (zI x) _ (tp_yNumerator P hx h))
theorem op_yDenominator (l : Launch) (hfl : l.stackTraces = false) (G : cG) (Gm : mG) {S : CS} {D : CD} {z : Nat × Nat} {a0 o : Nat} {cJ : ClassId} {f : Nat → Int64} {M : MS} (hj : jP_ S D z a0 M) (hD : ∀ D : CD, va_D (fun _ => True) (cW G S D)) (p1 : Int32) :
    lRes l G Gm S D z a0 o cJ f M yL_yDenominator wL_yDenominator yX7_yDenominator vX7_yDenominator ({ frames := 2, cells := 0, slots := 0, locals := 43 }) [.ref a0, .int p1, .ref o] [.ref (mO Gm), .int p1] (fun b => b.toInt64) := by
  obtain ⟨x, hx, rfl⟩ := ex_z p1
  have hj0 := hj
  obtain ⟨n, g, root, r, c, lo, ou, hg, hn, hM, A, sg, w, rfl, hz, P⟩ := hj
  obtain ⟨m0, k0⟩ := P.1.1 0 (by decide) (by decide)
  refine op_q (B := inB x ((vI g n).1)) hj0 hD (c_yDenominator l Gm 1000001 M _ (zI x) _ (e_coord (F := 1000001) hx hM.2.2.1 (Nat.le_trans (EE_facts hg hn).1 (by decide))).2.2.2) (fun h => ?_) (fun h => ?_)
  · obtain ⟨v, h1, h2, h3⟩ := inB_nat h
    have hv : x.toNat = v := by rw [h2]; rfl
    exact wn_yDenominator l G S D z (A 0) o cJ f (zI x) m0 k0 (ws' := WC) hWCA (by exact ⟨rfl, rfl, Nat.le_of_ble_eq_true rfl, Nat.le_of_ble_eq_true rfl⟩) (by decide) (by decide) (wCal.ofI (m_X6_yDenominator l G 1000001 S D (A 0) (zI x) _ (by rw [h3, hv]; exact (k_coord P h1).2.2.2))) (fun _ _ _ _ => ⟨fun _ h => Or.inl h, hD⟩)
  · exact wt_yDenominator_B l G S D z (A 0) o cJ f (zI x) m0 k0 (ws' := WA) (fun _ h => h) (by exact ⟨rfl, rfl, Nat.le_of_ble_eq_true rfl, Nat.le_of_ble_eq_true rfl⟩) (by decide) (by decide) (tm_X6_yDenominator l hfl G 1000001 S D D (A 0) (zI x) _ (tp_yDenominator P hx h))
theorem op_degree (l : Launch) (hfl : l.stackTraces = false) (G : cG) (Gm : mG) {S : CS} {D : CD} {z : Nat × Nat} {a0 o : Nat} {cJ : ClassId} {f : Nat → Int64} {M : MS} (hj : jP_ S D z a0 M) (hD : ∀ D : CD, va_D (fun _ => True) (cW G S D)) (p1 : Int32) :
    lRes l G Gm S D z a0 o cJ f M yL_degree wL_degree yX7_degree vX7_degree ({ frames := 2, cells := 0, slots := 0, locals := 43 }) [.ref a0, .int p1, .ref o] [.ref (mO Gm), .int p1] (fun b => b.toInt64) := by
  obtain ⟨x, hx, rfl⟩ := ex_z p1
  have hj0 := hj
  obtain ⟨n, g, root, r, c, lo, ou, hg, hn, hM, A, sg, w, rfl, hz, P⟩ := hj
  obtain ⟨m0, k0⟩ := P.1.1 0 (by decide) (by decide)
  refine op_q (B := inB x ((vI g n).1)) hj0 hD (c_degree l Gm 1000001 M _ (zI x) _ (e_degree (F := 1000001) hx (Nat.le_of_ble_eq_true rfl) hM.2.2.2.1 (Nat.le_trans (EE_facts hg hn).2.1 (by decide)) (EE_facts hg hn).2.2.2.1 (Nat.le_trans (EE_facts hg hn).1 (by decide)) hM.2.2.1)) (fun h => ?_) (fun h => ?_)
  · obtain ⟨v, h1, h2, h3⟩ := inB_nat h
    have hv : x.toNat = v := by rw [h2]; rfl
    exact wn_degree l G S D z (A 0) o cJ f (zI x) m0 k0 (ws' := WC) hWCA (by exact ⟨rfl, rfl, Nat.le_of_ble_eq_true rfl, Nat.le_of_ble_eq_true rfl⟩) (by decide) (by decide) (wCal.ofI (m_X6_degree l G 1000001 S D (A 0) (zI x) _ (by rw [h3, hv]; exact (by rw [← atC_eq _ (EE_facts hg hn).2.2.2.2.2.1]; exact k_degree P h1)))) (fun _ _ _ _ => ⟨fun _ h => Or.inl h, hD⟩)
  · exact wt_degree_B l G S D z (A 0) o cJ f (zI x) m0 k0 (ws' := WA) (fun _ h => h) (by exact ⟨rfl, rfl, Nat.le_of_ble_eq_true rfl, Nat.le_of_ble_eq_true rfl⟩) (by decide) (by decide) (tm_X6_degree l hfl G 1000001 S D D (A 0) (zI x) _ (tp_degree P hx h))
theorem op_segmentOf (l : Launch) (hfl : l.stackTraces = false) (G : cG) (Gm : mG) {S : CS} {D : CD} {z : Nat × Nat} {a0 o : Nat} {cJ : ClassId} {f : Nat → Int64} {M : MS} (hj : jP_ S D z a0 M) (hD : ∀ D : CD, va_D (fun _ => True) (cW G S D)) (p1 : Int32) :
    lRes l G Gm S D z a0 o cJ f M yL_segmentOf wL_segmentOf yX7_segmentOf vX7_segmentOf ({ frames := 2, cells := 0, slots := 0, locals := 43 }) [.ref a0, .int p1, .ref o] [.ref (mO Gm), .int p1] (fun b => b.toInt64) := by
  obtain ⟨x, hx, rfl⟩ := ex_z p1
  have hj0 := hj
  obtain ⟨n, g, root, r, c, lo, ou, hg, hn, hM, A, sg, w, rfl, hz, P⟩ := hj
  obtain ⟨m0, k0⟩ := P.1.1 0 (by decide) (by decide)
  refine op_q (B := inB x ((EE g n).1)) hj0 hD (c_segmentOf l Gm 1000001 M _ (zI x) _ (e_ends (F := 1000001) hx hM.2.2.2.1 (Nat.le_trans (EE_facts hg hn).2.1 (by decide))).1) (fun h => ?_) (fun h => ?_)
  · obtain ⟨v, h1, h2, h3⟩ := inB_nat h
    have hv : x.toNat = v := by rw [h2]; rfl
    exact wn_segmentOf l G S D z (A 0) o cJ f (zI x) m0 k0 (ws' := WC) hWCA (by exact ⟨rfl, rfl, Nat.le_of_ble_eq_true rfl, Nat.le_of_ble_eq_true rfl⟩) (by decide) (by decide) (wCal.ofI (m_X6_segmentOf l G 1000001 S D (A 0) (zI x) _ (by rw [h3, hv]; exact (k_ends P h1).1))) (fun _ _ _ _ => ⟨fun _ h => Or.inl h, hD⟩)
  · exact wt_segmentOf_B l G S D z (A 0) o cJ f (zI x) m0 k0 (ws' := WA) (fun _ h => h) (by exact ⟨rfl, rfl, Nat.le_of_ble_eq_true rfl, Nat.le_of_ble_eq_true rfl⟩) (by decide) (by decide) (tm_X6_segmentOf l hfl G 1000001 S D D (A 0) (zI x) _ (tp_segmentOf P hx h))
theorem op_from (l : Launch) (hfl : l.stackTraces = false) (G : cG) (Gm : mG) {S : CS} {D : CD} {z : Nat × Nat} {a0 o : Nat} {cJ : ClassId} {f : Nat → Int64} {M : MS} (hj : jP_ S D z a0 M) (hD : ∀ D : CD, va_D (fun _ => True) (cW G S D)) (p1 : Int32) :
    lRes l G Gm S D z a0 o cJ f M yL_from wL_from yX7_from vX7_from ({ frames := 2, cells := 0, slots := 0, locals := 43 }) [.ref a0, .int p1, .ref o] [.ref (mO Gm), .int p1] (fun b => b.toInt64) := by
  obtain ⟨x, hx, rfl⟩ := ex_z p1
  have hj0 := hj
  obtain ⟨n, g, root, r, c, lo, ou, hg, hn, hM, A, sg, w, rfl, hz, P⟩ := hj
  obtain ⟨m0, k0⟩ := P.1.1 0 (by decide) (by decide)
  refine op_q (B := inB x ((EE g n).1)) hj0 hD (c_from l Gm 1000001 M _ (zI x) _ (e_ends (F := 1000001) hx hM.2.2.2.1 (Nat.le_trans (EE_facts hg hn).2.1 (by decide))).2.1) (fun h => ?_) (fun h => ?_)
  · obtain ⟨v, h1, h2, h3⟩ := inB_nat h
    have hv : x.toNat = v := by rw [h2]; rfl
    exact wn_from l G S D z (A 0) o cJ f (zI x) m0 k0 (ws' := WC) hWCA (by exact ⟨rfl, rfl, Nat.le_of_ble_eq_true rfl, Nat.le_of_ble_eq_true rfl⟩) (by decide) (by decide) (wCal.ofI (m_X6_from l G 1000001 S D (A 0) (zI x) _ (by rw [h3, hv]; exact (k_ends P h1).2.1))) (fun _ _ _ _ => ⟨fun _ h => Or.inl h, hD⟩)
  · exact wt_from_B l G S D z (A 0) o cJ f (zI x) m0 k0 (ws' := WA) (fun _ h => h) (by exact ⟨rfl, rfl, Nat.le_of_ble_eq_true rfl, Nat.le_of_ble_eq_true rfl⟩) (by decide) (by decide) (tm_X6_from l hfl G 1000001 S D D (A 0) (zI x) _ (tp_from P hx h))
theorem op_to (l : Launch) (hfl : l.stackTraces = false) (G : cG) (Gm : mG) {S : CS} {D : CD} {z : Nat × Nat} {a0 o : Nat} {cJ : ClassId} {f : Nat → Int64} {M : MS} (hj : jP_ S D z a0 M) (hD : ∀ D : CD, va_D (fun _ => True) (cW G S D)) (p1 : Int32) :
    lRes l G Gm S D z a0 o cJ f M yL_to wL_to yX7_to vX7_to ({ frames := 2, cells := 0, slots := 0, locals := 43 }) [.ref a0, .int p1, .ref o] [.ref (mO Gm), .int p1] (fun b => b.toInt64) := by
  obtain ⟨x, hx, rfl⟩ := ex_z p1
  have hj0 := hj
  obtain ⟨n, g, root, r, c, lo, ou, hg, hn, hM, A, sg, w, rfl, hz, P⟩ := hj
  obtain ⟨m0, k0⟩ := P.1.1 0 (by decide) (by decide)
  refine op_q (B := inB x ((EE g n).1)) hj0 hD (c_to l Gm 1000001 M _ (zI x) _ (e_ends (F := 1000001) hx hM.2.2.2.1 (Nat.le_trans (EE_facts hg hn).2.1 (by decide))).2.2) (fun h => ?_) (fun h => ?_)
  · obtain ⟨v, h1, h2, h3⟩ := inB_nat h
    have hv : x.toNat = v := by rw [h2]; rfl
    exact wn_to l G S D z (A 0) o cJ f (zI x) m0 k0 (ws' := WC) hWCA (by exact ⟨rfl, rfl, Nat.le_of_ble_eq_true rfl, Nat.le_of_ble_eq_true rfl⟩) (by decide) (by decide) (wCal.ofI (m_X6_to l G 1000001 S D (A 0) (zI x) _ (by rw [h3, hv]; exact (k_ends P h1).2.2))) (fun _ _ _ _ => ⟨fun _ h => Or.inl h, hD⟩)
  · exact wt_to_B l G S D z (A 0) o cJ f (zI x) m0 k0 (ws' := WA) (fun _ h => h) (by exact ⟨rfl, rfl, Nat.le_of_ble_eq_true rfl, Nat.le_of_ble_eq_true rfl⟩) (by decide) (by decide) (tm_X6_to l hfl G 1000001 S D D (A 0) (zI x) _ (tp_to P hx h))
theorem op_leftOf (l : Launch) (hfl : l.stackTraces = false) (G : cG) (Gm : mG) {S : CS} {D : CD} {z : Nat × Nat} {a0 o : Nat} {cJ : ClassId} {f : Nat → Int64} {M : MS} (hj : jP_ S D z a0 M) (hD : ∀ D : CD, va_D (fun _ => True) (cW G S D)) (p1 : Int32) :
    lRes l G Gm S D z a0 o cJ f M yL_leftOf wL_leftOf yX7_leftOf vX7_leftOf ({ frames := 2, cells := 0, slots := 0, locals := 43 }) [.ref a0, .int p1, .ref o] [.ref (mO Gm), .int p1] (fun b => b.toInt64) := by
  obtain ⟨x, hx, rfl⟩ := ex_z p1
  have hj0 := hj
  obtain ⟨n, g, root, r, c, lo, ou, hg, hn, hM, A, sg, w, rfl, hz, P⟩ := hj
  obtain ⟨m0, k0⟩ := P.1.1 0 (by decide) (by decide)
  refine op_q (B := inB x ((EE g n).1)) hj0 hD (c_leftOf l Gm 1000001 M _ (zI x) _ (e_lr (F := 1000001) hx hM.2.2.2.1 (Nat.le_trans (EE_facts hg hn).2.1 (by decide)) (mx_rd hM hg hn) (fun s hs => (mx_fo hM hg hn s hs).1)).1) (fun h => ?_) (fun h => ?_)
  · obtain ⟨v, h1, h2, h3⟩ := inB_nat h
    have hv : x.toNat = v := by rw [h2]; rfl
    exact wn_leftOf l G S D z (A 0) o cJ f (zI x) m0 k0 (ws' := WC) hWCA (by exact ⟨rfl, rfl, Nat.le_of_ble_eq_true rfl, Nat.le_of_ble_eq_true rfl⟩) (by decide) (by decide) (wCal.ofI (m_X6_leftOf l G 1000001 S D (A 0) (zI x) _ (by rw [h3, hv]; exact (k_lr P h1).1))) (fun _ _ _ _ => ⟨fun _ h => Or.inl h, hD⟩)
  · exact wt_leftOf_B l G S D z (A 0) o cJ f (zI x) m0 k0 (ws' := WA) (fun _ h => h) (by exact ⟨rfl, rfl, Nat.le_of_ble_eq_true rfl, Nat.le_of_ble_eq_true rfl⟩) (by decide) (by decide) (tm_X6_leftOf l hfl G 1000001 S D D (A 0) (zI x) _ (tp_leftOf P hx h))
theorem op_rightOf (l : Launch) (hfl : l.stackTraces = false) (G : cG) (Gm : mG) {S : CS} {D : CD} {z : Nat × Nat} {a0 o : Nat} {cJ : ClassId} {f : Nat → Int64} {M : MS} (hj : jP_ S D z a0 M) (hD : ∀ D : CD, va_D (fun _ => True) (cW G S D)) (p1 : Int32) :
    lRes l G Gm S D z a0 o cJ f M yL_rightOf wL_rightOf yX7_rightOf vX7_rightOf ({ frames := 2, cells := 0, slots := 0, locals := 43 }) [.ref a0, .int p1, .ref o] [.ref (mO Gm), .int p1] (fun b => b.toInt64) := by
  obtain ⟨x, hx, rfl⟩ := ex_z p1
  have hj0 := hj
  obtain ⟨n, g, root, r, c, lo, ou, hg, hn, hM, A, sg, w, rfl, hz, P⟩ := hj
  obtain ⟨m0, k0⟩ := P.1.1 0 (by decide) (by decide)
  refine op_q (B := inB x ((EE g n).1)) hj0 hD (c_rightOf l Gm 1000001 M _ (zI x) _ (e_lr (F := 1000001) hx hM.2.2.2.1 (Nat.le_trans (EE_facts hg hn).2.1 (by decide)) (mx_rd hM hg hn) (fun s hs => (mx_fo hM hg hn s hs).1)).2) (fun h => ?_) (fun h => ?_)
  · obtain ⟨v, h1, h2, h3⟩ := inB_nat h
    have hv : x.toNat = v := by rw [h2]; rfl
    exact wn_rightOf l G S D z (A 0) o cJ f (zI x) m0 k0 (ws' := WC) hWCA (by exact ⟨rfl, rfl, Nat.le_of_ble_eq_true rfl, Nat.le_of_ble_eq_true rfl⟩) (by decide) (by decide) (wCal.ofI (m_X6_rightOf l G 1000001 S D (A 0) (zI x) _ (by rw [h3, hv]; exact (k_lr P h1).2))) (fun _ _ _ _ => ⟨fun _ h => Or.inl h, hD⟩)
  · exact wt_rightOf_B l G S D z (A 0) o cJ f (zI x) m0 k0 (ws' := WA) (fun _ h => h) (by exact ⟨rfl, rfl, Nat.le_of_ble_eq_true rfl, Nat.le_of_ble_eq_true rfl⟩) (by decide) (by decide) (tm_X6_rightOf l hfl G 1000001 S D D (A 0) (zI x) _ (tp_rightOf P hx h))
theorem op_sides (l : Launch) (hfl : l.stackTraces = false) (G : cG) (Gm : mG) {S : CS} {D : CD} {z : Nat × Nat} {a0 o : Nat} {cJ : ClassId} {f : Nat → Int64} {M : MS} (hj : jP_ S D z a0 M) (hD : ∀ D : CD, va_D (fun _ => True) (cW G S D)) (p1 : Int32) :
    lRes l G Gm S D z a0 o cJ f M yL_sides wL_sides yX7_sides vX7_sides ({ frames := 2, cells := 0, slots := 0, locals := 43 }) [.ref a0, .int p1, .ref o] [.ref (mO Gm), .int p1] (fun b => b.toInt64) := by
  obtain ⟨x, hx, rfl⟩ := ex_z p1
  have hj0 := hj
  obtain ⟨n, g, root, r, c, lo, ou, hg, hn, hM, A, sg, w, rfl, hz, P⟩ := hj
  obtain ⟨m0, k0⟩ := P.1.1 0 (by decide) (by decide)
  refine op_q (B := inB x (nFc n g root (fun s => (r s).getD 0) c)) hj0 hD (c_sides l Gm 1000001 M _ (zI x) _ (e_sides (F := 1000001) hx (Nat.le_of_ble_eq_true rfl) hM.2.2.2.1 (Nat.le_trans (EE_facts hg hn).2.1 (by decide)) (mx_rd hM hg hn) (mx_fo hM hg hn) (mx_21 hM) (show nFc n g root (fun s => (r s).getD 0) c < 2147483648 from Nat.lt_of_le_of_lt (nFc_le P) (by decide)))) (fun h => ?_) (fun h => ?_)
  · obtain ⟨v, h1, h2, h3⟩ := inB_nat h
    have hv : x.toNat = v := by rw [h2]; rfl
    exact wn_sides l G S D z (A 0) o cJ f (zI x) m0 k0 (ws' := WC) hWCA (by exact ⟨rfl, rfl, Nat.le_of_ble_eq_true rfl, Nat.le_of_ble_eq_true rfl⟩) (by decide) (by decide) (wCal.ofI (m_X6_sides l G 1000001 S D (A 0) (zI x) _ (by rw [h3, hv]; exact k_sides P h1))) (fun _ _ _ _ => ⟨fun _ h => Or.inl h, hD⟩)
  · exact wt_sides_B l G S D z (A 0) o cJ f (zI x) m0 k0 (ws' := WA) (fun _ h => h) (by exact ⟨rfl, rfl, Nat.le_of_ble_eq_true rfl, Nat.le_of_ble_eq_true rfl⟩) (by decide) (by decide) (tm_X6_sides l hfl G 1000001 S D D (A 0) (zI x) _ (tp_sides P hx h))
theorem op_firstVertex (l : Launch) (hfl : l.stackTraces = false) (G : cG) (Gm : mG) {S : CS} {D : CD} {z : Nat × Nat} {a0 o : Nat} {cJ : ClassId} {f : Nat → Int64} {M : MS} (hj : jP_ S D z a0 M) (hD : ∀ D : CD, va_D (fun _ => True) (cW G S D)) (p1 : Int32) :
    lRes l G Gm S D z a0 o cJ f M yL_firstVertex wL_firstVertex yX7_firstVertex vX7_firstVertex ({ frames := 2, cells := 0, slots := 0, locals := 43 }) [.ref a0, .int p1, .ref o] [.ref (mO Gm), .int p1] (fun b => b.toInt64) := by
  obtain ⟨x, hx, rfl⟩ := ex_z p1
  have hj0 := hj
  obtain ⟨n, g, root, r, c, lo, ou, hg, hn, hM, A, sg, w, rfl, hz, P⟩ := hj
  obtain ⟨m0, k0⟩ := P.1.1 0 (by decide) (by decide)
  refine op_q (B := inB x (nFc n g root (fun s => (r s).getD 0) c)) hj0 hD (c_firstVertex l Gm 1000001 M _ (zI x) _ (e_firstVertex (F := 1000001) hx (Nat.le_of_ble_eq_true rfl) (Nat.lt_of_le_of_lt (mx_c hM hg hn) (by decide)) hM.2.2.2.2.2.2.2.2.2.2.2.1 hM.2.2.2.2.2.2.2.2.2.2.2.2.2.1 (mx_fw hM hg hn) (fun w hw => (hM.2.2.2.2.2.2.2.2.2.2.2.2.1 w hw).1) (mx_21 hM) (show nFc n g root (fun s => (r s).getD 0) c < 2147483648 from Nat.lt_of_le_of_lt (nFc_le P) (by decide)))) (fun h => ?_) (fun h => ?_)
  · obtain ⟨v, h1, h2, h3⟩ := inB_nat h
    have hv : x.toNat = v := by rw [h2]; rfl
    exact wn_firstVertex l G S D z (A 0) o cJ f (zI x) m0 k0 (ws' := WC) hWCA (by exact ⟨rfl, rfl, Nat.le_of_ble_eq_true rfl, Nat.le_of_ble_eq_true rfl⟩) (by decide) (by decide) (wCal.ofI (m_X6_firstVertex l G 1000001 S D (A 0) (zI x) _ (by rw [h3, hv]; exact k_firstVertex P h1))) (fun _ _ _ _ => ⟨fun _ h => Or.inl h, hD⟩)
  · exact wt_firstVertex_B l G S D z (A 0) o cJ f (zI x) m0 k0 (ws' := WA) (fun _ h => h) (by exact ⟨rfl, rfl, Nat.le_of_ble_eq_true rfl, Nat.le_of_ble_eq_true rfl⟩) (by decide) (by decide) (tm_X6_firstVertex l hfl G 1000001 S D D (A 0) (zI x) _ (tp_firstVertex P hx h))
