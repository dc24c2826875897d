/-! The law's loop. -/
theorem dlw_0 : decode code 0 = .ok (.new 8, 3) := by decide +kernel
theorem dlw_3 : decode code 3 = .ok (.dup, 1) := by decide +kernel
theorem dlw_4 : decode code 4 = .ok (.invokespecial 73, 3) := by decide +kernel
theorem dlw_7 : decode code 7 = .ok (.astore_n 1, 1) := by decide +kernel
theorem dlw_8 : decode code 8 = .ok (.new 74, 3) := by decide +kernel
theorem dlw_11 : decode code 11 = .ok (.dup, 1) := by decide +kernel
theorem dlw_12 : decode code 12 = .ok (.invokespecial 76, 3) := by decide +kernel
theorem dlw_15 : decode code 15 = .ok (.astore_n 2, 1) := by decide +kernel
theorem dlw_16 : decode code 16 = .ok (.iconst 1, 1) := by decide +kernel
theorem dlw_17 : decode code 17 = .ok (.newarray .long, 2) := by decide +kernel
theorem dlw_19 : decode code 19 = .ok (.astore_n 3, 1) := by decide +kernel
theorem dlw_20 : decode code 20 = .ok (.iconst 0, 1) := by decide +kernel
theorem dlw_21 : decode code 21 = .ok (.istore 4, 2) := by decide +kernel
theorem dlw_23 : decode code 23 = .ok (.iload 4, 2) := by decide +kernel
theorem dlw_25 : decode code 25 = .ok (.aload_n 0, 1) := by decide +kernel
theorem dlw_26 : decode code 26 = .ok (.arraylength, 1) := by decide +kernel
theorem dlw_27 : decode code 27 = .ok (.iconst 5, 1) := by decide +kernel
theorem dlw_28 : decode code 28 = .ok (.isub, 1) := by decide +kernel
theorem dlw_29 : decode code 29 = .ok (.if_icmp .gt 1273, 3) := by decide +kernel
theorem dlw_32 : decode code 32 = .ok (.aload_n 0, 1) := by decide +kernel
theorem dlw_33 : decode code 33 = .ok (.iload 4, 2) := by decide +kernel
theorem dlw_35 : decode code 35 = .ok (.iaload, 1) := by decide +kernel
theorem dlw_36 : decode code 36 = .ok (.bipush 31, 2) := by decide +kernel
theorem dlw_38 : decode code 38 = .ok (.iand, 1) := by decide +kernel
theorem dlw_39 : decode code 39 = .ok (.tableswitch (1257) 0 22 #[105, 197, 253, 266, 341, 354, 367, 380, 393, 449, 505, 561, 617, 673, 729, 785, 841, 897, 953, 1009, 1065, 1133, 1189], 105) := by decide +kernel
theorem dlw_1296 : decode code 1296 = .ok (.iinc 4 5, 3) := by decide +kernel
theorem dlw_1299 : decode code 1299 = .ok (.goto (-1276), 3) := by decide +kernel
theorem dlw_1302 : decode code 1302 = .ok (.iconst 1, 1) := by decide +kernel
theorem dlw_1303 : decode code 1303 = .ok (.ireturn, 1) := by decide +kernel
theorem jP_.at {S : CS} {D : CD} {z : Nat × Nat} {a0 : Nat} {M : MS} (h : jP_ S D z a0 M) : a0 ∈ S.1 ∧ S.2.1 a0 = 6 := by
  obtain ⟨n, g, root, r, c, lo, ou, hg, hn, hM, A, sg, w, rfl, hz, P⟩ := h
  exact P.1.1 0 (by decide) (by decide)
set_option maxHeartbeats 4000000 in
set_option maxRecDepth 100000 in
theorem law_loop {p : Program} {e : Env} {s : State} {m : MethodId} {below : List Frame} {meth : Method} {c : Code} (l : Launch) (hfl : l.stackTraces = false) {b L : Nat} {xs : Nat → Int32} (hL : L ≤ 2560) (C0 : lw_At p s m meth c b L xs) {G : cG} {Gm : mG} {z : Nat × Nat} {a0 o : Nat} {cJ : ClassId} (hF : lF_ G Gm cJ z s) :
    ∀ (n i : Nat), i ≤ L → L + 1 ≤ i + n → ∀ (x4 : Int32) (S : CS) (D : CD) (M : MS) (f : Nat → Int64) (H : Heap) (locs : List Loc) (ls : Array Slot), x4 = nI i → jP_ S D z a0 M → lI_ G Gm o cJ s S D M f H → va_S (fun q : Nat => s.heap.size ≤ q) s.heap H locs → lv_has ls 7 [(0, .ref b), (1, .ref a0), (2, .ref (mO Gm)), (3, .ref o), (4, .int x4)] → W p l e room_1 s m #[Value.ref b] below meth c H locs (1000 + 2 * i) (10000 + 21 * i) (lw_Z below #[Value.ref b] s) (F0 m 23 ls []) := by
  intro n
  induction n with
  | zero => intro i h1 h2; exact absurd h2 (by omega)
  | succ n ih =>
    intro i hi hin x4 S D M f H locs ls ex4 hj hI hS hl
    have C1 := C0
    obtain ⟨hx, hb, hr, hml, hown, hts, hX, hbl, hlocks, hgv⟩ := C1
    have hbA : ¬ (fun q : Nat => s.heap.size ≤ q) b := Nat.not_le.mpr hbl
    have tail : ∀ (S2 : CS) (D2 : CD) (M2 : MS) (f2 : Nat → Int64) (H1 : Heap) (locs1 : List Loc) (ls1 : Array Slot), i + 5 ≤ L → jP_ S2 D2 z a0 M2 → lI_ G Gm o cJ s S2 D2 M2 f2 H1 → va_S (fun q : Nat => s.heap.size ≤ q) s.heap H1 locs1 → lv_has ls1 7 [(0, .ref b), (1, .ref a0), (2, .ref (mO Gm)), (3, .ref o), (4, .int x4)] → W p l e room_1 s m #[Value.ref b] below meth c H1 locs1 (1000 + 2 * i + 2) (10000 + 21 * i + 21) (lw_Z below #[Value.ref b] s) (F0 m 1296 ls1 []) := by
      intro S2 D2 M2 f2 H1 locs1 ls1 h5 hj1 hI1 hS1 hl1
      refine lv_iinc (v := x4 + 5) (lv' := [(4, .int (x4 + 5)), (0, .ref b), (1, .ref a0), (2, .ref (mO Gm)), (3, .ref o)]) hx hb dlw_1296 hl1 (k := 4) rfl rfl (by decide) rfl (fun ls hl => ?_)
      refine lv_goto (tgt := 23) hx hb dlw_1299 (by decide) ?_
      refine W.widen (k := 1000 + 2 * (i + 5)) (n := 10000 + 21 * (i + 5)) (by omega) (by omega) ?_
      exact ih (i + 5) h5 (by omega) (x4 + 5) S2 D2 M2 f2 H1 locs1 ls (by rw [ex4]; exact nI_add i 5) hj1 hI1 hS1 (lv_sub hl [1, 2, 3, 4, 0] rfl)
    refine lv_iload hx hb dlw_23 (lv_at hl 4 rfl) ?_
    refine lv_aload_n hx hb dlw_25 rfl (lv_at hl 0 rfl) ?_
    refine va_slen hx hb hX hbl hbA hS dlw_26 ?_
    refine lv_iconst (v := 5) hx hb dlw_27 (by decide) ?_
    refine lv_isub hx hb dlw_28 ?_
    refine lv_icmp_gt (tgt := 1302) hx hb dlw_29 (by decide) (fun cg => ?_) (fun cg => ?_)
    · refine lv_iconst (v := 1) hx hb dlw_1302 (by decide) ?_
      refine va_forget (fun q hq => hS.2.2 q hq) ?_
      refine W.widen (k := 601024) (n := 7293034) (by omega) (by omega) ?_
      exact lw_ret hx hb hr hlocks dlw_1303
    · have h5 : i + 5 ≤ L := by
        refine Classical.byContradiction fun hno => cg ?_
        have e1 : Int32.ofNat L - 5 = zI ((L : Int) - 5) := by
          rw [show Int32.ofNat L = zI L from nI_zI L, show (5 : Int32) = zI 5 from rfl, zI_sub]
        rw [e1, ex4, nI_zI]
        exact (zI_lt ⟨by omega, by omega⟩ ⟨by omega, by omega⟩).mpr (by omega)
      refine lv_aload_n hx hb dlw_32 rfl (lv_at hl 0 rfl) ?_
      refine lv_iload hx hb dlw_33 (lv_at hl 4 rfl) ?_
      refine va_sld hx hb hX hbl hbA hS (by rw [ex4]; exact vp_in_nI (by omega) (by omega)) dlw_35 ?_
      refine lv_bipush (v := 31) hx hb dlw_36 (by decide) ?_
      refine lv_iand hx hb dlw_38 ?_
      generalize xs x4.toNatClampNeg &&& 31 = v
      have hce : 1000 + 2 * i + 2 ≤ 601024 := by omega
      have hsl : 10000 + 21 * i + 21 ≤ 7293034 := by omega
      by_cases hout : v.toInt < 0 ∨ 22 < v.toInt
      · refine lv_tableOut (tgt := 1296) hx hb dlw_39 hout (by decide) ?_
        exact W.widen (Nat.le_add_right _ _) (Nat.le_add_right _ _) (tail S D M f H locs ls h5 hj hI hS hl)
      · have h0 : ¬ v.toInt < 0 := fun h => hout (Or.inl h)
        have h22 : ¬ 22 < v.toInt := fun h => hout (Or.inr h)
        have hD := hI.all
        obtain ⟨m0, k0⟩ := hj.at
        have hk : v.toInt = 0 ∨ v.toInt = 1 ∨ v.toInt = 2 ∨ v.toInt = 3 ∨ v.toInt = 4 ∨ v.toInt = 5 ∨ v.toInt = 6 ∨ v.toInt = 7 ∨ v.toInt = 8 ∨ v.toInt = 9 ∨ v.toInt = 10 ∨ v.toInt = 11 ∨ v.toInt = 12 ∨ v.toInt = 13 ∨ v.toInt = 14 ∨ v.toInt = 15 ∨ v.toInt = 16 ∨ v.toInt = 17 ∨ v.toInt = 18 ∨ v.toInt = 19 ∨ v.toInt = 20 ∨ v.toInt = 21 ∨ v.toInt = 22 := by omega
        rcases hk with h | h | h | h | h | h | h | h | h | h | h | h | h | h | h | h | h | h | h | h | h | h | h
        · refine lv_tableIn (off := 105) (tgt := 144) hx hb dlw_39 h0 h22 (by rw [h]; rfl) (by decide) ?_
          exact lc_add C0 hF hI hS hL h5 ex4 hl (by exact ⟨rfl, rfl, Nat.le_of_ble_eq_true rfl, Nat.le_of_ble_eq_true rfl⟩) (op_add l G Gm hfl hj hD _ _ _ _) hce hsl (fun S2 D2 M2 f2 H1 locs1 ls1 a1 a2 a3 a4 => tail S2 D2 M2 f2 H1 locs1 ls1 h5 a1 a2 a3 a4)
        · refine lv_tableIn (off := 197) (tgt := 236) hx hb dlw_39 h0 h22 (by rw [h]; rfl) (by decide) ?_
          exact lc_remove C0 hF hI hS hL h5 ex4 hl (by exact ⟨rfl, rfl, Nat.le_of_ble_eq_true rfl, Nat.le_of_ble_eq_true rfl⟩) (op_remove l G Gm hfl hj hD _) hce hsl (fun S2 D2 M2 f2 H1 locs1 ls1 a1 a2 a3 a4 => tail S2 D2 M2 f2 H1 locs1 ls1 h5 a1 a2 a3 a4)
        · refine lv_tableIn (off := 253) (tgt := 292) hx hb dlw_39 h0 h22 (by rw [h]; rfl) (by decide) ?_
          exact lc_segments C0 hF hI hS hL h5 ex4 hl m0 k0 (by exact ⟨rfl, rfl, Nat.le_of_ble_eq_true rfl, Nat.le_of_ble_eq_true rfl, rfl, rfl, Nat.le_of_ble_eq_true rfl, Nat.le_of_ble_eq_true rfl⟩) (op_segments hj) (Nat.le_trans (Nat.le_add_right _ _) hce) (Nat.le_trans (Nat.le_add_right _ _) hsl) (fun M2 H1 locs1 a1 a2 a3 => W.widen (Nat.le_add_right _ _) (Nat.le_add_right _ _) (tail S D M2 f H1 locs1 ls h5 a1 a2 a3 hl))
        · refine lv_tableIn (off := 266) (tgt := 305) hx hb dlw_39 h0 h22 (by rw [h]; rfl) (by decide) ?_
          exact lc_meet C0 hF hI hS hL h5 ex4 hl (by exact ⟨rfl, rfl, Nat.le_of_ble_eq_true rfl, Nat.le_of_ble_eq_true rfl⟩) (op_meet l G Gm hfl hj hD _ _) hce hsl (fun S2 D2 M2 f2 H1 locs1 ls1 a1 a2 a3 a4 => tail S2 D2 M2 f2 H1 locs1 ls1 h5 a1 a2 a3 a4)
        · refine lv_tableIn (off := 341) (tgt := 380) hx hb dlw_39 h0 h22 (by rw [h]; rfl) (by decide) ?_
          exact lc_vertices C0 hF hI hS hL h5 ex4 hl m0 k0 (by exact ⟨rfl, rfl, Nat.le_of_ble_eq_true rfl, Nat.le_of_ble_eq_true rfl, rfl, rfl, Nat.le_of_ble_eq_true rfl, Nat.le_of_ble_eq_true rfl⟩) (op_vertices hj) (Nat.le_trans (Nat.le_add_right _ _) hce) (Nat.le_trans (Nat.le_add_right _ _) hsl) (fun M2 H1 locs1 a1 a2 a3 => W.widen (Nat.le_add_right _ _) (Nat.le_add_right _ _) (tail S D M2 f H1 locs1 ls h5 a1 a2 a3 hl))
        · refine lv_tableIn (off := 354) (tgt := 393) hx hb dlw_39 h0 h22 (by rw [h]; rfl) (by decide) ?_
          exact lc_edges C0 hF hI hS hL h5 ex4 hl m0 k0 (by exact ⟨rfl, rfl, Nat.le_of_ble_eq_true rfl, Nat.le_of_ble_eq_true rfl, rfl, rfl, Nat.le_of_ble_eq_true rfl, Nat.le_of_ble_eq_true rfl⟩) (op_edges hj) (Nat.le_trans (Nat.le_add_right _ _) hce) (Nat.le_trans (Nat.le_add_right _ _) hsl) (fun M2 H1 locs1 a1 a2 a3 => W.widen (Nat.le_add_right _ _) (Nat.le_add_right _ _) (tail S D M2 f H1 locs1 ls h5 a1 a2 a3 hl))
        · refine lv_tableIn (off := 367) (tgt := 406) hx hb dlw_39 h0 h22 (by rw [h]; rfl) (by decide) ?_
          exact lc_faces C0 hF hI hS hL h5 ex4 hl m0 k0 (by exact ⟨rfl, rfl, Nat.le_of_ble_eq_true rfl, Nat.le_of_ble_eq_true rfl, rfl, rfl, Nat.le_of_ble_eq_true rfl, Nat.le_of_ble_eq_true rfl⟩) (op_faces hj) (Nat.le_trans (Nat.le_add_right _ _) hce) (Nat.le_trans (Nat.le_add_right _ _) hsl) (fun M2 H1 locs1 a1 a2 a3 => W.widen (Nat.le_add_right _ _) (Nat.le_add_right _ _) (tail S D M2 f H1 locs1 ls h5 a1 a2 a3 hl))
        · refine lv_tableIn (off := 380) (tgt := 419) hx hb dlw_39 h0 h22 (by rw [h]; rfl) (by decide) ?_
          exact lc_components C0 hF hI hS hL h5 ex4 hl m0 k0 (by exact ⟨rfl, rfl, Nat.le_of_ble_eq_true rfl, Nat.le_of_ble_eq_true rfl, rfl, rfl, Nat.le_of_ble_eq_true rfl, Nat.le_of_ble_eq_true rfl⟩) (op_components hj) (Nat.le_trans (Nat.le_add_right _ _) hce) (Nat.le_trans (Nat.le_add_right _ _) hsl) (fun M2 H1 locs1 a1 a2 a3 => W.widen (Nat.le_add_right _ _) (Nat.le_add_right _ _) (tail S D M2 f H1 locs1 ls h5 a1 a2 a3 hl))
        · refine lv_tableIn (off := 393) (tgt := 432) hx hb dlw_39 h0 h22 (by rw [h]; rfl) (by decide) ?_
          exact lc_xNumerator C0 hF hI hS hL h5 ex4 hl (by exact ⟨rfl, rfl, Nat.le_of_ble_eq_true rfl, Nat.le_of_ble_eq_true rfl⟩) (op_xNumerator l hfl G Gm hj hD _) hce hsl (fun S2 D2 M2 f2 H1 locs1 ls1 a1 a2 a3 a4 => tail S2 D2 M2 f2 H1 locs1 ls1 h5 a1 a2 a3 a4)
        · refine lv_tableIn (off := 449) (tgt := 488) hx hb dlw_39 h0 h22 (by rw [h]; rfl) (by decide) ?_
          exact lc_xDenominator C0 hF hI hS hL h5 ex4 hl (by exact ⟨rfl, rfl, Nat.le_of_ble_eq_true rfl, Nat.le_of_ble_eq_true rfl⟩) (op_xDenominator l hfl G Gm hj hD _) hce hsl (fun S2 D2 M2 f2 H1 locs1 ls1 a1 a2 a3 a4 => tail S2 D2 M2 f2 H1 locs1 ls1 h5 a1 a2 a3 a4)
        · refine lv_tableIn (off := 505) (tgt := 544) hx hb dlw_39 h0 h22 (by rw [h]; rfl) (by decide) ?_
          exact lc_yNumerator C0 hF hI hS hL h5 ex4 hl (by exact ⟨rfl, rfl, Nat.le_of_ble_eq_true rfl, Nat.le_of_ble_eq_true rfl⟩) (op_yNumerator l hfl G Gm hj hD _) hce hsl (fun S2 D2 M2 f2 H1 locs1 ls1 a1 a2 a3 a4 => tail S2 D2 M2 f2 H1 locs1 ls1 h5 a1 a2 a3 a4)
        · refine lv_tableIn (off := 561) (tgt := 600) hx hb dlw_39 h0 h22 (by rw [h]; rfl) (by decide) ?_
          exact lc_yDenominator C0 hF hI hS hL h5 ex4 hl (by exact ⟨rfl, rfl, Nat.le_of_ble_eq_true rfl, Nat.le_of_ble_eq_true rfl⟩) (op_yDenominator l hfl G Gm hj hD _) hce hsl (fun S2 D2 M2 f2 H1 locs1 ls1 a1 a2 a3 a4 => tail S2 D2 M2 f2 H1 locs1 ls1 h5 a1 a2 a3 a4)
        · refine lv_tableIn (off := 617) (tgt := 656) hx hb dlw_39 h0 h22 (by rw [h]; rfl) (by decide) ?_
          exact lc_degree C0 hF hI hS hL h5 ex4 hl (by exact ⟨rfl, rfl, Nat.le_of_ble_eq_true rfl, Nat.le_of_ble_eq_true rfl⟩) (op_degree l hfl G Gm hj hD _) hce hsl (fun S2 D2 M2 f2 H1 locs1 ls1 a1 a2 a3 a4 => tail S2 D2 M2 f2 H1 locs1 ls1 h5 a1 a2 a3 a4)
        · refine lv_tableIn (off := 673) (tgt := 712) hx hb dlw_39 h0 h22 (by rw [h]; rfl) (by decide) ?_
          exact lc_segmentOf C0 hF hI hS hL h5 ex4 hl (by exact ⟨rfl, rfl, Nat.le_of_ble_eq_true rfl, Nat.le_of_ble_eq_true rfl⟩) (op_segmentOf l hfl G Gm hj hD _) hce hsl (fun S2 D2 M2 f2 H1 locs1 ls1 a1 a2 a3 a4 => tail S2 D2 M2 f2 H1 locs1 ls1 h5 a1 a2 a3 a4)
        · refine lv_tableIn (off := 729) (tgt := 768) hx hb dlw_39 h0 h22 (by rw [h]; rfl) (by decide) ?_
          exact lc_from C0 hF hI hS hL h5 ex4 hl (by exact ⟨rfl, rfl, Nat.le_of_ble_eq_true rfl, Nat.le_of_ble_eq_true rfl⟩) (op_from l hfl G Gm hj hD _) hce hsl (fun S2 D2 M2 f2 H1 locs1 ls1 a1 a2 a3 a4 => tail S2 D2 M2 f2 H1 locs1 ls1 h5 a1 a2 a3 a4)
        · refine lv_tableIn (off := 785) (tgt := 824) hx hb dlw_39 h0 h22 (by rw [h]; rfl) (by decide) ?_
          exact lc_to C0 hF hI hS hL h5 ex4 hl (by exact ⟨rfl, rfl, Nat.le_of_ble_eq_true rfl, Nat.le_of_ble_eq_true rfl⟩) (op_to l hfl G Gm hj hD _) hce hsl (fun S2 D2 M2 f2 H1 locs1 ls1 a1 a2 a3 a4 => tail S2 D2 M2 f2 H1 locs1 ls1 h5 a1 a2 a3 a4)
        · refine lv_tableIn (off := 841) (tgt := 880) hx hb dlw_39 h0 h22 (by rw [h]; rfl) (by decide) ?_
          exact lc_leftOf C0 hF hI hS hL h5 ex4 hl (by exact ⟨rfl, rfl, Nat.le_of_ble_eq_true rfl, Nat.le_of_ble_eq_true rfl⟩) (op_leftOf l hfl G Gm hj hD _) hce hsl (fun S2 D2 M2 f2 H1 locs1 ls1 a1 a2 a3 a4 => tail S2 D2 M2 f2 H1 locs1 ls1 h5 a1 a2 a3 a4)
        · refine lv_tableIn (off := 897) (tgt := 936) hx hb dlw_39 h0 h22 (by rw [h]; rfl) (by decide) ?_
          exact lc_rightOf C0 hF hI hS hL h5 ex4 hl (by exact ⟨rfl, rfl, Nat.le_of_ble_eq_true rfl, Nat.le_of_ble_eq_true rfl⟩) (op_rightOf l hfl G Gm hj hD _) hce hsl (fun S2 D2 M2 f2 H1 locs1 ls1 a1 a2 a3 a4 => tail S2 D2 M2 f2 H1 locs1 ls1 h5 a1 a2 a3 a4)
        · refine lv_tableIn (off := 953) (tgt := 992) hx hb dlw_39 h0 h22 (by rw [h]; rfl) (by decide) ?_
          exact lc_sides C0 hF hI hS hL h5 ex4 hl (by exact ⟨rfl, rfl, Nat.le_of_ble_eq_true rfl, Nat.le_of_ble_eq_true rfl⟩) (op_sides l hfl G Gm hj hD _) hce hsl (fun S2 D2 M2 f2 H1 locs1 ls1 a1 a2 a3 a4 => tail S2 D2 M2 f2 H1 locs1 ls1 h5 a1 a2 a3 a4)
        · refine lv_tableIn (off := 1009) (tgt := 1048) hx hb dlw_39 h0 h22 (by rw [h]; rfl) (by decide) ?_
          exact lc_firstVertex C0 hF hI hS hL h5 ex4 hl (by exact ⟨rfl, rfl, Nat.le_of_ble_eq_true rfl, Nat.le_of_ble_eq_true rfl⟩) (op_firstVertex l hfl G Gm hj hD _) hce hsl (fun S2 D2 M2 f2 H1 locs1 ls1 a1 a2 a3 a4 => tail S2 D2 M2 f2 H1 locs1 ls1 h5 a1 a2 a3 a4)
        · refine lv_tableIn (off := 1065) (tgt := 1104) hx hb dlw_39 h0 h22 (by rw [h]; rfl) (by decide) ?_
          exact lc_faceAt C0 hF hI hS hL h5 ex4 hl (by exact ⟨rfl, rfl, Nat.le_of_ble_eq_true rfl, Nat.le_of_ble_eq_true rfl⟩) (op_faceAt l G Gm hfl hj hD _ _) hce hsl (fun S2 D2 M2 f2 H1 locs1 ls1 a1 a2 a3 a4 => tail S2 D2 M2 f2 H1 locs1 ls1 h5 a1 a2 a3 a4)
        · refine lv_tableIn (off := 1133) (tgt := 1172) hx hb dlw_39 h0 h22 (by rw [h]; rfl) (by decide) ?_
          exact lc_crossing C0 hF hI hS hL h5 ex4 hl (by exact ⟨rfl, rfl, Nat.le_of_ble_eq_true rfl, Nat.le_of_ble_eq_true rfl⟩) (op_crossing l G Gm hfl hj hD _) hce hsl (fun S2 D2 M2 f2 H1 locs1 ls1 a1 a2 a3 a4 => tail S2 D2 M2 f2 H1 locs1 ls1 h5 a1 a2 a3 a4)
        · refine lv_tableIn (off := 1189) (tgt := 1228) hx hb dlw_39 h0 h22 (by rw [h]; rfl) (by decide) ?_
          exact lc_crossingAt C0 hF hI hS hL h5 ex4 hl (by exact ⟨rfl, rfl, Nat.le_of_ble_eq_true rfl, Nat.le_of_ble_eq_true rfl⟩) (op_crossingAt l G Gm hfl hj hD _ _) hce hsl (fun S2 D2 M2 f2 H1 locs1 ls1 a1 a2 a3 a4 => tail S2 D2 M2 f2 H1 locs1 ls1 h5 a1 a2 a3 a4)
