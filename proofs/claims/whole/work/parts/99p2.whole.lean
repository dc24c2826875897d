/-! The law from its entry. -/
theorem gIW {y : MethodName} {b : ByteArray} {n : Nat} {ret : Option FieldType} {ws : List Cond} (h : Cond.code y b n ret ∈ WA) (hw : ∀ w ∈ ws, w ∈ WA) : GoodIn WA (Cond.code y b n ret :: ws) := fun w hw1 => by
  have h1 : w ∈ WA := by
    rcases List.mem_cons.mp hw1 with rfl | h2
    · exact h
    · exact hw w h2
  exact ⟨h1, WA_good w h1⟩
theorem va_D.ne {A : Nat → Prop} {w1 w2 : va_W} (h : va_D A (w1 ++ w2)) {i j : Nat} {p q : Nat × va_E} (hp : w1[i]? = some p) (hq : w2[j]? = some q) : p.1 ≠ q.1 := fun e => by
  have hi := (List.getElem?_eq_some_iff.mp hp).1
  have := h.1 i (w1.length + j) p q (by rw [List.getElem?_append_left hi]; exact hp) (by rw [List.getElem?_append_right (Nat.le_add_right _ _), Nat.add_sub_cancel_left]; exact hq) e
  omega
/-- no segments: the reference's rows as its constructor leaves them -/
theorem st_map0 : ∃ (g : Nat → Sg) (root : Nat → Nat) (r : Nat → Option Nat) (c : Nat) (lo ou : Nat → Nat), gOk 0 g ∧ mPic mMz 0 g root r c lo ou := by
  have hg : gOk 0 (fun _ => ((0, 0, 0, 0) : Sg)) := ⟨fun i hi => absurd hi (Nat.not_lt_zero _), fun i j hi _ => absurd hi (Nat.not_lt_zero _)⟩
  obtain ⟨M2, root, r, c, lo, ou, -, hM, -⟩ := e_lays (F := 1000001) (M0 := mMz) (n := 0) (g := fun _ => ((0, 0, 0, 0) : Sg)) (Nat.le_refl _) (fun i hi => absurd hi (Nat.not_lt_zero _)) rfl hg (by decide)
  obtain ⟨m1, m2, m3, m4, m5, m6, m7, m8, m9, m10, -⟩ := hM
  have hc : c = 0 := Nat.le_zero.mp (show c ≤ 0 from m8)
  subst hc
  exact ⟨fun _ => ((0, 0, 0, 0) : Sg), root, r, 0, lo, ou, hg, rfl, fun i hi => (Nat.not_lt_zero i hi).elim, ⟨rfl, fun i hi => (Nat.not_lt_zero i hi).elim⟩, ⟨rfl, fun i hi => (Nat.not_lt_zero i hi).elim⟩, m5, fun v hv => (Nat.not_lt_zero v hv).elim, rfl, m8, m9, m10, fun i hi => (Nat.not_lt_zero i hi).elim, rfl, fun i hi => (Nat.not_lt_zero i hi).elim, fun i hi => (Nat.not_lt_zero i hi).elim, rfl, fun i hi => (Nat.not_lt_zero i hi).elim⟩
set_option maxHeartbeats 4000000 in
set_option maxRecDepth 100000 in
/-- from the entry, for every script of at most 2560 ints, the law comes to its end with true -/
theorem whole_start {p : Program} {e : Env} {s : State} {m : MethodId} {below : List Frame} {meth : Method} {c : Code} (l : Launch) (hflags : l.flags = flags0) {b L : Nat} {xs : Nat → Int32} (hL : L ≤ 2560) (C0 : lw_At p s m meth c b L xs) : W p l e room_1 s m #[Value.ref b] below meth c s.heap [] 0 0 (lw_Z below #[Value.ref b] s) (entryFrame m ([Value.ref b] : List Value).toArray 7) := by
  have hfl : l.stackTraces = false := by
    unfold Launch.stackTraces
    rw [hflags]
    decide +kernel
  obtain ⟨hx, hb, hr, hml, hown, hts, hX, hbl, hlocks, hgv⟩ := id C0
  have hW : ∀ w ∈ WA, w.before #[Value.ref b] s = true := fun w h => hts w (tb_WA w h)
  have Fx : CallFix p m c code 7 s #[Value.ref b] WA RL := ⟨hx, hb, hml, hown, hW⟩
  obtain ⟨D0, cI, cP, cO, cJ0, cZ, hK⟩ := st_K hts
  obtain ⟨z, hZ⟩ := st_Z hts hgv
  have hXP := st_X hts hgv
  have hNc := st_W (args := #[Value.ref b]) hgv
  have hN := st_N hts
  have hA : ∀ q : Nat, s.heap.size ≤ q → (fun q : Nat => s.heap.size ≤ q) q := fun _ h => h
  obtain ⟨G, hG⟩ : ∃ G : cG, G = (D0, cI, cP, cO) := ⟨_, rfl⟩
  have hKc : va_K G.1 vwCl (cTy G) s := by rw [hG]; exact hK.sub (tys' := [(cI, .int), (cP, .object "SegmentMap$Point"), (cO, .object "java/lang/Object")]) [0, 1, 2] rfl
  obtain ⟨S0, hS0⟩ : ∃ S0 : CS, S0 = ([], fun _ => 0, fun _ _ => none, fun _ => 0) := ⟨_, rfl⟩
  have hA0 : cA G S0 s.heap.size = fun q => s.heap.size ≤ q := by
    funext q
    refine propext (cA_mem.trans ⟨fun h => ?_, Or.inr⟩)
    rcases h with h | h
    · rw [hS0] at h; cases h
    · exact h
  have hW0 : ∀ D : CD, cW G S0 D = [] := fun D => by rw [hS0]; rfl
  have hC : cC RL p s m #[Value.ref b] meth c WA code 7 ret G S0 s.heap.size := ⟨hx, hb, hr, hW, hown, hlocks, hml, hKc, fun D => by rw [hW0 D]; exact ⟨fun i j p q h1 => by simp at h1, fun k q h1 => by simp at h1⟩, rfl, hN⟩
  have hP0 : va_P G.1 vwCl (cW G S0 cD0) s.heap := by
    rw [hW0]
    intro k q h
    simp at h
  refine m_entry (vs := [.ref b]) (n := 7) (Nat.le_of_ble_eq_true rfl) (fun ls hl => ?_)
  have hl : lv_has ls 7 [(0, .ref b)] := hl
  refine n_obj (C := RX6) (T := TX6) (N := 8) (ci := 7) (kd := 6) (h := s.heap.size) hC hP0 va_S.rf rfl (fun w h => hWCA _ (hWC6 w h)) tyX6 tyX6_ok (hW _ wa_217) (hW _ wa_218) (hW _ (hWCA _ wc_66)) rfl (cnew_6 G _ _ _) cdef_6 (Nat.le_of_ble_eq_true rfl) (Nat.le_of_ble_eq_true rfl) dlw_0 (fun H1 hP1 hz1 hS1 hC1 => ?_)
  obtain ⟨a0, ha0⟩ : ∃ a0 : Nat, a0 = s.heap.size := ⟨_, rfl⟩
  obtain ⟨S1, eS1⟩ : ∃ S1 : CS, S1 = sAdd S0 s.heap.size 6 0 := ⟨_, rfl⟩
  obtain ⟨D1, eD1⟩ : ∃ D1 : CD, D1 = dNew cD0 s.heap.size := ⟨_, rfl⟩
  rw [← eS1, ← eD1] at hP1
  rw [← eS1] at hS1 hC1
  have hz1 : s.heap.size ≤ H1.size := hS1.1
  have e1 : S1.1 = [s.heap.size] := by rw [eS1, hS0]; rfl
  have hm0 : a0 ∈ S1.1 := by rw [e1, ha0]; exact List.mem_singleton.mpr rfl
  have hk0 : S1.2.1 a0 = 6 := by rw [eS1, ha0]; exact va_up_self _ _ _
  have hlen : S1.2.2.2 z.1 < 2147483648 := by
    rw [eS1, hS0]
    show va_up (fun _ => 0) s.heap.size 0 z.1 < 2147483648
    unfold va_up
    split <;> exact (show (0 : Nat) < 2147483648 by decide)
  have h2 : ∀ q ∈ S1.1, q ∈ S0.1 ∨ s.heap.size ≤ q := fun q h => by
    rw [e1] at h
    rw [List.mem_singleton.mp h]
    exact Or.inr (Nat.le_refl _)
  rw [← ha0]
  refine lv_dup hx hb dlw_3 rfl ?_
  obtain ⟨g, root, r, c9, lo, ou, hg0, hM0⟩ := st_map0
  have hFH := FH_of hg0 (by decide) hM0
  refine va_callv (va_runI (As := []) (rest := [.ref a0]) (c_fix hC1) (i_X6n l G 1000001 (by decide) S1 z D1 a0 hm0 hk0 hlen hFH H1.size) (cwI 0 hW (gIW wa_27 (fun _ h => h)) rfl rfl rfl (hW _ (hWCA _ wc_66)) (hW _ wa_221) (hW _ wa_222) rfl (by decide +kernel) ⟨Nat.le_of_ble_eq_true rfl, Nat.le_of_ble_eq_true rfl⟩) ⟨zBlind, fun U hU hWm => z_pre (av := [.ref a0]) hC1 hP1 hS1 (S0 := S0) (by rw [hA0]; exact hZ) h2 U hU hWm⟩ rfl rfl hl.1 rfl (lv_room (Nat.le_of_ble_eq_true rfl)) dlw_4 ⟨Nat.le_of_ble_eq_true rfl, Nat.le_of_ble_eq_true rfl⟩) hS1 (fun q _ h => c_sub hC1 hS1 q h) (c_sub hC1 hS1) (fun u t H2 locs2 ht hvm hw hB hz2 hk2 hS2 => ?_)
  obtain ⟨S2, D2⟩ := u
  obtain ⟨hA2, hGr⟩ := hw
  have hP2 : va_P G.1 vwCl (cW G S2 D2) H2 := by rw [← ht]; exact hB.1
  have hsub2 : ∀ q ∈ S2.1, s.heap.size ≤ q := fun q h => by
    rcases hGr.2.1 q h with h | h
    · rw [e1] at h; rw [List.mem_singleton.mp h]; exact Nat.le_refl _
    · exact Nat.le_trans hz1 h
  have hD2 : ∀ D : CD, va_D (fun q => s.heap.size ≤ q) (cW G S2 D) := fun D => ⟨(hGr.2.2 D).1, fun k q hq => hsub2 _ (cW_mem hq)⟩
  have hS2 : va_S (fun q => s.heap.size ≤ q) s.heap H2 locs2 := hS2.mono (fun q h => by
    rcases cA_mem.mp h with h | h
    · rw [e1] at h; rw [List.mem_singleton.mp h]; exact Nat.le_refl _
    · exact h)
  refine lv_astore_n (lv' := [(1, .ref a0), (0, .ref b)]) hx hb dlw_7 rfl hl (by decide) rfl (fun ls hl => ?_)
  refine va_new (ci := 8) (fs := mF0) (C := RX7) (T := TX7) (N := 24) hx hb hW (fun w h => hWMA w (List.mem_append_right _ h)) tyX7 tyX7_ok hown (hW _ wa_219) (hW _ wa_220) (hW _ (hWMA _ wm_7)) hKc hP2 (hD2 D2) hS2 hA rfl (by decide +kernel) (Nat.le_of_ble_eq_true rfl) (Nat.le_of_ble_eq_true rfl) dlw_8 (fun q7 H3 hP3 hD3 hS3 => ?_)
  have hPm : va_P G.1 vwCl [(q7, .inr (8, mF0))] H3 := hP3.r
  have hPc : va_P G.1 vwCl (cW G S2 D2) H3 := hP3.l
  have hq7 : q7 ∉ S2.1 := fun h => by
    obtain ⟨k, hk⟩ := cget (G := G) (D := D2) h rfl
    exact hD3.ne hk (show [(q7, (.inr (8, mF0) : va_E))][0]? = some _ from rfl) rfl
  have hl7 : s.heap.size ≤ q7 := hD3.2 ((cW G S2 D2).length + 0) (q7, .inr (8, mF0)) (by rw [List.getElem?_append_right (Nat.le_add_right _ _), Nat.add_sub_cancel_left]; rfl)
  have hsub3 : ∀ q, va_A [(q7, .inr (8, mF0))] H3.size q → s.heap.size ≤ q := fun q h => by
    rcases h with ⟨k, e9, h⟩ | h
    · have hz9 : k < 1 := (List.getElem?_eq_some_iff.mp h).1
      rw [Nat.lt_one_iff.mp hz9] at h
      cases h
      exact hl7
    · exact Nat.le_trans hS3.1 h
  refine lv_dup hx hb dlw_11 rfl ?_
  refine va_callv (va_runI (As := []) (rest := [.ref q7]) Fx (i_X7 l G.1 q7 H3.size) (cwI 0 hW (gIW wa_138 (fun _ h => h)) rfl rfl rfl (hW _ (hWMA _ wm_7)) (hW _ wa_223) (hW _ wa_224) rfl (by decide +kernel) ⟨Nat.le_of_ble_eq_true rfl, Nat.le_of_ble_eq_true rfl⟩) ⟨fun a U g mk q => by obtain ⟨q0, q1, qP, qK, qD⟩ := q; exact ⟨q0, q1, qP, va_K.moved (u := U) (U := U.calling g mk a) (Vm.Alike.refl U.vm) qK, qD⟩, fun U hU hWm => ⟨rfl, by rw [hU], by rw [hU]; exact hPm, va_K.moved hWm.alike (hKc.sub (tys' := []) [] rfl), va_D.one trivial⟩⟩ rfl rfl hl.1 rfl (lv_room (Nat.le_of_ble_eq_true rfl)) dlw_12 ⟨Nat.le_of_ble_eq_true rfl, Nat.le_of_ble_eq_true rfl⟩) hS3 (fun q _ h => hsub3 q h) hsub3 (fun Gm t3 H4 locs4 ht3 hvm3 hw3 hB3 hz4 hk4 hS4 => ?_)
  obtain ⟨hg1, hg2⟩ := hw3
  obtain ⟨hI4, hD4⟩ := hB3
  have hPm4 : va_P G.1 vwCl (mW Gm mMz) H4 := by rw [← ht3, ← hg1]; exact hI4.1
  have hKm : va_K Gm.1 vwCl (mTy Gm) s := va_K.moved hvm3.symm hI4.2
  have hat : ∀ q : Nat, mAt_ Gm q → q = q7 ∨ H3.size ≤ q := fun q h => by
    obtain ⟨k, e9, h⟩ := h
    obtain ⟨e8, h8⟩ := mfst (M2 := mMz) h
    rcases hD4.2 k _ h8 with ⟨k7, e7, h7⟩ | h7
    · have hz9 : k7 < 1 := (List.getElem?_eq_some_iff.mp h7).1
      rw [Nat.lt_one_iff.mp hz9] at h7
      cases h7
      exact Or.inl rfl
    · exact Or.inr h7
  have hatS : ∀ q : Nat, mAt_ Gm q → q ∉ S2.1 := fun q h h9 => by
    rcases hat q h with h | h
    · rw [h] at h9; exact hq7 h9
    · exact absurd (cW_lt hPc h9) (Nat.not_lt.mpr h)
  have hatL : ∀ q : Nat, mAt_ Gm q → s.heap.size ≤ q := fun q h => by
    rcases hat q h with h | h
    · rw [h]; exact hl7
    · exact Nat.le_trans hS3.1 h
  have hPc4 : va_P G.1 vwCl (cW G S2 D2) H4 := hPc.kept (fun k x hx => hk4 x.1 (hPc k x hx).lt (fun h => by
    rcases h with ⟨k7, e7, h7⟩ | h7
    · have hz9 : k7 < 1 := (List.getElem?_eq_some_iff.mp h7).1
      rw [Nat.lt_one_iff.mp hz9] at h7
      have e9 : q7 = x.1 := congrArg (fun y : Option (Nat × va_E) => (y.map Prod.fst).getD 0) h7
      exact hq7 (by rw [e9]; exact cW_mem hx)
    · exact absurd (hPc k x hx).lt (Nat.not_lt.mpr h7)))
  have hDm : ∀ M : MS, va_D (fun q => s.heap.size ≤ q) (mW Gm M) := fun M => mD_any M ⟨hD4.1, fun k x hx => hatL _ (mAt_.of hx)⟩
  have hDD : va_D (fun q => s.heap.size ≤ q) (cW G S2 D2 ++ mW Gm mMz) := va_D.app2 (hD2 D2) (hDm mMz) (fun i j p q h1 h2 h3 => hatS _ (mAt_.of h2) (by rw [← h3]; exact cW_mem h1))
  refine lv_astore_n (lv' := [(2, .ref q7), (1, .ref a0), (0, .ref b)]) hx hb dlw_15 rfl hl (by decide) rfl (fun ls hl => ?_)
  refine lv_iconst (v := 1) hx hb dlw_16 (by decide) ?_
  refine va_newa (atype := .long) (ty := .long) (a0 := (1, .inr (.inl (fun _ => 0)))) (N' := 1) hx hb (hW _ wa_140) rfl (hKc.sub (tys' := []) [] rfl) (hPc4.app hPm4) hDD hS4 hA (fun _ => rfl) (by decide) rfl (Nat.le_of_ble_eq_true rfl) (Nat.le_of_ble_eq_true rfl) (Nat.le_of_ble_eq_true rfl) dlw_17 (fun o cJ H5 hK5 hP5 hD5 hS5 => ?_)
  have hno : ∀ {i : Nat} {x : Nat × va_E}, (cW G S2 D2 ++ mW Gm mMz)[i]? = some x → x.1 ≠ o := fun h => hD5.ne h (show [(o, (.inl (cJ, 1, .inr (.inl (fun _ => 0))) : va_E))][0]? = some _ from rfl)
  have hoS : o ∉ S2.1 := fun h => by
    obtain ⟨k, hk⟩ := cget (G := G) (D := D2) h rfl
    exact hno (i := k) (by rw [List.getElem?_append_left (List.getElem?_eq_some_iff.mp hk).1]; exact hk) rfl
  have hoM : ∀ q : Nat, mAt_ Gm q → q ≠ o := fun q h => by
    obtain ⟨k, e9, h⟩ := h
    obtain ⟨e8, h8⟩ := mfst (M2 := mMz) h
    exact hno (i := (cW G S2 D2).length + k) (x := (q, e8)) (by rw [List.getElem?_append_right (Nat.le_add_right _ _), Nat.add_sub_cancel_left]; exact h8)
  have hol : s.heap.size ≤ o := hD5.2 ((cW G S2 D2 ++ mW Gm mMz).length + 0) (o, .inl (cJ, 1, .inr (.inl (fun _ => 0)))) (by rw [List.getElem?_append_right (Nat.le_add_right _ _), Nat.add_sub_cancel_left]; rfl)
  refine lv_astore_n (lv' := [(3, .ref o), (2, .ref q7), (1, .ref a0), (0, .ref b)]) hx hb dlw_19 rfl hl (by decide) rfl (fun ls hl => ?_)
  refine lv_iconst (v := 0) hx hb dlw_20 (by decide) ?_
  refine lv_istore (lv' := [(4, .int 0), (3, .ref o), (2, .ref q7), (1, .ref a0), (0, .ref b)]) hx hb dlw_21 hl (by decide) rfl (fun ls hl => ?_)
  refine W.widen (k := 1000 + 2 * 0) (n := 10000 + 21 * 0) (Nat.le_of_ble_eq_true rfl) (Nat.le_of_ble_eq_true rfl) ?_
  have hF : lF_ G Gm cJ z s := ⟨hg1, hKc, hKm, hK5, hN, hZ, hXP, hNc⟩
  have hI : lI_ G Gm o cJ s S2 D2 mMz (fun _ => 0) H5 := ⟨hP5.l.l, by rw [hg1]; exact hP5.l.r, hP5.r, hD2, hDm, hol, hoS, fun q h => ⟨hatS q h, hoM q h⟩⟩
  have hj : jP_ S2 D2 z a0 mMz := ⟨0, g, root, r, c9, lo, ou, hg0, by decide, hM0, hA2⟩
  have hl9 : lv_has ls 7 [(0, .ref b), (1, .ref a0), (2, .ref (mO Gm)), (3, .ref o), (4, .int 0)] := by
    rw [hg2]
    exact lv_sub hl [4, 3, 2, 1, 0] rfl
  exact law_loop l hfl hL C0 hF (L + 1) 0 (Nat.zero_le _) (by omega) 0 S2 D2 mMz (fun _ => 0) H5 _ ls rfl hj hI hS5 hl9
