/-! ArrayList.remove -/
section RRW
variable {p : Program} {l : Launch} {e : Env} {R : Room} {s : State} {m : MethodId} {args : Array Value} {below : List Frame} {meth : Method} {c : Code} {H : Heap} {locs : List Loc} {Q : State → Prop}
variable {pc : Nat} {ls : Array Slot} {rest st0 : List Value} {ws ws' Ts : List Cond} {cc bytes : ByteArray} {maxL nL index n sz h ce sl mc ms : Nat} {ret : Option FieldType} {own : String} {G : cG} {S0 S S2 : CS} {D D2 : CD} {y : MethodName} {rm : Room} {As av : List Value} {z : Nat × Nat}

theorem n_astN {a : Nat} (hC : cC own p s m args meth c Ts cc nL ret G S sz) (hP : va_P G.1 vwCl (cW G S D) H) (hS : va_S (cA G S sz) s.heap H locs) (hm : a ∈ S.1) (hk : S.2.1 a = 10) {i : Int32} (hin : vp_in i (S.2.2.2 a)) (hdg : decode cc pc = .ok (.aastore, 1))
    (kk : ∀ (H1 : Heap) (locs1 : List Loc), va_P G.1 vwCl (cW G S (cpR D a (va_up (D.2.2.2 a) i.toNatClampNeg none))) H1 → va_S (cA G S sz) s.heap H1 locs1 → W p l e R s m args below meth c H1 locs1 ce sl Q (F0 m (pc + 1) ls rest)) : W p l e R s m args below meth c H locs ce sl Q (F0 m pc ls (.null :: .int i :: .ref a :: rest)) := by
  obtain ⟨hx, hb, hr, hts, hown, hlocks, hml, hK, hD, hsz, hN⟩ := hC
  obtain ⟨q0, hq⟩ := cget (G := G) (D := D) hm (cE_10 hk)
  have hw := cset (D2 := cpR D a (va_up (D.2.2.2 a) i.toNatClampNeg none)) (hD D) hm (cE_10 hk) hq (y := .inl (ccO G, S.2.2.2 a, .inr (.inr (.inr (.inr (va_up (D.2.2.2 a) i.toNatClampNeg none)))))) (by rw [cE_10 hk]; simp [cpR, va_up]) (fun b hb => cE_ext rfl rfl rfl (by simp [cpR, va_up, hb]))
  exact va_astqN (C := "java/lang/Object") hx hb hK hP (hD D) hS q0 2 hq rfl hin hdg (fun H1 locs1 hP1 _ hS1 => kk H1 locs1 (by rw [← hw]; exact hP1) hS1)
end RRW
/-- a list of n Segments without the one at x -/
def rRm (S : CS) (D : CD) (a0 arr n x : Nat) (S2 : CS) (D2 : CD) : Prop := S2 = S ∧ (∀ y, y ≠ arr → y ≠ a0 → D2.1 y = D.1 y ∧ D2.2.1 y = D.2.1 y ∧ D2.2.2.1 y = D.2.2.1 y ∧ D2.2.2.2 y = D.2.2.2 y) ∧ D2.1 a0 2 = nI (n - 1) ∧ (∀ i, i < x → D2.2.2.2 arr i = D.2.2.2 arr i) ∧ ∀ i, x ≤ i → i < n - 1 → D2.2.2.2 arr i = D.2.2.2 arr (i + 1)
theorem dJx4a65c_fastRemove_b59b0_0 : decode cJx4a65c_fastRemove_b59b0 0 = .ok (.aload_n 0, 1) := by decide +kernel
theorem dJx4a65c_fastRemove_b59b0_1 : decode cJx4a65c_fastRemove_b59b0 1 = .ok (.dup, 1) := by decide +kernel
theorem dJx4a65c_fastRemove_b59b0_2 : decode cJx4a65c_fastRemove_b59b0 2 = .ok (.getfield 63, 3) := by decide +kernel
theorem dJx4a65c_fastRemove_b59b0_5 : decode cJx4a65c_fastRemove_b59b0 5 = .ok (.iconst 1, 1) := by decide +kernel
theorem dJx4a65c_fastRemove_b59b0_6 : decode cJx4a65c_fastRemove_b59b0 6 = .ok (.iadd, 1) := by decide +kernel
theorem dJx4a65c_fastRemove_b59b0_7 : decode cJx4a65c_fastRemove_b59b0 7 = .ok (.putfield 63, 3) := by decide +kernel
theorem dJx4a65c_fastRemove_b59b0_10 : decode cJx4a65c_fastRemove_b59b0 10 = .ok (.aload_n 0, 1) := by decide +kernel
theorem dJx4a65c_fastRemove_b59b0_11 : decode cJx4a65c_fastRemove_b59b0 11 = .ok (.getfield 48, 3) := by decide +kernel
theorem dJx4a65c_fastRemove_b59b0_14 : decode cJx4a65c_fastRemove_b59b0 14 = .ok (.iconst 1, 1) := by decide +kernel
theorem dJx4a65c_fastRemove_b59b0_15 : decode cJx4a65c_fastRemove_b59b0 15 = .ok (.isub, 1) := by decide +kernel
theorem dJx4a65c_fastRemove_b59b0_16 : decode cJx4a65c_fastRemove_b59b0 16 = .ok (.dup, 1) := by decide +kernel
theorem dJx4a65c_fastRemove_b59b0_17 : decode cJx4a65c_fastRemove_b59b0 17 = .ok (.istore_n 3, 1) := by decide +kernel
theorem dJx4a65c_fastRemove_b59b0_18 : decode cJx4a65c_fastRemove_b59b0 18 = .ok (.iload_n 2, 1) := by decide +kernel
theorem dJx4a65c_fastRemove_b59b0_19 : decode cJx4a65c_fastRemove_b59b0 19 = .ok (.if_icmp .le 15, 3) := by decide +kernel
theorem dJx4a65c_fastRemove_b59b0_22 : decode cJx4a65c_fastRemove_b59b0 22 = .ok (.aload_n 1, 1) := by decide +kernel
theorem dJx4a65c_fastRemove_b59b0_23 : decode cJx4a65c_fastRemove_b59b0 23 = .ok (.iload_n 2, 1) := by decide +kernel
theorem dJx4a65c_fastRemove_b59b0_24 : decode cJx4a65c_fastRemove_b59b0 24 = .ok (.iconst 1, 1) := by decide +kernel
theorem dJx4a65c_fastRemove_b59b0_25 : decode cJx4a65c_fastRemove_b59b0 25 = .ok (.iadd, 1) := by decide +kernel
theorem dJx4a65c_fastRemove_b59b0_26 : decode cJx4a65c_fastRemove_b59b0 26 = .ok (.aload_n 1, 1) := by decide +kernel
theorem dJx4a65c_fastRemove_b59b0_27 : decode cJx4a65c_fastRemove_b59b0 27 = .ok (.iload_n 2, 1) := by decide +kernel
theorem dJx4a65c_fastRemove_b59b0_28 : decode cJx4a65c_fastRemove_b59b0 28 = .ok (.iload_n 3, 1) := by decide +kernel
theorem dJx4a65c_fastRemove_b59b0_29 : decode cJx4a65c_fastRemove_b59b0 29 = .ok (.iload_n 2, 1) := by decide +kernel
theorem dJx4a65c_fastRemove_b59b0_30 : decode cJx4a65c_fastRemove_b59b0 30 = .ok (.isub, 1) := by decide +kernel
theorem dJx4a65c_fastRemove_b59b0_31 : decode cJx4a65c_fastRemove_b59b0 31 = .ok (.invokestatic 112, 3) := by decide +kernel
theorem dJx4a65c_fastRemove_b59b0_34 : decode cJx4a65c_fastRemove_b59b0 34 = .ok (.aload_n 1, 1) := by decide +kernel
theorem dJx4a65c_fastRemove_b59b0_35 : decode cJx4a65c_fastRemove_b59b0 35 = .ok (.aload_n 0, 1) := by decide +kernel
theorem dJx4a65c_fastRemove_b59b0_36 : decode cJx4a65c_fastRemove_b59b0 36 = .ok (.iload_n 3, 1) := by decide +kernel
theorem dJx4a65c_fastRemove_b59b0_37 : decode cJx4a65c_fastRemove_b59b0 37 = .ok (.dup_x1, 1) := by decide +kernel
theorem dJx4a65c_fastRemove_b59b0_38 : decode cJx4a65c_fastRemove_b59b0 38 = .ok (.putfield 48, 3) := by decide +kernel
theorem dJx4a65c_fastRemove_b59b0_41 : decode cJx4a65c_fastRemove_b59b0 41 = .ok (.aconst_null, 1) := by decide +kernel
theorem dJx4a65c_fastRemove_b59b0_42 : decode cJx4a65c_fastRemove_b59b0 42 = .ok (.aastore, 1) := by decide +kernel
theorem dJx4a65c_fastRemove_b59b0_43 : decode cJx4a65c_fastRemove_b59b0 43 = .ok (.return_, 1) := by decide +kernel
def wJx4a65c_fastRemove_b59b0 : List Cond := Cond.code yJx4a65c_fastRemove_b59b0 cJx4a65c_fastRemove_b59b0 4 none :: WA
set_option maxRecDepth 100000 in
set_option maxHeartbeats 4000000 in
theorem i_Jx4a65c_fastRemove_b59b0 (l : Launch) (G : cG) (S : CS) (z : Nat × Nat) (D : CD) (a0 : Nat) (hm0 : a0 ∈ S.1) (hk0 : S.2.1 a0 = 7) (arr n x : Nat) (hn12 : n ≤ 12) (hx1 : x < n) (hr1 : S.2.2.1 a0 1 = some arr) (hr2 : D.1 a0 2 = nI n) (r1 : arr ∈ S.1) (r2 : S.2.1 arr = 10) (r3 : S.2.2.2 arr ≤ 15) (r4 : n ≤ S.2.2.2 arr) (r5 : ∀ i, i < n → ∀ y, D.2.2.2 arr i = some y → y ∈ S.1 ∧ S.2.1 y = 4) : cMKv l yJx4a65c_fastRemove_b59b0 wJx4a65c_fastRemove_b59b0 ({ frames := 1, cells := 0, slots := 0, locals := 60 }) G S z [.ref a0, .ref arr, .int (nI x)] D 0 0 (fun _ S2 D2 => rRm S D a0 arr n x S2 D2) := by
  have hne : arr ≠ a0 := fun w => by rw [w, hk0] at r2; exact absurd r2 (by decide)
  refine cBodyKz (cc := cJx4a65c_fastRemove_b59b0) (maxL := 4) (ret := none) (own := RJx4a65c) (by decide) rfl rfl ?_
  intro sz p e s m below meth c hC hP hZ hname
  have hC0 := hC
  obtain ⟨hx, hb, -, hts, hown, -, hml, -, -, hz, -⟩ := hC0
  have hS : va_S (cA G S sz) s.heap s.heap [] := va_S.rf
  have hin_Jx4a65c : ∀ w ∈ wsJx4a65c0, w ∈ wJx4a65c_fastRemove_b59b0 := fun w h => List.mem_cons_of_mem _ (hWCA _ (hWC7 w h))
  have hsf : ∀ x, s.fieldFound? "java/util/AbstractList" "modCount" "I" = some x → s.fieldFound? "java/util/ArrayList" "modCount" "I" = some x := fun x h => u_same (hts _ (List.mem_cons_of_mem _ wa_80)) x h
  have T : ∀ (D2 : CD) (H : Heap) (locs : List Loc) (ls : Array Slot), (∀ y, y ≠ arr → y ≠ a0 → D2.1 y = D.1 y ∧ D2.2.1 y = D.2.1 y ∧ D2.2.2.1 y = D.2.2.1 y ∧ D2.2.2.2 y = D.2.2.2 y) → (∀ i, i < x → D2.2.2.2 arr i = D.2.2.2 arr i) → (∀ i, x ≤ i → i < n - 1 → D2.2.2.2 arr i = D.2.2.2 arr (i + 1)) → va_P G.1 vwCl (cW G S D2) H → va_S (cA G S sz) s.heap H locs → cC RJx4a65c p s m ([.ref a0, .ref arr, .int (nI x)] : List Value).toArray meth c wJx4a65c_fastRemove_b59b0 cJx4a65c_fastRemove_b59b0 4 none G S sz → lv_has ls 4 [(3, .int (nI (n - 1))), (0, .ref a0), (1, .ref arr), (2, .int (nI x))] → W p l e (headSpec wJx4a65c_fastRemove_b59b0 ({ frames := 1, cells := 0, slots := 0, locals := 60 })).room s m ([.ref a0, .ref arr, .int (nI x)] : List Value).toArray below meth c H locs 0 0 (MQ below (va_Qv (fun (u : CS × CD) => (fun _ S2 D2 => rRm S D a0 arr n x S2 D2) sz u.1 u.2 ∧ cGr G S u.1 sz) (fun u t => cIs G u.1 u.2 t) (cA G S sz)) ([.ref a0, .ref arr, .int (nI x)] : List Value).toArray s 0 0 (cA G S sz)) (F0 m 34 ls []) := by
    intro D2 H locs ls h1 h2 h3 hP hS hC hl
    refine lv_aload_n hx hb dJx4a65c_fastRemove_b59b0_34 rfl (lv_at hl 2 rfl) ?_
    refine lv_aload_n hx hb dJx4a65c_fastRemove_b59b0_35 rfl (lv_at hl 1 rfl) ?_
    refine lv_iload_n hx hb dJx4a65c_fastRemove_b59b0_36 rfl (lv_at hl 0 rfl) ?_
    refine lv_dup_x1 hx hb dJx4a65c_fastRemove_b59b0_37 rfl rfl ?_
    refine n_put (C := RJx4a65c) (T := TJx4a65c) (N := 3) (ref := "java/util/ArrayList") (ci := 0) (h := H.size) (S2 := S) (D2 := cpF D2 a0 2 (nI (n - 1))) hC hin_Jx4a65c tyJx4a65c tyJx4a65c_ok nmJx4a65c hP hS rfl hm0 (cE_7 hk0) rfl 2 (by decide) (hts _ (List.mem_cons_of_mem _ (hWCA _ wc_1))) rfl (Or.inl rfl) (ty := .int) (by decide +kernel) rfl rfl (Nat.le_of_ble_eq_true rfl) rfl (csi_7_2 G hk0 _) (cne_F G) dJx4a65c_fastRemove_b59b0_38 (fun H locs hP hz hS hC => ?_)
    refine lv_null hx hb dJx4a65c_fastRemove_b59b0_41 ?_
    refine n_astN hC hP hS r1 r2 (i := nI (n - 1)) (vp_in_nI (by omega) (by omega)) dJx4a65c_fastRemove_b59b0_42 (fun H locs hP hS => ?_)
    rw [nI_clamp (by omega)] at hP
    refine n_vretw (S0 := S) (Rl := (fun _ S2 D2 => rRm S D a0 arr n x S2 D2)) hC hP hS ⟨rfl, fun y hy hya => ?_, ?_, fun i hi => ?_, fun i hi hi2 => ?_⟩ gr0.rfl dJx4a65c_fastRemove_b59b0_43 (Nat.le_refl _) (Nat.le_refl _)
    · obtain ⟨g1, g2, g3, g4⟩ := h1 y hy hya
      exact ⟨(va_up_ne _ _ hya).trans g1, g2, g3, (va_up_ne _ _ hy).trans g4⟩
    · show va_up D2.1 a0 (va_up (D2.1 a0) 2 (nI (n - 1))) a0 2 = _
      rw [va_up_self, va_up_self]
    · show va_up D2.2.2.2 arr (va_up (D2.2.2.2 arr) (n - 1) none) arr i = _
      rw [va_up_self, va_up_ne _ _ (by omega)]
      exact h2 i hi
    · show va_up D2.2.2.2 arr (va_up (D2.2.2.2 arr) (n - 1) none) arr i = _
      rw [va_up_self, va_up_ne _ _ (by omega)]
      exact h3 i hi hi2
  refine m_entry (Nat.le_of_ble_eq_true rfl) (fun ls hl => ?_)
  have hl : lv_has ls 4 [(0, .ref a0), (1, .ref arr), (2, .int (nI x))] := hl
  refine lv_aload_n hx hb dJx4a65c_fastRemove_b59b0_0 rfl (lv_at hl 0 rfl) ?_
  refine lv_dup hx hb dJx4a65c_fastRemove_b59b0_1 rfl ?_
  refine n_getU (C := RJx4a65c) (T := TJx4a65c) (N := 3) (ref := "java/util/ArrayList") (ci := 0) (v := .int (D.1 a0 0)) hC hin_Jx4a65c hP hm0 (cE_7 hk0) rfl 0 (by decide) (hts _ (List.mem_cons_of_mem _ wa_79)) hsf rfl dJx4a65c_fastRemove_b59b0_2 ?_
  refine lv_iconst (v := 1) hx hb dJx4a65c_fastRemove_b59b0_5 (by decide) ?_
  refine lv_iadd hx hb dJx4a65c_fastRemove_b59b0_6 ?_
  refine n_putU (C := RJx4a65c) (T := TJx4a65c) (N := 3) (ref := "java/util/ArrayList") (ci := 0) (h := sz) (S2 := S) (D2 := cpF D a0 0 (D.1 a0 0 + 1)) hC hin_Jx4a65c tyJx4a65c tyJx4a65c_ok nmJx4a65c hP hS hz hm0 (cE_7 hk0) rfl 0 (by decide) (hts _ (List.mem_cons_of_mem _ wa_79)) hsf (Or.inl rfl) (ty := .int) (by decide +kernel) rfl rfl (Nat.le_of_ble_eq_true rfl) rfl (csi_7_0 G hk0 _) (cne_F G) dJx4a65c_fastRemove_b59b0_7 (fun H locs hP hz hS hC => ?_)
  have hsz : (cpF D a0 0 (D.1 a0 0 + 1)).1 a0 2 = nI n := by
    show va_up D.1 a0 (va_up (D.1 a0) 0 _) a0 2 = _
    rw [va_up_self, va_up_ne _ _ (by decide)]; exact hr2
  have hF : ∀ y, y ≠ arr → y ≠ a0 → (cpF D a0 0 (D.1 a0 0 + 1)).1 y = D.1 y ∧ (cpF D a0 0 (D.1 a0 0 + 1)).2.1 y = D.2.1 y ∧ (cpF D a0 0 (D.1 a0 0 + 1)).2.2.1 y = D.2.2.1 y ∧ (cpF D a0 0 (D.1 a0 0 + 1)).2.2.2 y = D.2.2.2 y := fun y _ hya => ⟨va_up_ne _ _ hya, rfl, rfl, rfl⟩
  refine lv_aload_n hx hb dJx4a65c_fastRemove_b59b0_10 rfl (lv_at hl 0 rfl) ?_
  refine n_get (C := RJx4a65c) (T := TJx4a65c) (N := 3) (ref := "java/util/ArrayList") (ci := 0) (v := .int (nI n)) hC hin_Jx4a65c hP hm0 (cE_7 hk0) rfl 2 (by decide) (hts _ (List.mem_cons_of_mem _ (hWCA _ wc_1))) rfl (by show some (Value.int _) = _; rw [hsz]) dJx4a65c_fastRemove_b59b0_11 ?_
  refine lv_iconst (v := 1) hx hb dJx4a65c_fastRemove_b59b0_14 (by decide) ?_
  refine lv_isub hx hb dJx4a65c_fastRemove_b59b0_15 ?_
  rw [show nI n - 1 = nI (n - 1) from pk_sub (a := n) (b := 1) (by omega)]
  refine lv_dup hx hb dJx4a65c_fastRemove_b59b0_16 rfl ?_
  refine lv_istore_n (lv' := [(3, .int (nI (n - 1))), (0, .ref a0), (1, .ref arr), (2, .int (nI x))]) hx hb dJx4a65c_fastRemove_b59b0_17 rfl hl (by decide) rfl (fun ls hl => ?_)
  refine lv_iload_n hx hb dJx4a65c_fastRemove_b59b0_18 rfl (lv_at hl 3 rfl) ?_
  refine lv_icmp_le (tgt := 34) hx hb dJx4a65c_fastRemove_b59b0_19 (by decide) (fun u => ?_) (fun u => ?_)
  · have hle := (nI_leI (a := n - 1) (b := x) (by omega) (by omega)).mp u
    exact T _ H locs ls hF (fun i _ => rfl) (fun i h1 h2 => absurd h2 (by omega)) hP hS hC hl
  · have hlt : ¬ n - 1 ≤ x := fun w => u ((nI_leI (a := n - 1) (b := x) (by omega) (by omega)).mpr w)
    refine lv_aload_n hx hb dJx4a65c_fastRemove_b59b0_22 rfl (lv_at hl 2 rfl) ?_
    refine lv_iload_n hx hb dJx4a65c_fastRemove_b59b0_23 rfl (lv_at hl 3 rfl) ?_
    refine lv_iconst (v := 1) hx hb dJx4a65c_fastRemove_b59b0_24 (by decide) ?_
    refine lv_iadd hx hb dJx4a65c_fastRemove_b59b0_25 ?_
    rw [show nI x + 1 = nI (x + 1) from nI_add x 1]
    refine lv_aload_n hx hb dJx4a65c_fastRemove_b59b0_26 rfl (lv_at hl 2 rfl) ?_
    refine lv_iload_n hx hb dJx4a65c_fastRemove_b59b0_27 rfl (lv_at hl 3 rfl) ?_
    refine lv_iload_n hx hb dJx4a65c_fastRemove_b59b0_28 rfl (lv_at hl 0 rfl) ?_
    refine lv_iload_n hx hb dJx4a65c_fastRemove_b59b0_29 rfl (lv_at hl 3 rfl) ?_
    refine lv_isub hx hb dJx4a65c_fastRemove_b59b0_30 ?_
    rw [show nI (n - 1) - nI x = nI (n - 1 - x) from pk_sub (by omega)]
    have c1 : (nI (x + 1)).toNatClampNeg = x + 1 := nI_clamp (by omega)
    have c2 : (nI x).toNatClampNeg = x := nI_clamp (by omega)
    have c3 : (nI (n - 1 - x)).toNatClampNeg = n - 1 - x := nI_clamp (by omega)
    refine n_cpy (S0 := S) (index := 112) hC hP hS hZ hl.1 (hts _ (List.mem_cons_of_mem _ wa_133)) (hts _ (List.mem_cons_of_mem _ wa_119)) (hts _ (List.mem_cons_of_mem _ wa_120)) (hts _ (List.mem_cons_of_mem _ wa_121)) r1 r2 r1 r2 (nI_pos (by omega)) (nI_pos (by omega)) (nI_pos (by omega)) (by rw [c1, c3]; omega) (by rw [c2, c3]; omega) (fun i hi y hy => ?_) (Nat.le_of_ble_eq_true rfl) (by decide +kernel) dJx4a65c_fastRemove_b59b0_31 (fun H locs hP hS => ?_)
    · rw [c3] at hi
      rw [c1] at hy
      exact r5 (x + 1 + i) (by omega) y hy
    · rw [c1, c2, c3] at hP
      refine T _ H locs ls (fun y hy hya => ?_) (fun i hi => ?_) (fun i h1 h2 => ?_) hP hS hC hl
      · obtain ⟨g1, g2, g3, g4⟩ := hF y hy hya
        exact ⟨g1, g2, g3, (va_up_ne _ _ hy).trans g4⟩
      · show va_up _ arr (va_cpy _ _ (x + 1) x (n - 1 - x)) arr i = _
        rw [va_up_self, pk_cpy_out (by omega)]
        rfl
      · show va_up _ arr (va_cpy _ _ (x + 1) x (n - 1 - x)) arr i = _
        rw [va_up_self, pk_cpy_in h1 (by omega), show x + 1 + (i - x) = i + 1 from by omega]
        rfl
