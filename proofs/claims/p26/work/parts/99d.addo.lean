/-! SegmentMap.add, its last road: overlap -/
theorem cW_forget {G : cG} {S S1 : CS} {D D1 : CD} {H : Heap} (hP : va_P G.1 vwCl (cW G S1 D1) H) (h : ∀ x ∈ S.1, x ∈ S1.1 ∧ cE G S1 D1 x = cE G S D x) : va_P G.1 vwCl (cW G S D) H := fun k q hk => by
  have hm := List.mem_of_getElem? hk
  obtain ⟨a, ha, rfl⟩ := List.mem_map.mp hm
  obtain ⟨h1, h2⟩ := h a ha
  obtain ⟨k', hk'⟩ := cget (G := G) (D := D1) h1 rfl
  have h3 := hP k' _ hk'
  rw [h2] at h3
  exact h3
theorem cBodyTk {l : Launch} {y : MethodName} {ws ws' : List Cond} {rm : Room} {cc : ByteArray} {maxL : Nat} {ret : Option FieldType} {own : String} {G : cG} {S : CS} {av : List Value} {D D2 : CD} {E : String} {mc ms : Nat} {Qc : Array Value → State → Outcome → State → Prop} (hy : plainName y.cls = true) (hR : y.cls = own) (hw : ws = Cond.code y cc maxL ret :: ws')
    (body : ∀ (sz : Nat) (p : Program) (e : Env) (s : State) (m : MethodId) (below : List Frame) (meth : Method) (c : Code), cC own p s m av.toArray meth c ws cc maxL ret G S sz → va_P G.1 vwCl (cW G S D) s.heap → xP (cA G S sz) s s.heap → (∀ x ∈ c.exceptionTable.toList, False) → W p l e (headSpec ws rm).room s m av.toArray below meth c s.heap [] 0 0 (vx_MQ below Qc (xX G S D2 E sz) av.toArray s mc ms (cA G S sz)) (entryFrame m av.toArray maxL)) :
    ∀ sz : Nat, vx_Met l y ws rm (cPx G sz S D av) Qc (xX G S D2 E sz) mc ms (cA G S sz) := by
  intro sz
  refine vx_ofW (cc := cc) (maxL := maxL) (ret := ret) hy hw ?_
  intro p e s m args below meth c s₁ B hml hno hv
  obtain ⟨rfl, ⟨hsz, hP, hK, hD0, hN⟩, hX⟩ := hv
  have hown : s.vm.findClass own = some m.cls := by rw [← hR]; exact findClass_of_methodNamed B.named
  refine body sz p e s m below meth c ⟨B.exec, B.bytes, B.returns, atoms_spec (ws := ws) B.pre, hown, B.notSynchronized, hml, hK, fun D2 => ?_, hsz, hN⟩ hP hX hno
  rw [← cA_eq G S D2]
  exact (cD_any D2 hD0).self
section OROWS
variable {p : Program} {l : Launch} {e : Env} {R : Room} {s : State} {m : MethodId} {args : Array Value} {below : List Frame} {meth : Method} {c : Code} {H : Heap} {locs : List Loc} {Q : State → Prop}
variable {pc : Nat} {ls : Array Slot} {rest st0 : List Value} {ws ws' Ts : List Cond} {cc bytes : ByteArray} {maxL nL index n sz : Nat} {ret : Option FieldType} {own : String} {G : cG} {S : CS} {D D2 : CD} {y : MethodName} {rm : Room} {As av : List Value} {E : String}
variable {Qc : Array Value → State → Outcome → State → Prop}
theorem c_throwG {S0 : CS} {D0 : CD} {ce sl mc ms : Nat} (hl : l.stackTraces = false) (hC : cC RX6 p s m args meth c Ts cc nL ret G S sz) (hP : va_P G.1 vwCl (cW G S D) H) (hS : va_S (cA G S sz) s.heap H locs) (hP0 : va_P G.1 vwCl (cW G S0 D0) H) (hS0 : va_S (cA G S0 sz) s.heap H locs) (hX : xP (cA G S0 sz) s s.heap) (hno : ∀ x ∈ c.exceptionTable.toList, False) (hin : ∀ w ∈ WA, w ∈ Ts) {ik ic is : Nat} {text : String} (hK : xK ik ic E) (htx : (is, text) ∈ xSt) (hsize : ls.size = nL) (hR : 5 < R.frames ∧ (rest.map fun v => v.category).sum + 82 ≤ R.locals ∧ ce + 1 ≤ R.cells ∧ sl + 6 ≤ R.slots) (hcm : ce + 1 ≤ mc) (hsm : sl + 6 ≤ ms)
    (d0 : decode cc pc = .ok (.new ik, 3)) (d3 : decode cc (pc + 3) = .ok (.dup, 1)) (d4 : decode cc (pc + 4) = .ok (.ldc is, 2)) (d6 : decode cc (pc + 6) = .ok (.invokespecial ic, 3)) (d9 : decode cc (pc + 9) = .ok (.athrow, 1)) : W p l e R s m args below meth c H locs ce sl (vx_MQ below Qc (xX G S0 D0 E sz) args s mc ms (cA G S0 sz)) (F0 m pc ls rest) := by
  have hC0 := hC
  obtain ⟨hx, hb, hr, hts, hown, hlocks, hml, hKK, hD, hsz, hN⟩ := hC
  obtain ⟨k1, k2, k3, k4, k5, k6, k7⟩ := hK
  obtain ⟨sa, hsa⟩ := hX.2.2.2.2 _ htx
  refine vx_throwS (A := cA G S0 sz) (sa := sa) (text := text) (names := ["java/lang/RuntimeException", "java/lang/Exception"]) hx hb hl hown k2 (by decide +kernel) (hts _ (hin _ k3)) (hts _ (hin _ k4)) hsa (vx_hat (fun w hw => hts _ (hin _ (k5 w hw))) k6 (hX.bad k1)) ?_ hX.1 hX.2.1 hS0 (hsize.trans hml.symm) d0 d3 d4 d6 d9 (fun x hx => (hno x hx).elim) hR.1 hR.2.1 hR.2.2.1 hR.2.2.2 hlocks ?_ hS0.2.2 hcm hsm
  · intro w hw
    rcases List.mem_cons.mp hw with rfl | hw
    · rfl
    · rcases List.mem_cons.mp hw with rfl | hw
      · rfl
      · exact k7 w hw
  · intro t hW hz hk
    refine ⟨(), trivial, ⟨rfl, hP0.kept (fun k x hx => hk x.1 ((hP0 k x hx).lt)), va_K.moved hW hKK⟩, ?_⟩
    exact ⟨Nat.le_trans hS0.1 hz, fun q h1 h2 => by rw [hk q (Nat.lt_of_lt_of_le h1 hS0.1)]; exact hS0.2.1 q h1 h2⟩
end OROWS
set_option maxRecDepth 100000 in
set_option maxHeartbeats 4000000 in
theorem i_X6_addO (l : Launch) (hfl : l.stackTraces = false) (G : cG) (F : Nat) (S : CS) (D : CD) (a0 al n : Nat) (x1 y1 x2 y2 : Int32) (hm0 : a0 ∈ S.1) (hk0 : S.2.1 a0 = 6) (hal : S.2.2.1 a0 0 = some al) (hma : al ∈ S.1) (hka : S.2.1 al = 7) (hn12 : n < 12) (hsz1 : D.1 al 2 = nI n)
    (e1 : f_X6_checkCoordinate F S D a0 x1 = some ()) (e2 : f_X6_checkCoordinate F S D a0 y1 = some ()) (e3 : f_X6_checkCoordinate F S D a0 x2 = some ()) (e4 : f_X6_checkCoordinate F S D a0 y2 = some ()) (hne : ¬ (x1 = x2 ∧ y1 = y2))
    (hO : ∀ q, q ∉ S.1 → f_X6_overlapsAnyLine F (sAdd S q 4 0) (dSg (dNew D q) q x1 y1 x2 y2) a0 q = some 1) : ∀ sz : Nat, vx_Met l yX6_add wX6_add ({ frames := 9, cells := 2, slots := 12, locals := 300 }) (cPx G sz S D [.ref a0, .int x1, .int y1, .int x2, .int y2]) xQI (xX G S D "java/lang/IllegalStateException" sz) 2 12 (cA G S sz) := by
  refine cBodyTk (Qc := xQI) (cc := cX6_add) (maxL := 6) (ret := (some .int)) (own := RX6) (by decide) rfl rfl ?_
  intro sz p e s m below meth c hC hP hX hno
  have hC0 := hC
  obtain ⟨hx, hb, -, hts, hown, -, hml, -, -, hz0, -⟩ := hC0
  have hS : va_S (cA G S sz) s.heap s.heap [] := va_S.rf
  have hin_X6 : ∀ w ∈ wsX60, w ∈ wX6_add := fun w h => List.mem_cons_of_mem _ (hWCA _ (hWC6 w h))
  have hin_X4 : ∀ w ∈ wsX40, w ∈ wX6_add := fun w h => List.mem_cons_of_mem _ (hWCA _ (hWC4 w h))
  have T42 : ∀ (H : Heap) (locs : List Loc) (ls : Array Slot), va_P G.1 vwCl (cW G S D) H → va_S (cA G S sz) s.heap H locs → lv_has ls 6 [(0, .ref a0), (1, .int x1), (2, .int y1), (3, .int x2), (4, .int y2)] → W p l e (headSpec wX6_add ({ frames := 9, cells := 2, slots := 12, locals := 300 })).room s m ([.ref a0, .int x1, .int y1, .int x2, .int y2] : List Value).toArray below meth c H locs 0 0 (vx_MQ below xQI (xX G S D "java/lang/IllegalStateException" sz) ([.ref a0, .int x1, .int y1, .int x2, .int y2] : List Value).toArray s 2 12 (cA G S sz)) (F0 m 42 ls []) := by
    intro H locs ls hP hS hl
    have fs : f_Jx4a65c_size_8abf5 F S D al = some (nI n) := by
        unfold f_Jx4a65c_size_8abf5
        rw [ck_ok ⟨hma, hka⟩, hsz1]
    refine lv_aload_n hx hb dX6_add_42 rfl (lv_at hl 0 rfl) ?_
    refine n_get (C := RX6) (T := TX6) (N := 8) (ref := "SegmentMap") (ci := 7) (v := .ref al) hC hin_X6 hP hm0 (cE_6 hk0) rfl 0 (by decide) (hts _ (List.mem_cons_of_mem _ (hWCA _ wc_3))) rfl (by show some (va_rf _) = _; rw [hal]; rfl) dX6_add_43 ?_
    refine n_VI (As := []) (rest := []) hC hP hS hma (cE_7 hka) (C := RJx4a65c) (T := TJx4a65c) (N := 3) rfl (m_Jx4a65c_size_8abf5 l G F S D al _ fs) (cwV 0 hts (gVA (hWCA _ wc_4) (hWCA _ wc_5) (hWCA _ wc_6) (hWCA _ wc_7) (hWCA _ wc_0) hWCA) rfl rfl rfl (by decide +kernel) ⟨Nat.le_of_ble_eq_true rfl, Nat.le_of_ble_eq_true rfl⟩) rfl hl.1 rfl (Nat.le_of_ble_eq_true rfl) ⟨Nat.le_of_ble_eq_true rfl, Nat.le_of_ble_eq_true rfl⟩ dX6_add_46 (fun H locs hP hS => ?_)
    refine lv_bipush (v := 12) hx hb dX6_add_49 (by decide) ?_
    refine lv_icmp_lt (tgt := 64) hx hb dX6_add_51 (by decide) (fun _ => ?_) (fun u => absurd ((nI_ltI (a := n) (b := 12) (by omega) (by omega)).mpr hn12) u)
    obtain ⟨q, hq⟩ : ∃ q, H.size = q := ⟨_, rfl⟩
    have hqS : q ∉ S.1 := fun w => by have := cW_lt hP w; omega
    have hsq : sz ≤ q := by rw [← hq, ← hz0]; exact hS.1
    refine n_obj (C := RX4) (T := TX4) (N := 6) (ci := 5) (kd := 4) (h := q) hC hP hS hq hin_X4 tyX4 tyX4_ok (hts _ (List.mem_cons_of_mem _ wa_31)) (hts _ (List.mem_cons_of_mem _ wa_32)) (hts _ (List.mem_cons_of_mem _ (hWCA _ wc_48))) rfl (cnew_4 G _ _ _) cdef_4 (Nat.le_of_ble_eq_true rfl) (Nat.le_of_ble_eq_true rfl) dX6_add_64 (fun H hP hz hS hC => ?_)
    have mq : q ∈ (sAdd S q 4 0).1 := List.mem_append_right _ (List.mem_singleton.mpr rfl)
    have kq : (sAdd S q 4 0).2.1 q = 4 := va_up_self _ _ _
    have old : ∀ x, x ∈ S.1 → x ∈ (sAdd S q 4 0).1 ∧ (sAdd S q 4 0).2.1 x = S.2.1 x ∧ (sAdd S q 4 0).2.2.1 x = S.2.2.1 x ∧ (sAdd S q 4 0).2.2.2 x = S.2.2.2 x := fun x hx => by
        have hxq : x ≠ q := fun w => hqS (w ▸ hx)
        exact ⟨List.mem_append_left _ hx, va_up_ne _ _ hxq, va_up_ne _ _ hxq, va_up_ne _ _ hxq⟩
    refine lv_dup hx hb dX6_add_67 rfl ?_
    refine lv_iload_n hx hb dX6_add_68 rfl (lv_at hl 1 rfl) ?_
    refine lv_iload_n hx hb dX6_add_69 rfl (lv_at hl 2 rfl) ?_
    refine lv_iload_n hx hb dX6_add_70 rfl (lv_at hl 3 rfl) ?_
    refine lv_iload hx hb dX6_add_71 (lv_at hl 4 rfl) ?_
    refine n_init (As := [.int x1, .int y1, .int x2, .int y2]) (rest := [.ref q]) (h := q + 1) hC hP hS hz (i_X4 l G _ _ q mq kq x1 y1 x2 y2) (cwI 4 hts (gIA wa_18 (fun w h => h)) rfl rfl rfl (hts _ (List.mem_cons_of_mem _ (hWCA _ wc_48))) (hts _ (List.mem_cons_of_mem _ wa_55)) (hts _ (List.mem_cons_of_mem _ wa_56)) rfl (by decide +kernel) ⟨Nat.le_of_ble_eq_true rfl, Nat.le_of_ble_eq_true rfl⟩) rfl hl.1 rfl (Nat.le_of_ble_eq_true rfl) ⟨Nat.le_of_ble_eq_true rfl, Nat.le_of_ble_eq_true rfl⟩ dX6_add_73 (fun S2 D2 H locs hRl hGr hP hz hS hC => ?_)
    have hS2 := hRl.1
    have hD2 := hRl.2
    rw [hS2, hD2] at hP
    rw [hS2] at hS hC
    refine lv_astore (lv' := [(5, .ref q), (0, .ref a0), (1, .int x1), (2, .int y1), (3, .int x2), (4, .int y2)]) hx hb dX6_add_76 hl (by decide) rfl (fun ls hl => ?_)
    obtain ⟨b1, b2, b3, b4⟩ := old a0 hm0
    have hk0q := b2.trans hk0
    refine lv_aload_n hx hb dX6_add_78 rfl (lv_at hl 1 rfl) ?_
    refine lv_aload hx hb dX6_add_79 (lv_at hl 0 rfl) ?_
    refine n_VI (As := [.ref q]) (rest := []) hC hP hS b1 (cE_6 hk0q) (C := RX6) (T := TX6) (N := 8) rfl (m_X6_overlapsAnyLine l G F _ _ a0 q _ (hO q hqS)) (cwV 1 hts (gVA wa_72 wa_73 wa_74 (hWCA _ wc_66) (hWCA _ wc_193) hWCA) rfl rfl rfl (by decide +kernel) ⟨Nat.le_of_ble_eq_true rfl, Nat.le_of_ble_eq_true rfl⟩) rfl hl.1 rfl (Nat.le_of_ble_eq_true rfl) ⟨Nat.le_of_ble_eq_true rfl, Nat.le_of_ble_eq_true rfl⟩ dX6_add_81 (fun H locs hP hS => ?_)
    refine lv_if_eq (tgt := 97) hx hb dX6_add_84 (by decide) (fun u => absurd u (by decide)) (fun _ => ?_)
    have hin : ∀ w ∈ WA, w ∈ wX6_add := fun w h => List.mem_cons_of_mem _ h
    have hP0 : va_P G.1 vwCl (cW G S D) H := cW_forget hP (fun x hx => by
      have hxq : x ≠ q := fun w => hqS (w ▸ hx)
      obtain ⟨o1, o2, o3, o4⟩ := old x hx
      obtain ⟨g1, g2, g3, g4⟩ := dSn_x D q x x1 y1 x2 y2 hxq
      exact ⟨o1, cE_cong o2 o3 o4 g1 g2 g3 g4⟩)
    have hS0 : va_S (cA G S sz) s.heap H locs := va_S.mono hS (cA_mono (fun x hx => by
      rcases List.mem_append.mp hx with h | h
      · exact Or.inl h
      · rw [List.mem_singleton.mp h]; exact Or.inr hsq))
    exact c_throwG hfl hC hP hS hP0 hS0 hX hno hin xk_83 (text := "more than one point in common with another segment") (by decide +kernel) hl.1 (by exact ⟨Nat.le_of_ble_eq_true rfl, Nat.le_of_ble_eq_true rfl, Nat.le_of_ble_eq_true rfl, Nat.le_of_ble_eq_true rfl⟩) (Nat.le_of_ble_eq_true rfl) (Nat.le_of_ble_eq_true rfl) dX6_add_87 dX6_add_90 dX6_add_91 dX6_add_93 dX6_add_96
  refine m_entry (Nat.le_of_ble_eq_true rfl) (fun ls hl => ?_)
  have hl : lv_has ls 6 [(0, .ref a0), (1, .int x1), (2, .int y1), (3, .int x2), (4, .int y2)] := hl
  refine lv_aload_n hx hb dX6_add_0 rfl (lv_at hl 0 rfl) ?_
  refine lv_iload_n hx hb dX6_add_1 rfl (lv_at hl 1 rfl) ?_
  refine c_VV (As := [.int x1]) (rest := []) hC hP hS hm0 (cE_6 hk0) (C := RX6) (T := TX6) (N := 8) rfl (m_X6_checkCoordinate l G F S D a0 x1 e1) (cwV 1 hts (gVA (hWCA _ wc_170) (hWCA _ wc_171) (hWCA _ wc_172) (hWCA _ wc_66) (hWCA _ wc_118) hWCA) rfl rfl rfl (by decide +kernel) ⟨Nat.le_of_ble_eq_true rfl, Nat.le_of_ble_eq_true rfl⟩) rfl hl.1 rfl (Nat.le_of_ble_eq_true rfl) dX6_add_2 (fun H locs hP hS => ?_)
  refine lv_aload_n hx hb dX6_add_5 rfl (lv_at hl 0 rfl) ?_
  refine lv_iload_n hx hb dX6_add_6 rfl (lv_at hl 2 rfl) ?_
  refine c_VV (As := [.int y1]) (rest := []) hC hP hS hm0 (cE_6 hk0) (C := RX6) (T := TX6) (N := 8) rfl (m_X6_checkCoordinate l G F S D a0 y1 e2) (cwV 1 hts (gVA (hWCA _ wc_170) (hWCA _ wc_171) (hWCA _ wc_172) (hWCA _ wc_66) (hWCA _ wc_118) hWCA) rfl rfl rfl (by decide +kernel) ⟨Nat.le_of_ble_eq_true rfl, Nat.le_of_ble_eq_true rfl⟩) rfl hl.1 rfl (Nat.le_of_ble_eq_true rfl) dX6_add_7 (fun H locs hP hS => ?_)
  refine lv_aload_n hx hb dX6_add_10 rfl (lv_at hl 0 rfl) ?_
  refine lv_iload_n hx hb dX6_add_11 rfl (lv_at hl 3 rfl) ?_
  refine c_VV (As := [.int x2]) (rest := []) hC hP hS hm0 (cE_6 hk0) (C := RX6) (T := TX6) (N := 8) rfl (m_X6_checkCoordinate l G F S D a0 x2 e3) (cwV 1 hts (gVA (hWCA _ wc_170) (hWCA _ wc_171) (hWCA _ wc_172) (hWCA _ wc_66) (hWCA _ wc_118) hWCA) rfl rfl rfl (by decide +kernel) ⟨Nat.le_of_ble_eq_true rfl, Nat.le_of_ble_eq_true rfl⟩) rfl hl.1 rfl (Nat.le_of_ble_eq_true rfl) dX6_add_12 (fun H locs hP hS => ?_)
  refine lv_aload_n hx hb dX6_add_15 rfl (lv_at hl 0 rfl) ?_
  refine lv_iload hx hb dX6_add_16 (lv_at hl 4 rfl) ?_
  refine c_VV (As := [.int y2]) (rest := []) hC hP hS hm0 (cE_6 hk0) (C := RX6) (T := TX6) (N := 8) rfl (m_X6_checkCoordinate l G F S D a0 y2 e4) (cwV 1 hts (gVA (hWCA _ wc_170) (hWCA _ wc_171) (hWCA _ wc_172) (hWCA _ wc_66) (hWCA _ wc_118) hWCA) rfl rfl rfl (by decide +kernel) ⟨Nat.le_of_ble_eq_true rfl, Nat.le_of_ble_eq_true rfl⟩) rfl hl.1 rfl (Nat.le_of_ble_eq_true rfl) dX6_add_18 (fun H locs hP hS => ?_)
  refine lv_iload_n hx hb dX6_add_21 rfl (lv_at hl 1 rfl) ?_
  refine lv_iload_n hx hb dX6_add_22 rfl (lv_at hl 3 rfl) ?_
  refine lv_icmp_ne (tgt := 42) hx hb dX6_add_23 (by decide) (fun _ => T42 H locs ls hP hS hl) (fun u1 => ?_)
  refine lv_iload_n hx hb dX6_add_26 rfl (lv_at hl 2 rfl) ?_
  refine lv_iload hx hb dX6_add_27 (lv_at hl 4 rfl) ?_
  refine lv_icmp_ne (tgt := 42) hx hb dX6_add_29 (by decide) (fun _ => T42 H locs ls hP hS hl) (fun u2 => absurd ⟨u1, u2⟩ hne)
