/-! SegmentMap.add, its normal road -/
section DRW
variable {p : Program} {l : Launch} {e : Env} {R : Room} {s : State} {m : MethodId} {args : Array Value} {below : List Frame} {meth : Method} {c : Code} {H : Heap} {locs : List Loc} {Q : State → Prop}
variable {pc : Nat} {ls : Array Slot} {rest st0 : List Value} {ws ws' Ts : List Cond} {cc bytes : ByteArray} {maxL nL index n sz h ce sl mc ms : Nat} {ret : Option FieldType} {own : String} {G : cG} {S0 S S2 : CS} {D D2 : CD} {y : MethodName} {rm : Room} {As av : List Value} {z : Nat × Nat}

theorem a_iW {C : String} {T : u_T} {N ci a : Nat} {fs : List Value} {r : Int32} {Rl : Nat → CS → CD → Prop} (hC : cC own p s m args meth c Ts cc nL ret G S sz) (hP : va_P G.1 vwCl (cW G S D) H) (hS : va_S (cA G S sz) s.heap H locs) (hZ : zP z (cA G S0 sz) s s.heap) (h2 : gr0 S0 S sz) (hm : a ∈ S.1) (hE : cE G S D a = .inr (ci, fs)) (hc : vwCl[ci]? = some (C, T, N)) {ret' : Option FieldType} (hM : cMKi l y ws rm G S z (.ref a :: As) D mc ms r Rl) (cw : CallW R s args own C index y bytes maxL ret' ws rm mc ms n) (hn : As.length = n) (hsize : ls.size = nL) (hst : st0 = As.reverse ++ .ref a :: rest) (hr8 : (rest.map fun v => v.category).sum ≤ 8) (hR : ce + mc ≤ R.cells ∧ sl + ms ≤ R.slots) (hdg : decode cc pc = .ok (.invokevirtual index, 3))
    (kk : ∀ (b : Nat) (S2 : CS) (D2 : CD) (H1 : Heap) (locs1 : List Loc), sz ≤ b → (∀ x ∈ S.1, x < b) → Rl b S2 D2 → gr0 S0 S2 sz → va_P G.1 vwCl (cW G S2 D2) H1 → va_S (cA G S2 sz) s.heap H1 locs1 → cC own p s m args meth c Ts cc nL ret G S2 sz → W p l e R s m args below meth c H1 locs1 (ce + mc) (sl + ms) Q (F0 m (pc + 3) ls (.int r :: rest))) : W p l e R s m args below meth c H locs ce sl Q (F0 m pc ls st0) := by
  have hb : sz ≤ H.size := by obtain ⟨a1, a2, a3, a4, a5, a6, a7, a8, a9, a10, a11⟩ := hC; rw [← a10]; exact hS.1
  refine va_calli (va_runV (As := As) (rest := rest) (g := F0 m pc ls st0) (c_fix hC) (hM H.size) cw ⟨zBlind, c_rec hC hP hm hE hc, fun U hU hW => z_pre (av := .ref a :: As) hC hP hS hZ h2.2 U hU hW⟩ rfl hn hsize hst (lv_room hr8) hdg hR) hS (fun q _ h => c_sub hC hS q h) (c_sub hC hS) (fun r1 u t H1 locs1 ht hvm hw hB hz1 hk1 hS1 => ?_)
  obtain ⟨rfl, hw1, hw2⟩ := hw
  exact kk H.size u.1 u.2 H1 locs1 hb (fun x hx => cW_lt hP hx) hw1 (gr0.tr h2 hw2 hb) (by rw [← ht]; exact hB.1) (va_S.mono hS1 (cA_mono (fun q hq => Or.inl (hw2.1 q hq)))) (cC_S hC ⟨cD0, hw2.2.2 cD0⟩)
theorem n_VI {r : Int32} {C : String} {T : u_T} {N ci a : Nat} {fs : List Value} (hC : cC own p s m args meth c Ts cc nL ret G S sz) (hP : va_P G.1 vwCl (cW G S D) H) (hS : va_S (cA G S sz) s.heap H locs) (hm : a ∈ S.1) (hE : cE G S D a = .inr (ci, fs)) (hc : vwCl[ci]? = some (C, T, N)) {ret' : Option FieldType} (hM : cMI l y ws rm G S (.ref a :: As) D D2 r) (cw : CallW R s args own C index y bytes maxL ret' ws rm 0 0 n) (hn : As.length = n) (hsize : ls.size = nL) (hst : st0 = As.reverse ++ .ref a :: rest) (hr8 : (rest.map fun v => v.category).sum ≤ 8) (hR : ce + 0 ≤ R.cells ∧ sl + 0 ≤ R.slots) (hdg : decode cc pc = .ok (.invokevirtual index, 3))
    (kk : ∀ (H1 : Heap) (locs1 : List Loc), va_P G.1 vwCl (cW G S D2) H1 → va_S (cA G S sz) s.heap H1 locs1 → W p l e R s m args below meth c H1 locs1 ce sl Q (F0 m (pc + 3) ls (.int r :: rest))) : W p l e R s m args below meth c H locs ce sl Q (F0 m pc ls st0) := by
  refine va_calli (va_runV (As := As) (rest := rest) (g := F0 m pc ls st0) (c_fix hC) (hM H.size) cw ⟨cBlind, c_rec hC hP hm hE hc, fun U hU hW => c_pre (av := .ref a :: As) hC hP U hU hW⟩ rfl hn hsize hst (lv_room hr8) hdg hR) hS (fun q _ h => c_sub hC hS q h) (c_sub hC hS) (fun r1 u t H1 locs1 ht hvm hw hB hz1 hk1 hS1 => ?_)
  cases hw
  exact kk H1 locs1 (by rw [← ht]; exact hB.1) hS1
end DRW
theorem dSg_x (D : CD) (a x : Nat) (x1 y1 x2 y2 : Int32) (h : x ≠ a) : (dSg D a x1 y1 x2 y2).1 x = D.1 x ∧ (dSg D a x1 y1 x2 y2).2.1 x = D.2.1 x ∧ (dSg D a x1 y1 x2 y2).2.2 = D.2.2 := by
  unfold dSg dSg4
  split <;> exact ⟨by simp [cpF, cpG, va_up, h], by simp [cpF, cpG, va_up, h], rfl⟩
theorem dSn_x (D : CD) (q x : Nat) (x1 y1 x2 y2 : Int32) (h : x ≠ q) : (dSg (dNew D q) q x1 y1 x2 y2).1 x = D.1 x ∧ (dSg (dNew D q) q x1 y1 x2 y2).2.1 x = D.2.1 x ∧ (dSg (dNew D q) q x1 y1 x2 y2).2.2.1 x = D.2.2.1 x ∧ (dSg (dNew D q) q x1 y1 x2 y2).2.2.2 x = D.2.2.2 x := by
  obtain ⟨h1, h2, h3⟩ := dSg_x (dNew D q) q x x1 y1 x2 y2 h
  obtain ⟨g1, g2, g3, g4⟩ := dNew_x D q x h
  exact ⟨h1.trans g1, h2.trans g2, by rw [h3]; exact g3, by rw [h3]; exact g4⟩
theorem rLs_seg {S : CS} {D : CD} {z : Nat × Nat} {al arr n q : Nat} (x1 y1 x2 y2 : Int32) (h : rLs S D z al arr n) (hq : q ∉ S.1) (hma : al ∈ S.1) : rLs (sAdd S q 4 0) (dSg (dNew D q) q x1 y1 x2 y2) z al arr n := by
  obtain ⟨h1, h2, h3⟩ := h
  have ha : al ≠ q := fun w => hq (w ▸ hma)
  refine ⟨(congrFun (va_up_ne _ _ ha) 1).trans h1, ?_, ?_⟩
  · rw [(dSn_x D q al x1 y1 x2 y2 ha).1]; exact h2
  · rcases h3 with h3 | ⟨r1, r2, r3, r4, r5⟩
    · exact Or.inl h3
    · have hr : arr ≠ q := fun w => hq (w ▸ r1)
      have el : (sAdd S q 4 0).2.2.2 arr = S.2.2.2 arr := va_up_ne _ _ hr
      refine Or.inr ⟨List.mem_append_left _ r1, (va_up_ne _ _ hr).trans r2, by rw [el]; exact r3, by rw [el]; exact r4, fun i hi y hy => ?_⟩
      rw [(dSn_x D q arr x1 y1 x2 y2 hr).2.2.2] at hy
      obtain ⟨y1', y2'⟩ := r5 i hi y hy
      have hyq : y ≠ q := fun w => hq (w ▸ y1')
      exact ⟨List.mem_append_left _ y1', (va_up_ne _ _ hyq).trans y2'⟩
set_option maxRecDepth 100000 in
set_option maxHeartbeats 4000000 in
theorem i_X6_add (l : Launch) (G : cG) (F : Nat) (S : CS) (z : Nat × Nat) (D : CD) (a0 al arr n : Nat) (x1 y1 x2 y2 : Int32) (hm0 : a0 ∈ S.1) (hk0 : S.2.1 a0 = 6) (hal : S.2.2.1 a0 0 = some al) (hma : al ∈ S.1) (hka : S.2.1 al = 7) (hn12 : n < 12) (hLs : rLs S D z al arr n)
    (e1 : f_X6_checkCoordinate F S D a0 x1 = some ()) (e2 : f_X6_checkCoordinate F S D a0 y1 = some ()) (e3 : f_X6_checkCoordinate F S D a0 x2 = some ()) (e4 : f_X6_checkCoordinate F S D a0 y2 = some ()) (hne : ¬ (x1 = x2 ∧ y1 = y2)) (Rl : CS → CD → Prop)
    (hO : ∀ q, q ∉ S.1 → q ≠ z.1 → f_X6_overlapsAnyLine F (sAdd S q 4 0) (dSg (dNew D q) q x1 y1 x2 y2) a0 q = some 0)
    (hR : ∀ (q b : Nat) (S2 : CS) (D2 : CD), q ∉ S.1 → q ≠ z.1 → (∀ x ∈ (sAdd S q 4 0).1, x < b) → rAd (sAdd S q 4 0) (dSg (dNew D q) q x1 y1 x2 y2) al arr n q b S2 D2 → ∃ D3, f_X6_rebuild F S2 D2 a0 = some D3 ∧ D3.1 al 2 = nI (n + 1) ∧ Rl S2 D3) : cMKi l yX6_add wX6_add ({ frames := 9, cells := 2, slots := 21, locals := 300 }) G S z [.ref a0, .int x1, .int y1, .int x2, .int y2] D 2 21 (nI n) (fun _ S2 D2 => Rl S2 D2) := by
  refine cBodyKz (cc := cX6_add) (maxL := 6) (ret := (some .int)) (own := RX6) (by decide) rfl rfl ?_
  intro sz p e s m below meth c hC hP hZ hname
  have hC0 := hC
  obtain ⟨hx, hb, -, hts, hown, -, hml, -, -, hz0, -⟩ := hC0
  have hS : va_S (cA G S sz) s.heap s.heap [] := va_S.rf
  have hin_X6 : ∀ w ∈ wsX60, w ∈ wX6_add := fun w h => List.mem_cons_of_mem _ (hWCA _ (hWC6 w h))
  have hin_X4 : ∀ w ∈ wsX40, w ∈ wX6_add := fun w h => List.mem_cons_of_mem _ (hWCA _ (hWC4 w h))
  have T42 : ∀ (H : Heap) (locs : List Loc) (ls : Array Slot), va_P G.1 vwCl (cW G S D) H → va_S (cA G S sz) s.heap H locs → lv_has ls 6 [(0, .ref a0), (1, .int x1), (2, .int y1), (3, .int x2), (4, .int y2)] → W p l e (headSpec wX6_add ({ frames := 9, cells := 2, slots := 21, locals := 300 })).room s m ([.ref a0, .int x1, .int y1, .int x2, .int y2] : List Value).toArray below meth c H locs 0 0 (MQ below (va_Qi (fun r1 (u : CS × CD) => r1 = nI n ∧ (fun _ S2 D2 => Rl S2 D2) sz u.1 u.2 ∧ cGr G S u.1 sz) (fun u t => cIs G u.1 u.2 t) (cA G S sz)) ([.ref a0, .int x1, .int y1, .int x2, .int y2] : List Value).toArray s 2 21 (cA G S sz)) (F0 m 42 ls []) := by
    intro H locs ls hP hS hl
    have fs : f_Jx4a65c_size_8abf5 F S D al = some (nI n) := by
        unfold f_Jx4a65c_size_8abf5
        rw [ck_ok ⟨hma, hka⟩, hLs.2.1]
    refine lv_aload_n hx hb dX6_add_42 rfl (lv_at hl 0 rfl) ?_
    refine n_get (C := RX6) (T := TX6) (N := 8) (ref := "SegmentMap") (ci := 7) (v := .ref al) hC hin_X6 hP hm0 (cE_6 hk0) rfl 0 (by decide) (hts _ (List.mem_cons_of_mem _ (hWCA _ wc_3))) rfl (by show some (va_rf _) = _; rw [hal]; rfl) dX6_add_43 ?_
    refine n_VI (As := []) (rest := []) hC hP hS hma (cE_7 hka) (C := RJx4a65c) (T := TJx4a65c) (N := 3) rfl (m_Jx4a65c_size_8abf5 l G F S D al _ fs) (cwV 0 hts (gVA (hWCA _ wc_4) (hWCA _ wc_5) (hWCA _ wc_6) (hWCA _ wc_7) (hWCA _ wc_0) hWCA) rfl rfl rfl (by decide +kernel) ⟨Nat.le_of_ble_eq_true rfl, Nat.le_of_ble_eq_true rfl⟩) rfl hl.1 rfl (Nat.le_of_ble_eq_true rfl) ⟨Nat.le_of_ble_eq_true rfl, Nat.le_of_ble_eq_true rfl⟩ dX6_add_46 (fun H locs hP hS => ?_)
    refine lv_bipush (v := 12) hx hb dX6_add_49 (by decide) ?_
    refine lv_icmp_lt (tgt := 64) hx hb dX6_add_51 (by decide) (fun _ => ?_) (fun u => absurd ((nI_ltI (a := n) (b := 12) (by omega) (by omega)).mpr hn12) u)
    obtain ⟨q, hq⟩ : ∃ q, H.size = q := ⟨_, rfl⟩
    have hqS : q ∉ S.1 := fun w => by have := cW_lt hP w; omega
    have hsq : sz ≤ q := by rw [← hq, ← hz0]; exact hS.1
    have hqz : q ≠ z.1 := fun w => va_T.out hZ.2.1 (cA_mem.mpr (Or.inr (w ▸ hsq)))
    refine n_obj (C := RX4) (T := TX4) (N := 6) (ci := 5) (kd := 4) (h := q) hC hP hS hq hin_X4 tyX4 tyX4_ok (hts _ (List.mem_cons_of_mem _ wa_31)) (hts _ (List.mem_cons_of_mem _ wa_32)) (hts _ (List.mem_cons_of_mem _ (hWCA _ wc_48))) rfl (cnew_4 G _ _ _) cdef_4 (Nat.le_of_ble_eq_true rfl) (Nat.le_of_ble_eq_true rfl) dX6_add_64 (fun H hP hz hS hC => ?_)
    have mq : q ∈ (sAdd S q 4 0).1 := List.mem_append_right _ (List.mem_singleton.mpr rfl)
    have kq : (sAdd S q 4 0).2.1 q = 4 := va_up_self _ _ _
    have old : ∀ x, x ∈ S.1 → x ∈ (sAdd S q 4 0).1 ∧ (sAdd S q 4 0).2.1 x = S.2.1 x ∧ (sAdd S q 4 0).2.2.1 x = S.2.2.1 x ∧ (sAdd S q 4 0).2.2.2 x = S.2.2.2 x := fun x hx => by
        have hxq : x ≠ q := fun w => hqS (w ▸ hx)
        exact ⟨List.mem_append_left _ hx, va_up_ne _ _ hxq, va_up_ne _ _ hxq, va_up_ne _ _ hxq⟩
    refine lv_dup hx hb dX6_add_67 rfl ?_
    refine lv_iload_n hx hb dX6_add_68 rfl (lv_at hl 1 rfl) ?_
    refine lv_iload_n hx hb dX6_add_69 rfl (lv_at hl 2 rfl) ?_
    refine lv_iload_n hx hb dX6_add_70 rfl (lv_at hl 3 rfl) ?_
    refine lv_iload hx hb dX6_add_71 (lv_at hl 4 rfl) ?_
    refine n_init (As := [.int x1, .int y1, .int x2, .int y2]) (rest := [.ref q]) (h := q + 1) hC hP hS hz (i_X4 l G _ _ q mq kq x1 y1 x2 y2) (cwI 4 hts (gIA wa_18 (fun w h => h)) rfl rfl rfl (hts _ (List.mem_cons_of_mem _ (hWCA _ wc_48))) (hts _ (List.mem_cons_of_mem _ wa_55)) (hts _ (List.mem_cons_of_mem _ wa_56)) rfl (by decide +kernel) ⟨Nat.le_of_ble_eq_true rfl, Nat.le_of_ble_eq_true rfl⟩) rfl hl.1 rfl (Nat.le_of_ble_eq_true rfl) ⟨Nat.le_of_ble_eq_true rfl, Nat.le_of_ble_eq_true rfl⟩ dX6_add_73 (fun S2 D2 H locs hRl hGr hP hz hS hC => ?_)
    have hS2 := hRl.1
    have hD2 := hRl.2
    rw [hS2, hD2] at hP
    rw [hS2] at hS hC
    refine lv_astore (lv' := [(5, .ref q), (0, .ref a0), (1, .int x1), (2, .int y1), (3, .int x2), (4, .int y2)]) hx hb dX6_add_76 hl (by decide) rfl (fun ls hl => ?_)
    obtain ⟨b1, b2, b3, b4⟩ := old a0 hm0
    obtain ⟨c1, c2, c3, c4⟩ := old al hma
    have hk0q := b2.trans hk0
    have hkaq := c2.trans hka
    have halq : (sAdd S q 4 0).2.2.1 a0 0 = some al := (congrFun b3 0).trans hal
    refine lv_aload_n hx hb dX6_add_78 rfl (lv_at hl 1 rfl) ?_
    refine lv_aload hx hb dX6_add_79 (lv_at hl 0 rfl) ?_
    refine n_VI (As := [.ref q]) (rest := []) hC hP hS b1 (cE_6 hk0q) (C := RX6) (T := TX6) (N := 8) rfl (m_X6_overlapsAnyLine l G F _ _ a0 q _ (hO q hqS hqz)) (cwV 1 hts (gVA wa_72 wa_73 wa_74 (hWCA _ wc_66) (hWCA _ wc_193) hWCA) rfl rfl rfl (by decide +kernel) ⟨Nat.le_of_ble_eq_true rfl, Nat.le_of_ble_eq_true rfl⟩) rfl hl.1 rfl (Nat.le_of_ble_eq_true rfl) ⟨Nat.le_of_ble_eq_true rfl, Nat.le_of_ble_eq_true rfl⟩ dX6_add_81 (fun H locs hP hS => ?_)
    refine lv_if_eq (tgt := 97) hx hb dX6_add_84 (by decide) (fun _ => ?_) (fun u => absurd rfl u)
    refine lv_aload_n hx hb dX6_add_97 rfl (lv_at hl 1 rfl) ?_
    refine n_get (C := RX6) (T := TX6) (N := 8) (ref := "SegmentMap") (ci := 7) (v := .ref al) hC hin_X6 hP b1 (cE_6 hk0q) rfl 0 (by decide) (hts _ (List.mem_cons_of_mem _ (hWCA _ wc_3))) rfl (by show some (va_rf _) = _; rw [halq]; rfl) dX6_add_98 ?_
    refine lv_aload hx hb dX6_add_101 (lv_at hl 0 rfl) ?_
    have hG1 : gr0 S (sAdd S q 4 0) sz := gr0.add gr0.rfl hsq
    have hLs1 : rLs (sAdd S q 4 0) (dSg (dNew D q) q x1 y1 x2 y2) z al arr n := rLs_seg x1 y1 x2 y2 hLs hqS hma
    refine a_iW (S0 := S) (As := [.ref q]) (rest := []) hC hP hS hZ hG1 c1 (cE_7 hkaq) (C := RJx4a65c) (T := TJx4a65c) (N := 3) rfl (i_Jx4a65c_add_9ea2d l G _ z _ al q c1 hkaq mq kq arr n hn12 hLs1) (cwV 1 hts (gVA wa_75 wa_76 wa_77 (hWCA _ wc_7) wa_78 (fun w h => h)) rfl rfl rfl (by decide +kernel) ⟨Nat.le_of_ble_eq_true rfl, Nat.le_of_ble_eq_true rfl⟩) rfl hl.1 rfl (Nat.le_of_ble_eq_true rfl) ⟨Nat.le_of_ble_eq_true rfl, Nat.le_of_ble_eq_true rfl⟩ dX6_add_103 (fun b S3 D3 H locs hb2 hbl hRl hG hP hS hC => ?_)
    obtain ⟨D4, g1, g2, g3⟩ := hR q b S3 D3 hqS hqz hbl hRl
    have hrw : ∃ r, rRw (sAdd S q 4 0) al arr n b r S3 := by obtain ⟨r, h, -⟩ := hRl; exact ⟨r, h⟩
    obtain ⟨r, hrw⟩ := hrw
    have ha0l : a0 ≠ al := fun w => by rw [w, hka] at hk0; exact absurd hk0 (by decide)
    obtain ⟨m1, k1⟩ := rRw_old hrw b1 (hbl a0 b1)
    obtain ⟨m2, k2⟩ := rRw_old hrw c1 (hbl al c1)
    have hk03 := k1.trans hk0q
    have hka3 := k2.trans hkaq
    have hal3 : S3.2.2.1 a0 0 = some al := by
        rcases hrw with ⟨-, h, -⟩ | ⟨hb3, L, -, -, h⟩
        · rw [h]; exact halq
        · rw [h, sRef_r _ _ _ _ _ ha0l, sAdd_r _ _ _ _ _ (Nat.lt_of_lt_of_le (hbl a0 b1) hb3)]; exact halq
    refine lv_pop hx hb dX6_add_106 rfl ?_
    refine lv_aload_n hx hb dX6_add_107 rfl (lv_at hl 1 rfl) ?_
    refine n_VV (As := []) (rest := []) hC hP hS m1 (cE_6 hk03) (C := RX6) (T := TX6) (N := 8) rfl (m_X6_rebuild l G F S3 D3 D4 a0 g1) (cwV 0 hts (gVA wa_64 wa_65 wa_66 (hWCA _ wc_66) (hWCA _ wc_310) hWCA) rfl rfl rfl (by decide +kernel) ⟨Nat.le_of_ble_eq_true rfl, Nat.le_of_ble_eq_true rfl⟩) rfl hl.1 rfl (Nat.le_of_ble_eq_true rfl) ⟨Nat.le_of_ble_eq_true rfl, Nat.le_of_ble_eq_true rfl⟩ dX6_add_108 (fun H locs hP hS => ?_)
    refine lv_aload_n hx hb dX6_add_111 rfl (lv_at hl 1 rfl) ?_
    refine n_get (C := RX6) (T := TX6) (N := 8) (ref := "SegmentMap") (ci := 7) (v := .ref al) hC hin_X6 hP m1 (cE_6 hk03) rfl 0 (by decide) (hts _ (List.mem_cons_of_mem _ (hWCA _ wc_3))) rfl (by show some (va_rf _) = _; rw [hal3]; rfl) dX6_add_112 ?_
    have fs3 : f_Jx4a65c_size_8abf5 F S3 D4 al = some (nI (n + 1)) := by
        unfold f_Jx4a65c_size_8abf5
        rw [ck_ok ⟨m2, hka3⟩, g2]
    refine n_VI (As := []) (rest := []) hC hP hS m2 (cE_7 hka3) (C := RJx4a65c) (T := TJx4a65c) (N := 3) rfl (m_Jx4a65c_size_8abf5 l G F S3 D4 al _ fs3) (cwV 0 hts (gVA (hWCA _ wc_4) (hWCA _ wc_5) (hWCA _ wc_6) (hWCA _ wc_7) (hWCA _ wc_0) hWCA) rfl rfl rfl (by decide +kernel) ⟨Nat.le_of_ble_eq_true rfl, Nat.le_of_ble_eq_true rfl⟩) rfl hl.1 rfl (Nat.le_of_ble_eq_true rfl) ⟨Nat.le_of_ble_eq_true rfl, Nat.le_of_ble_eq_true rfl⟩ dX6_add_115 (fun H locs hP hS => ?_)
    refine lv_iconst (v := 1) hx hb dX6_add_118 (by decide) ?_
    refine lv_isub hx hb dX6_add_119 ?_
    rw [show nI (n + 1) - 1 = nI n from by have h := nI_add n 1; rw [← h]; exact Int32.add_sub_cancel _ _]
    exact a_iret (S0 := S) (Rl := (fun _ S2 D2 => Rl S2 D2)) hC hP hS g3 hG dX6_add_120 (Nat.le_of_ble_eq_true rfl) (Nat.le_of_ble_eq_true rfl)
  refine m_entry (Nat.le_of_ble_eq_true rfl) (fun ls hl => ?_)
  have hl : lv_has ls 6 [(0, .ref a0), (1, .int x1), (2, .int y1), (3, .int x2), (4, .int y2)] := hl
  refine lv_aload_n hx hb dX6_add_0 rfl (lv_at hl 0 rfl) ?_
  refine lv_iload_n hx hb dX6_add_1 rfl (lv_at hl 1 rfl) ?_
  refine c_VV (As := [.int x1]) (rest := []) hC hP hS hm0 (cE_6 hk0) (C := RX6) (T := TX6) (N := 8) rfl (m_X6_checkCoordinate l G F S D a0 x1 e1) (cwV 1 hts (gVA (hWCA _ wc_170) (hWCA _ wc_171) (hWCA _ wc_172) (hWCA _ wc_66) (hWCA _ wc_118) hWCA) rfl rfl rfl (by decide +kernel) ⟨Nat.le_of_ble_eq_true rfl, Nat.le_of_ble_eq_true rfl⟩) rfl hl.1 rfl (Nat.le_of_ble_eq_true rfl) dX6_add_2 (fun H locs hP hS => ?_)
  refine lv_aload_n hx hb dX6_add_5 rfl (lv_at hl 0 rfl) ?_
  refine lv_iload_n hx hb dX6_add_6 rfl (lv_at hl 2 rfl) ?_
  refine c_VV (As := [.int y1]) (rest := []) hC hP hS hm0 (cE_6 hk0) (C := RX6) (T := TX6) (N := 8) rfl (m_X6_checkCoordinate l G F S D a0 y1 e2) (cwV 1 hts (gVA (hWCA _ wc_170) (hWCA _ wc_171) (hWCA _ wc_172) (hWCA _ wc_66) (hWCA _ wc_118) hWCA) rfl rfl rfl (by decide +kernel) ⟨Nat.le_of_ble_eq_true rfl, Nat.le_of_ble_eq_true rfl⟩) rfl hl.1 rfl (Nat.le_of_ble_eq_true rfl) dX6_add_7 (fun H locs hP hS => ?_)
  refine lv_aload_n hx hb dX6_add_10 rfl (lv_at hl 0 rfl) ?_
  refine lv_iload_n hx hb dX6_add_11 rfl (lv_at hl 3 rfl) ?_
  refine c_VV (As := [.int x2]) (rest := []) hC hP hS hm0 (cE_6 hk0) (C := RX6) (T := TX6) (N := 8) rfl (m_X6_checkCoordinate l G F S D a0 x2 e3) (cwV 1 hts (gVA (hWCA _ wc_170) (hWCA _ wc_171) (hWCA _ wc_172) (hWCA _ wc_66) (hWCA _ wc_118) hWCA) rfl rfl rfl (by decide +kernel) ⟨Nat.le_of_ble_eq_true rfl, Nat.le_of_ble_eq_true rfl⟩) rfl hl.1 rfl (Nat.le_of_ble_eq_true rfl) dX6_add_12 (fun H locs hP hS => ?_)
  refine lv_aload_n hx hb dX6_add_15 rfl (lv_at hl 0 rfl) ?_
  refine lv_iload hx hb dX6_add_16 (lv_at hl 4 rfl) ?_
  refine c_VV (As := [.int y2]) (rest := []) hC hP hS hm0 (cE_6 hk0) (C := RX6) (T := TX6) (N := 8) rfl (m_X6_checkCoordinate l G F S D a0 y2 e4) (cwV 1 hts (gVA (hWCA _ wc_170) (hWCA _ wc_171) (hWCA _ wc_172) (hWCA _ wc_66) (hWCA _ wc_118) hWCA) rfl rfl rfl (by decide +kernel) ⟨Nat.le_of_ble_eq_true rfl, Nat.le_of_ble_eq_true rfl⟩) rfl hl.1 rfl (Nat.le_of_ble_eq_true rfl) dX6_add_18 (fun H locs hP hS => ?_)
  refine lv_iload_n hx hb dX6_add_21 rfl (lv_at hl 1 rfl) ?_
  refine lv_iload_n hx hb dX6_add_22 rfl (lv_at hl 3 rfl) ?_
  refine lv_icmp_ne (tgt := 42) hx hb dX6_add_23 (by decide) (fun _ => T42 H locs ls hP hS hl) (fun u1 => ?_)
  refine lv_iload_n hx hb dX6_add_26 rfl (lv_at hl 2 rfl) ?_
  refine lv_iload hx hb dX6_add_27 (lv_at hl 4 rfl) ?_
  refine lv_icmp_ne (tgt := 42) hx hb dX6_add_29 (by decide) (fun _ => T42 H locs ls hP hS hl) (fun u2 => absurd ⟨u1, u2⟩ hne)
