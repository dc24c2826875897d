/-! The eighteen wrappers: each once with an answer, once for each throw that it catches. -/
theorem dL_add_0 : decode cL_add 0 = .ok (.aload 5, 2) := by decide +kernel
theorem dL_add_2 : decode cL_add 2 = .ok (.iconst 0, 1) := by decide +kernel
theorem dL_add_3 : decode cL_add 3 = .ok (.aload_n 0, 1) := by decide +kernel
theorem dL_add_4 : decode cL_add 4 = .ok (.iload_n 1, 1) := by decide +kernel
theorem dL_add_5 : decode cL_add 5 = .ok (.iload_n 2, 1) := by decide +kernel
theorem dL_add_6 : decode cL_add 6 = .ok (.iload_n 3, 1) := by decide +kernel
theorem dL_add_7 : decode cL_add 7 = .ok (.iload 4, 2) := by decide +kernel
theorem dL_add_9 : decode cL_add 9 = .ok (.invokevirtual 7, 3) := by decide +kernel
theorem dL_add_12 : decode cL_add 12 = .ok (.i2l, 1) := by decide +kernel
theorem dL_add_13 : decode cL_add 13 = .ok (.lastore, 1) := by decide +kernel
theorem dL_add_14 : decode cL_add 14 = .ok (.goto 11, 3) := by decide +kernel
theorem dL_add_17 : decode cL_add 17 = .ok (.astore 6, 2) := by decide +kernel
theorem dL_add_19 : decode cL_add 19 = .ok (.iconst 1, 1) := by decide +kernel
theorem dL_add_20 : decode cL_add 20 = .ok (.ireturn, 1) := by decide +kernel
theorem dL_add_21 : decode cL_add 21 = .ok (.astore 6, 2) := by decide +kernel
theorem dL_add_23 : decode cL_add 23 = .ok (.iconst 2, 1) := by decide +kernel
theorem dL_add_24 : decode cL_add 24 = .ok (.ireturn, 1) := by decide +kernel
theorem dL_add_25 : decode cL_add 25 = .ok (.iconst 0, 1) := by decide +kernel
theorem dL_add_26 : decode cL_add 26 = .ok (.ireturn, 1) := by decide +kernel
def wL_add : List Cond := Cond.codeWith yL_add cL_add 7 (some .int) [(0, 14, 17, 13), (0, 14, 21, 15)] :: WA
set_option maxHeartbeats 1000000 in
theorem wn_add (l : Launch) (G : cG) (S : CS) (D : CD) (z : Nat × Nat) (a o : Nat) (cJ : ClassId) (f : Nat → Int64) (p1 p2 p3 p4 : Int32) (hm : a ∈ S.1) (hk : S.2.1 a = 6) {ws' : List Cond} {rm : Room} {mc ms : Nat} (hws : ∀ w ∈ ws', w ∈ WA) (hrm : rm.cells = mc ∧ rm.slots = ms ∧ rm.frames + 1 ≤ 10 ∧ 8 + (6 + 11) + rm.locals ≤ 400) (hmc : mc ≤ 2) (hms : ms ≤ 21) {Su : Type} {post : Nat → Int32 → Su → Prop} {fS : Su → CS} {fD : Su → CD} (hM : wCal l yX6_add (Cond.code yX6_add cX6_add 6 (some .int) :: ws') rm G S D z [.ref a, .int p1, .int p2, .int p3, .int p4] mc ms post fS fD) (hgr : ∀ (sz : Nat) (r : Int32) (u : Su), post sz r u → (∀ q ∈ (fS u).1, q ∈ S.1 ∨ sz ≤ q) ∧ ∀ D, va_D (fun _ => True) (cW G (fS u) D)) : wCon l yL_add wL_add G S D z o cJ f [.ref a, .int p1, .int p2, .int p3, .int p4, .ref o] 0 (fun sz S2 D2 v => ∃ (r : Int32) (u : Su), post sz r u ∧ fS u = S2 ∧ fD u = D2 ∧ v = r.toInt64) := by
  refine wBody (by decide) rfl rfl ?_
  intro sz p e s m below meth c hC htab hv
  have hx := hC.1
  have hb := hC.2.1
  have hts := hC.2.2.2.1
  have hl := lv_entry ([.ref a, .int p1, .int p2, .int p3, .int p4, .ref o]) (n := 7) (Nat.le_of_ble_eq_true rfl)
  rw [lg_entry_eq]
  generalize (lg_sl ([.ref a, .int p1, .int p2, .int p3, .int p4, .ref o]) ++ List.replicate (7 - (lg_sl ([.ref a, .int p1, .int p2, .int p3, .int p4, .ref o])).length) Slot.unset).toArray = ls at hl ⊢
  have hl : lv_has ls 7 [(0, .ref a), (1, .int p1), (2, .int p2), (3, .int p3), (4, .int p4), (5, .ref o)] := hl
  refine lv_aload hx hb dL_add_0 (lv_at hl 5 rfl) ?_
  refine lv_iconst (v := 0) hx hb dL_add_2 (by decide) ?_
  refine lv_aload_n hx hb dL_add_3 rfl (lv_at hl 0 rfl) ?_
  refine lv_iload_n hx hb dL_add_4 rfl (lv_at hl 1 rfl) ?_
  refine lv_iload_n hx hb dL_add_5 rfl (lv_at hl 2 rfl) ?_
  refine lv_iload_n hx hb dL_add_6 rfl (lv_at hl 3 rfl) ?_
  refine lv_iload hx hb dL_add_7 (lv_at hl 4 rfl) ?_
  refine wCallN (As := [.int p1, .int p2, .int p3, .int p4]) hC hv hm hk hM (cwV 4 hts (gVA wa_145 wa_146 wa_147 (hWCA _ wc_66) wa_69 hws) rfl hrm.1 hrm.2.1 (by decide +kernel) ⟨hrm.2.2.1, hrm.2.2.2⟩) rfl hl.1 rfl (Nat.le_of_ble_eq_true rfl) ⟨by rw [Nat.zero_add]; exact hmc, by rw [Nat.zero_add]; exact hms⟩ dL_add_9 (fun r u H1 locs1 hpo hP hO hS => ?_)
  have hce : 0 + mc ≤ 2 := by rw [Nat.zero_add]; exact hmc
  have hsl : 0 + ms ≤ 21 := by rw [Nat.zero_add]; exact hms
  obtain ⟨g1, g2⟩ := hgr sz r u hpo
  refine lv_i2l (v := r.toInt64) hx hb dL_add_12 rfl ?_
  refine wPut hC hv hP hO hS g1 (g2 _) dL_add_13 (fun H2 locs2 hP hO hS => ?_)
  refine lv_goto (tgt := 25) hx hb dL_add_14 (by decide) ?_
  refine lv_iconst (v := 0) hx hb dL_add_25 (by decide) ?_
  exact wRet hC hv.1.1.2.2.1 hP hO hS ⟨r, u, hpo, rfl, rfl, rfl⟩ hce hsl dL_add_26
set_option maxHeartbeats 1000000 in
theorem wt_add_A (l : Launch) (G : cG) (S : CS) (D : CD) (z : Nat × Nat) (a o : Nat) (cJ : ClassId) (f : Nat → Int64) (p1 p2 p3 p4 : Int32) (hm : a ∈ S.1) (hk : S.2.1 a = 6) {ws' : List Cond} {rm : Room} {mc ms : Nat} (hws : ∀ w ∈ ws', w ∈ WA) (hrm : rm.cells = mc ∧ rm.slots = ms ∧ rm.frames + 1 ≤ 10 ∧ 8 + (6 + 11) + rm.locals ≤ 400) (hmc : mc ≤ 2) (hms : ms ≤ 21) {D9 : CD} (hM : wThr l yX6_add (Cond.code yX6_add cX6_add 6 (some .int) :: ws') rm G S D D9 [.ref a, .int p1, .int p2, .int p3, .int p4] mc ms "java/lang/IllegalArgumentException") : wCon l yL_add wL_add G S D z o cJ f [.ref a, .int p1, .int p2, .int p3, .int p4, .ref o] 1 (fun _ S2 D2 _ => S2 = S ∧ D2 = D9) := by
  refine wBody (by decide) rfl rfl ?_
  intro sz p e s m below meth c hC htab hv
  have hx := hC.1
  have hb := hC.2.1
  have hts := hC.2.2.2.1
  have hl := lv_entry ([.ref a, .int p1, .int p2, .int p3, .int p4, .ref o]) (n := 7) (Nat.le_of_ble_eq_true rfl)
  rw [lg_entry_eq]
  generalize (lg_sl ([.ref a, .int p1, .int p2, .int p3, .int p4, .ref o]) ++ List.replicate (7 - (lg_sl ([.ref a, .int p1, .int p2, .int p3, .int p4, .ref o])).length) Slot.unset).toArray = ls at hl ⊢
  have hl : lv_has ls 7 [(0, .ref a), (1, .int p1), (2, .int p2), (3, .int p3), (4, .int p4), (5, .ref o)] := hl
  refine lv_aload hx hb dL_add_0 (lv_at hl 5 rfl) ?_
  refine lv_iconst (v := 0) hx hb dL_add_2 (by decide) ?_
  refine lv_aload_n hx hb dL_add_3 rfl (lv_at hl 0 rfl) ?_
  refine lv_iload_n hx hb dL_add_4 rfl (lv_at hl 1 rfl) ?_
  refine lv_iload_n hx hb dL_add_5 rfl (lv_at hl 2 rfl) ?_
  refine lv_iload_n hx hb dL_add_6 rfl (lv_at hl 3 rfl) ?_
  refine lv_iload hx hb dL_add_7 (lv_at hl 4 rfl) ?_
  refine wCallT (As := [.int p1, .int p2, .int p3, .int p4]) hC hv hm hk hM (cwV 4 hts (gVA wa_145 wa_146 wa_147 (hWCA _ wc_66) wa_69 hws) rfl hrm.1 hrm.2.1 (by decide +kernel) ⟨hrm.2.2.1, hrm.2.2.2⟩) rfl hl.1 rfl (Nat.le_of_ble_eq_true rfl) ⟨by rw [Nat.zero_add]; exact hmc, by rw [Nat.zero_add]; exact hms⟩ dL_add_9 (fun ce q9 H1 locs1 hP hO hS hce hvm hcl => ?_)
  refine vx_catch (own := RL) (name := "java/lang/IllegalArgumentException") (E := "java/lang/IllegalArgumentException") (ce := ce) hC.2.2.2.2.1 [] ⟨0, 14, 17, 13⟩ [⟨0, 14, 21, 15⟩] (by rw [htab]; rfl) (fun _ h => absurd h List.not_mem_nil) (by decide) (by decide) (hts _ (List.mem_cons_of_mem _ wa_143)) (va_Nw.use rfl (hv.1.2.2.2.2.1 "java/lang/IllegalArgumentException" (by decide +kernel))) hce hvm hcl ?_
  refine lv_astore (lv' := [(6, .ref q9), (0, .ref a), (1, .int p1), (2, .int p2), (3, .int p3), (4, .int p4), (5, .ref o)]) hx hb dL_add_17 hl (by decide) rfl (fun ls hl => ?_)
  refine lv_iconst (v := 1) hx hb dL_add_19 (by decide) ?_
  exact wRet hC hv.1.1.2.2.1 hP hO hS ⟨rfl, rfl⟩ (by rw [Nat.zero_add]; exact hmc) (by rw [Nat.zero_add]; exact hms) dL_add_20
set_option maxHeartbeats 1000000 in
theorem wt_add_S (l : Launch) (G : cG) (S : CS) (D : CD) (z : Nat × Nat) (a o : Nat) (cJ : ClassId) (f : Nat → Int64) (p1 p2 p3 p4 : Int32) (hm : a ∈ S.1) (hk : S.2.1 a = 6) {ws' : List Cond} {rm : Room} {mc ms : Nat} (hws : ∀ w ∈ ws', w ∈ WA) (hrm : rm.cells = mc ∧ rm.slots = ms ∧ rm.frames + 1 ≤ 10 ∧ 8 + (6 + 11) + rm.locals ≤ 400) (hmc : mc ≤ 2) (hms : ms ≤ 21) {D9 : CD} (hM : wThr l yX6_add (Cond.code yX6_add cX6_add 6 (some .int) :: ws') rm G S D D9 [.ref a, .int p1, .int p2, .int p3, .int p4] mc ms "java/lang/IllegalStateException") : wCon l yL_add wL_add G S D z o cJ f [.ref a, .int p1, .int p2, .int p3, .int p4, .ref o] 2 (fun _ S2 D2 _ => S2 = S ∧ D2 = D9) := by
  refine wBody (by decide) rfl rfl ?_
  intro sz p e s m below meth c hC htab hv
  have hx := hC.1
  have hb := hC.2.1
  have hts := hC.2.2.2.1
  have hl := lv_entry ([.ref a, .int p1, .int p2, .int p3, .int p4, .ref o]) (n := 7) (Nat.le_of_ble_eq_true rfl)
  rw [lg_entry_eq]
  generalize (lg_sl ([.ref a, .int p1, .int p2, .int p3, .int p4, .ref o]) ++ List.replicate (7 - (lg_sl ([.ref a, .int p1, .int p2, .int p3, .int p4, .ref o])).length) Slot.unset).toArray = ls at hl ⊢
  have hl : lv_has ls 7 [(0, .ref a), (1, .int p1), (2, .int p2), (3, .int p3), (4, .int p4), (5, .ref o)] := hl
  refine lv_aload hx hb dL_add_0 (lv_at hl 5 rfl) ?_
  refine lv_iconst (v := 0) hx hb dL_add_2 (by decide) ?_
  refine lv_aload_n hx hb dL_add_3 rfl (lv_at hl 0 rfl) ?_
  refine lv_iload_n hx hb dL_add_4 rfl (lv_at hl 1 rfl) ?_
  refine lv_iload_n hx hb dL_add_5 rfl (lv_at hl 2 rfl) ?_
  refine lv_iload_n hx hb dL_add_6 rfl (lv_at hl 3 rfl) ?_
  refine lv_iload hx hb dL_add_7 (lv_at hl 4 rfl) ?_
  refine wCallT (As := [.int p1, .int p2, .int p3, .int p4]) hC hv hm hk hM (cwV 4 hts (gVA wa_145 wa_146 wa_147 (hWCA _ wc_66) wa_69 hws) rfl hrm.1 hrm.2.1 (by decide +kernel) ⟨hrm.2.2.1, hrm.2.2.2⟩) rfl hl.1 rfl (Nat.le_of_ble_eq_true rfl) ⟨by rw [Nat.zero_add]; exact hmc, by rw [Nat.zero_add]; exact hms⟩ dL_add_9 (fun ce q9 H1 locs1 hP hO hS hce hvm hcl => ?_)
  refine vx_catch (own := RL) (name := "java/lang/IllegalStateException") (E := "java/lang/IllegalStateException") (ce := ce) hC.2.2.2.2.1 [⟨0, 14, 17, 13⟩] ⟨0, 14, 21, 15⟩ [] (by rw [htab]; rfl) (fun w hw => by rw [List.mem_singleton.mp hw]; exact Or.inr ⟨by decide, _, hts _ (List.mem_cons_of_mem _ wa_143), hv.2.2.2.2.1⟩) (by decide) (by decide) (hts _ (List.mem_cons_of_mem _ wa_144)) (va_Nw.use rfl (hv.1.2.2.2.2.1 "java/lang/IllegalStateException" (by decide +kernel))) hce hvm hcl ?_
  refine lv_astore (lv' := [(6, .ref q9), (0, .ref a), (1, .int p1), (2, .int p2), (3, .int p3), (4, .int p4), (5, .ref o)]) hx hb dL_add_21 hl (by decide) rfl (fun ls hl => ?_)
  refine lv_iconst (v := 2) hx hb dL_add_23 (by decide) ?_
  exact wRet hC hv.1.1.2.2.1 hP hO hS ⟨rfl, rfl⟩ (by rw [Nat.zero_add]; exact hmc) (by rw [Nat.zero_add]; exact hms) dL_add_24
theorem dL_remove_0 : decode cL_remove 0 = .ok (.aload_n 2, 1) := by decide +kernel
theorem dL_remove_1 : decode cL_remove 1 = .ok (.iconst 0, 1) := by decide +kernel
theorem dL_remove_2 : decode cL_remove 2 = .ok (.aload_n 0, 1) := by decide +kernel
theorem dL_remove_3 : decode cL_remove 3 = .ok (.iload_n 1, 1) := by decide +kernel
theorem dL_remove_4 : decode cL_remove 4 = .ok (.invokevirtual 17, 3) := by decide +kernel
theorem dL_remove_7 : decode cL_remove 7 = .ok (.i2l, 1) := by decide +kernel
theorem dL_remove_8 : decode cL_remove 8 = .ok (.lastore, 1) := by decide +kernel
theorem dL_remove_9 : decode cL_remove 9 = .ok (.goto 6, 3) := by decide +kernel
theorem dL_remove_12 : decode cL_remove 12 = .ok (.astore_n 3, 1) := by decide +kernel
theorem dL_remove_13 : decode cL_remove 13 = .ok (.iconst 1, 1) := by decide +kernel
theorem dL_remove_14 : decode cL_remove 14 = .ok (.ireturn, 1) := by decide +kernel
theorem dL_remove_15 : decode cL_remove 15 = .ok (.iconst 0, 1) := by decide +kernel
theorem dL_remove_16 : decode cL_remove 16 = .ok (.ireturn, 1) := by decide +kernel
def wL_remove : List Cond := Cond.codeWith yL_remove cL_remove 4 (some .int) [(0, 9, 12, 21)] :: WA
set_option maxHeartbeats 1000000 in
theorem wn_remove (l : Launch) (G : cG) (S : CS) (D : CD) (z : Nat × Nat) (a o : Nat) (cJ : ClassId) (f : Nat → Int64) (p1 : Int32) (hm : a ∈ S.1) (hk : S.2.1 a = 6) {ws' : List Cond} {rm : Room} {mc ms : Nat} (hws : ∀ w ∈ ws', w ∈ WA) (hrm : rm.cells = mc ∧ rm.slots = ms ∧ rm.frames + 1 ≤ 10 ∧ 8 + (2 + 11) + rm.locals ≤ 400) (hmc : mc ≤ 2) (hms : ms ≤ 21) {Su : Type} {post : Nat → Int32 → Su → Prop} {fS : Su → CS} {fD : Su → CD} (hM : wCal l yX6_remove (Cond.code yX6_remove cX6_remove 2 (some .int) :: ws') rm G S D z [.ref a, .int p1] mc ms post fS fD) (hgr : ∀ (sz : Nat) (r : Int32) (u : Su), post sz r u → (∀ q ∈ (fS u).1, q ∈ S.1 ∨ sz ≤ q) ∧ ∀ D, va_D (fun _ => True) (cW G (fS u) D)) : wCon l yL_remove wL_remove G S D z o cJ f [.ref a, .int p1, .ref o] 0 (fun sz S2 D2 v => ∃ (r : Int32) (u : Su), post sz r u ∧ fS u = S2 ∧ fD u = D2 ∧ v = r.toInt64) := by
  refine wBody (by decide) rfl rfl ?_
  intro sz p e s m below meth c hC htab hv
  have hx := hC.1
  have hb := hC.2.1
  have hts := hC.2.2.2.1
  have hl := lv_entry ([.ref a, .int p1, .ref o]) (n := 4) (Nat.le_of_ble_eq_true rfl)
  rw [lg_entry_eq]
  generalize (lg_sl ([.ref a, .int p1, .ref o]) ++ List.replicate (4 - (lg_sl ([.ref a, .int p1, .ref o])).length) Slot.unset).toArray = ls at hl ⊢
  have hl : lv_has ls 4 [(0, .ref a), (1, .int p1), (2, .ref o)] := hl
  refine lv_aload_n hx hb dL_remove_0 rfl (lv_at hl 2 rfl) ?_
  refine lv_iconst (v := 0) hx hb dL_remove_1 (by decide) ?_
  refine lv_aload_n hx hb dL_remove_2 rfl (lv_at hl 0 rfl) ?_
  refine lv_iload_n hx hb dL_remove_3 rfl (lv_at hl 1 rfl) ?_
  refine wCallN (As := [.int p1]) hC hv hm hk hM (cwV 1 hts (gVA wa_150 wa_151 wa_152 (hWCA _ wc_66) wa_124 hws) rfl hrm.1 hrm.2.1 (by decide +kernel) ⟨hrm.2.2.1, hrm.2.2.2⟩) rfl hl.1 rfl (Nat.le_of_ble_eq_true rfl) ⟨by rw [Nat.zero_add]; exact hmc, by rw [Nat.zero_add]; exact hms⟩ dL_remove_4 (fun r u H1 locs1 hpo hP hO hS => ?_)
  have hce : 0 + mc ≤ 2 := by rw [Nat.zero_add]; exact hmc
  have hsl : 0 + ms ≤ 21 := by rw [Nat.zero_add]; exact hms
  obtain ⟨g1, g2⟩ := hgr sz r u hpo
  refine lv_i2l (v := r.toInt64) hx hb dL_remove_7 rfl ?_
  refine wPut hC hv hP hO hS g1 (g2 _) dL_remove_8 (fun H2 locs2 hP hO hS => ?_)
  refine lv_goto (tgt := 15) hx hb dL_remove_9 (by decide) ?_
  refine lv_iconst (v := 0) hx hb dL_remove_15 (by decide) ?_
  exact wRet hC hv.1.1.2.2.1 hP hO hS ⟨r, u, hpo, rfl, rfl, rfl⟩ hce hsl dL_remove_16
set_option maxHeartbeats 1000000 in
theorem wt_remove_B (l : Launch) (G : cG) (S : CS) (D : CD) (z : Nat × Nat) (a o : Nat) (cJ : ClassId) (f : Nat → Int64) (p1 : Int32) (hm : a ∈ S.1) (hk : S.2.1 a = 6) {ws' : List Cond} {rm : Room} {mc ms : Nat} (hws : ∀ w ∈ ws', w ∈ WA) (hrm : rm.cells = mc ∧ rm.slots = ms ∧ rm.frames + 1 ≤ 10 ∧ 8 + (2 + 11) + rm.locals ≤ 400) (hmc : mc ≤ 2) (hms : ms ≤ 21) {D9 : CD} (hM : wThr l yX6_remove (Cond.code yX6_remove cX6_remove 2 (some .int) :: ws') rm G S D D9 [.ref a, .int p1] mc ms "java/lang/IndexOutOfBoundsException") : wCon l yL_remove wL_remove G S D z o cJ f [.ref a, .int p1, .ref o] 1 (fun _ S2 D2 _ => S2 = S ∧ D2 = D9) := by
  refine wBody (by decide) rfl rfl ?_
  intro sz p e s m below meth c hC htab hv
  have hx := hC.1
  have hb := hC.2.1
  have hts := hC.2.2.2.1
  have hl := lv_entry ([.ref a, .int p1, .ref o]) (n := 4) (Nat.le_of_ble_eq_true rfl)
  rw [lg_entry_eq]
  generalize (lg_sl ([.ref a, .int p1, .ref o]) ++ List.replicate (4 - (lg_sl ([.ref a, .int p1, .ref o])).length) Slot.unset).toArray = ls at hl ⊢
  have hl : lv_has ls 4 [(0, .ref a), (1, .int p1), (2, .ref o)] := hl
  refine lv_aload_n hx hb dL_remove_0 rfl (lv_at hl 2 rfl) ?_
  refine lv_iconst (v := 0) hx hb dL_remove_1 (by decide) ?_
  refine lv_aload_n hx hb dL_remove_2 rfl (lv_at hl 0 rfl) ?_
  refine lv_iload_n hx hb dL_remove_3 rfl (lv_at hl 1 rfl) ?_
  refine wCallT (As := [.int p1]) hC hv hm hk hM (cwV 1 hts (gVA wa_150 wa_151 wa_152 (hWCA _ wc_66) wa_124 hws) rfl hrm.1 hrm.2.1 (by decide +kernel) ⟨hrm.2.2.1, hrm.2.2.2⟩) rfl hl.1 rfl (Nat.le_of_ble_eq_true rfl) ⟨by rw [Nat.zero_add]; exact hmc, by rw [Nat.zero_add]; exact hms⟩ dL_remove_4 (fun ce q9 H1 locs1 hP hO hS hce hvm hcl => ?_)
  refine vx_catch (own := RL) (name := "java/lang/IndexOutOfBoundsException") (E := "java/lang/IndexOutOfBoundsException") (ce := ce) hC.2.2.2.2.1 [] ⟨0, 9, 12, 21⟩ [] (by rw [htab]; rfl) (fun _ h => absurd h List.not_mem_nil) (by decide) (by decide) (hts _ (List.mem_cons_of_mem _ wa_149)) (va_Nw.use rfl (hv.1.2.2.2.2.1 "java/lang/IndexOutOfBoundsException" (by decide +kernel))) hce hvm hcl ?_
  refine lv_astore_n (lv' := [(3, .ref q9), (0, .ref a), (1, .int p1), (2, .ref o)]) hx hb dL_remove_12 rfl hl (by decide) rfl (fun ls hl => ?_)
  refine lv_iconst (v := 1) hx hb dL_remove_13 (by decide) ?_
  exact wRet hC hv.1.1.2.2.1 hP hO hS ⟨rfl, rfl⟩ (by rw [Nat.zero_add]; exact hmc) (by rw [Nat.zero_add]; exact hms) dL_remove_14
theorem dL_meet_0 : decode cL_meet 0 = .ok (.aload_n 3, 1) := by decide +kernel
theorem dL_meet_1 : decode cL_meet 1 = .ok (.iconst 0, 1) := by decide +kernel
theorem dL_meet_2 : decode cL_meet 2 = .ok (.aload_n 0, 1) := by decide +kernel
theorem dL_meet_3 : decode cL_meet 3 = .ok (.iload_n 1, 1) := by decide +kernel
theorem dL_meet_4 : decode cL_meet 4 = .ok (.iload_n 2, 1) := by decide +kernel
theorem dL_meet_5 : decode cL_meet 5 = .ok (.invokevirtual 23, 3) := by decide +kernel
theorem dL_meet_8 : decode cL_meet 8 = .ok (.ifCond .eq 7, 3) := by decide +kernel
theorem dL_meet_11 : decode cL_meet 11 = .ok (.lconst 1, 1) := by decide +kernel
theorem dL_meet_12 : decode cL_meet 12 = .ok (.goto 4, 3) := by decide +kernel
theorem dL_meet_15 : decode cL_meet 15 = .ok (.lconst 0, 1) := by decide +kernel
theorem dL_meet_16 : decode cL_meet 16 = .ok (.lastore, 1) := by decide +kernel
theorem dL_meet_17 : decode cL_meet 17 = .ok (.goto 7, 3) := by decide +kernel
theorem dL_meet_20 : decode cL_meet 20 = .ok (.astore 4, 2) := by decide +kernel
theorem dL_meet_22 : decode cL_meet 22 = .ok (.iconst 1, 1) := by decide +kernel
theorem dL_meet_23 : decode cL_meet 23 = .ok (.ireturn, 1) := by decide +kernel
theorem dL_meet_24 : decode cL_meet 24 = .ok (.iconst 0, 1) := by decide +kernel
theorem dL_meet_25 : decode cL_meet 25 = .ok (.ireturn, 1) := by decide +kernel
def wL_meet : List Cond := Cond.codeWith yL_meet cL_meet 5 (some .int) [(0, 17, 20, 21)] :: WA
set_option maxHeartbeats 1000000 in
theorem wn_meet (l : Launch) (G : cG) (S : CS) (D : CD) (z : Nat × Nat) (a o : Nat) (cJ : ClassId) (f : Nat → Int64) (p1 p2 : Int32) (hm : a ∈ S.1) (hk : S.2.1 a = 6) {ws' : List Cond} {rm : Room} {mc ms : Nat} (hws : ∀ w ∈ ws', w ∈ WA) (hrm : rm.cells = mc ∧ rm.slots = ms ∧ rm.frames + 1 ≤ 10 ∧ 8 + (3 + 11) + rm.locals ≤ 400) (hmc : mc ≤ 2) (hms : ms ≤ 21) {Su : Type} {post : Nat → Int32 → Su → Prop} {fS : Su → CS} {fD : Su → CD} (hM : wCal l yX6_meet (Cond.code yX6_meet cX6_meet 3 (some .boolean) :: ws') rm G S D z [.ref a, .int p1, .int p2] mc ms post fS fD) (hgr : ∀ (sz : Nat) (r : Int32) (u : Su), post sz r u → (∀ q ∈ (fS u).1, q ∈ S.1 ∨ sz ≤ q) ∧ ∀ D, va_D (fun _ => True) (cW G (fS u) D)) : wCon l yL_meet wL_meet G S D z o cJ f [.ref a, .int p1, .int p2, .ref o] 0 (fun sz S2 D2 v => ∃ (r : Int32) (u : Su), post sz r u ∧ fS u = S2 ∧ fD u = D2 ∧ v = (if r = 0 then 0 else 1)) := by
  refine wBody (by decide) rfl rfl ?_
  intro sz p e s m below meth c hC htab hv
  have hx := hC.1
  have hb := hC.2.1
  have hts := hC.2.2.2.1
  have hl := lv_entry ([.ref a, .int p1, .int p2, .ref o]) (n := 5) (Nat.le_of_ble_eq_true rfl)
  rw [lg_entry_eq]
  generalize (lg_sl ([.ref a, .int p1, .int p2, .ref o]) ++ List.replicate (5 - (lg_sl ([.ref a, .int p1, .int p2, .ref o])).length) Slot.unset).toArray = ls at hl ⊢
  have hl : lv_has ls 5 [(0, .ref a), (1, .int p1), (2, .int p2), (3, .ref o)] := hl
  refine lv_aload_n hx hb dL_meet_0 rfl (lv_at hl 3 rfl) ?_
  refine lv_iconst (v := 0) hx hb dL_meet_1 (by decide) ?_
  refine lv_aload_n hx hb dL_meet_2 rfl (lv_at hl 0 rfl) ?_
  refine lv_iload_n hx hb dL_meet_3 rfl (lv_at hl 1 rfl) ?_
  refine lv_iload_n hx hb dL_meet_4 rfl (lv_at hl 2 rfl) ?_
  refine wCallN (As := [.int p1, .int p2]) hC hv hm hk hM (cwV 2 hts (gVA wa_154 wa_155 wa_156 (hWCA _ wc_66) (hWCA _ wc_62) hws) rfl hrm.1 hrm.2.1 (by decide +kernel) ⟨hrm.2.2.1, hrm.2.2.2⟩) rfl hl.1 rfl (Nat.le_of_ble_eq_true rfl) ⟨by rw [Nat.zero_add]; exact hmc, by rw [Nat.zero_add]; exact hms⟩ dL_meet_5 (fun r u H1 locs1 hpo hP hO hS => ?_)
  have hce : 0 + mc ≤ 2 := by rw [Nat.zero_add]; exact hmc
  have hsl : 0 + ms ≤ 21 := by rw [Nat.zero_add]; exact hms
  obtain ⟨g1, g2⟩ := hgr sz r u hpo
  refine lv_if_eq (tgt := 15) hx hb dL_meet_8 (by decide) (fun cr => ?_) (fun cr => ?_)
  · refine lv_lconst (v := 0) hx hb dL_meet_15 (by decide) ?_
    refine wPut hC hv hP hO hS g1 (g2 _) dL_meet_16 (fun H2 locs2 hP hO hS => ?_)
    refine lv_goto (tgt := 24) hx hb dL_meet_17 (by decide) ?_
    refine lv_iconst (v := 0) hx hb dL_meet_24 (by decide) ?_
    exact wRet hC hv.1.1.2.2.1 hP hO hS ⟨r, u, hpo, rfl, rfl, by rw [if_pos cr]; rfl⟩ hce hsl dL_meet_25
  · refine lv_lconst (v := 1) hx hb dL_meet_11 (by decide) ?_
    refine lv_goto (tgt := 16) hx hb dL_meet_12 (by decide) ?_
    refine wPut hC hv hP hO hS g1 (g2 _) dL_meet_16 (fun H2 locs2 hP hO hS => ?_)
    refine lv_goto (tgt := 24) hx hb dL_meet_17 (by decide) ?_
    refine lv_iconst (v := 0) hx hb dL_meet_24 (by decide) ?_
    exact wRet hC hv.1.1.2.2.1 hP hO hS ⟨r, u, hpo, rfl, rfl, by rw [if_neg cr]; rfl⟩ hce hsl dL_meet_25
set_option maxHeartbeats 1000000 in
theorem wt_meet_B (l : Launch) (G : cG) (S : CS) (D : CD) (z : Nat × Nat) (a o : Nat) (cJ : ClassId) (f : Nat → Int64) (p1 p2 : Int32) (hm : a ∈ S.1) (hk : S.2.1 a = 6) {ws' : List Cond} {rm : Room} {mc ms : Nat} (hws : ∀ w ∈ ws', w ∈ WA) (hrm : rm.cells = mc ∧ rm.slots = ms ∧ rm.frames + 1 ≤ 10 ∧ 8 + (3 + 11) + rm.locals ≤ 400) (hmc : mc ≤ 2) (hms : ms ≤ 21) {D9 : CD} (hM : wThr l yX6_meet (Cond.code yX6_meet cX6_meet 3 (some .boolean) :: ws') rm G S D D9 [.ref a, .int p1, .int p2] mc ms "java/lang/IndexOutOfBoundsException") : wCon l yL_meet wL_meet G S D z o cJ f [.ref a, .int p1, .int p2, .ref o] 1 (fun _ S2 D2 _ => S2 = S ∧ D2 = D9) := by
  refine wBody (by decide) rfl rfl ?_
  intro sz p e s m below meth c hC htab hv
  have hx := hC.1
  have hb := hC.2.1
  have hts := hC.2.2.2.1
  have hl := lv_entry ([.ref a, .int p1, .int p2, .ref o]) (n := 5) (Nat.le_of_ble_eq_true rfl)
  rw [lg_entry_eq]
  generalize (lg_sl ([.ref a, .int p1, .int p2, .ref o]) ++ List.replicate (5 - (lg_sl ([.ref a, .int p1, .int p2, .ref o])).length) Slot.unset).toArray = ls at hl ⊢
  have hl : lv_has ls 5 [(0, .ref a), (1, .int p1), (2, .int p2), (3, .ref o)] := hl
  refine lv_aload_n hx hb dL_meet_0 rfl (lv_at hl 3 rfl) ?_
  refine lv_iconst (v := 0) hx hb dL_meet_1 (by decide) ?_
  refine lv_aload_n hx hb dL_meet_2 rfl (lv_at hl 0 rfl) ?_
  refine lv_iload_n hx hb dL_meet_3 rfl (lv_at hl 1 rfl) ?_
  refine lv_iload_n hx hb dL_meet_4 rfl (lv_at hl 2 rfl) ?_
  refine wCallT (As := [.int p1, .int p2]) hC hv hm hk hM (cwV 2 hts (gVA wa_154 wa_155 wa_156 (hWCA _ wc_66) (hWCA _ wc_62) hws) rfl hrm.1 hrm.2.1 (by decide +kernel) ⟨hrm.2.2.1, hrm.2.2.2⟩) rfl hl.1 rfl (Nat.le_of_ble_eq_true rfl) ⟨by rw [Nat.zero_add]; exact hmc, by rw [Nat.zero_add]; exact hms⟩ dL_meet_5 (fun ce q9 H1 locs1 hP hO hS hce hvm hcl => ?_)
  refine vx_catch (own := RL) (name := "java/lang/IndexOutOfBoundsException") (E := "java/lang/IndexOutOfBoundsException") (ce := ce) hC.2.2.2.2.1 [] ⟨0, 17, 20, 21⟩ [] (by rw [htab]; rfl) (fun _ h => absurd h List.not_mem_nil) (by decide) (by decide) (hts _ (List.mem_cons_of_mem _ wa_149)) (va_Nw.use rfl (hv.1.2.2.2.2.1 "java/lang/IndexOutOfBoundsException" (by decide +kernel))) hce hvm hcl ?_
  refine lv_astore (lv' := [(4, .ref q9), (0, .ref a), (1, .int p1), (2, .int p2), (3, .ref o)]) hx hb dL_meet_20 hl (by decide) rfl (fun ls hl => ?_)
  refine lv_iconst (v := 1) hx hb dL_meet_22 (by decide) ?_
  exact wRet hC hv.1.1.2.2.1 hP hO hS ⟨rfl, rfl⟩ (by rw [Nat.zero_add]; exact hmc) (by rw [Nat.zero_add]; exact hms) dL_meet_23
theorem dL_xNumerator_0 : decode cL_xNumerator 0 = .ok (.aload_n 2, 1) := by decide +kernel
theorem dL_xNumerator_1 : decode cL_xNumerator 1 = .ok (.iconst 0, 1) := by decide +kernel
theorem dL_xNumerator_2 : decode cL_xNumerator 2 = .ok (.aload_n 0, 1) := by decide +kernel
theorem dL_xNumerator_3 : decode cL_xNumerator 3 = .ok (.iload_n 1, 1) := by decide +kernel
theorem dL_xNumerator_4 : decode cL_xNumerator 4 = .ok (.invokevirtual 27, 3) := by decide +kernel
theorem dL_xNumerator_7 : decode cL_xNumerator 7 = .ok (.i2l, 1) := by decide +kernel
theorem dL_xNumerator_8 : decode cL_xNumerator 8 = .ok (.lastore, 1) := by decide +kernel
theorem dL_xNumerator_9 : decode cL_xNumerator 9 = .ok (.goto 6, 3) := by decide +kernel
theorem dL_xNumerator_12 : decode cL_xNumerator 12 = .ok (.astore_n 3, 1) := by decide +kernel
theorem dL_xNumerator_13 : decode cL_xNumerator 13 = .ok (.iconst 1, 1) := by decide +kernel
theorem dL_xNumerator_14 : decode cL_xNumerator 14 = .ok (.ireturn, 1) := by decide +kernel
theorem dL_xNumerator_15 : decode cL_xNumerator 15 = .ok (.iconst 0, 1) := by decide +kernel
theorem dL_xNumerator_16 : decode cL_xNumerator 16 = .ok (.ireturn, 1) := by decide +kernel
def wL_xNumerator : List Cond := Cond.codeWith yL_xNumerator cL_xNumerator 4 (some .int) [(0, 9, 12, 21)] :: WA
set_option maxHeartbeats 1000000 in
theorem wn_xNumerator (l : Launch) (G : cG) (S : CS) (D : CD) (z : Nat × Nat) (a o : Nat) (cJ : ClassId) (f : Nat → Int64) (p1 : Int32) (hm : a ∈ S.1) (hk : S.2.1 a = 6) {ws' : List Cond} {rm : Room} {mc ms : Nat} (hws : ∀ w ∈ ws', w ∈ WA) (hrm : rm.cells = mc ∧ rm.slots = ms ∧ rm.frames + 1 ≤ 10 ∧ 8 + (2 + 11) + rm.locals ≤ 400) (hmc : mc ≤ 2) (hms : ms ≤ 21) {Su : Type} {post : Nat → Int32 → Su → Prop} {fS : Su → CS} {fD : Su → CD} (hM : wCal l yX6_xNumerator (Cond.code yX6_xNumerator cX6_xNumerator 2 (some .int) :: ws') rm G S D z [.ref a, .int p1] mc ms post fS fD) (hgr : ∀ (sz : Nat) (r : Int32) (u : Su), post sz r u → (∀ q ∈ (fS u).1, q ∈ S.1 ∨ sz ≤ q) ∧ ∀ D, va_D (fun _ => True) (cW G (fS u) D)) : wCon l yL_xNumerator wL_xNumerator G S D z o cJ f [.ref a, .int p1, .ref o] 0 (fun sz S2 D2 v => ∃ (r : Int32) (u : Su), post sz r u ∧ fS u = S2 ∧ fD u = D2 ∧ v = r.toInt64) := by
  refine wBody (by decide) rfl rfl ?_
  intro sz p e s m below meth c hC htab hv
  have hx := hC.1
  have hb := hC.2.1
  have hts := hC.2.2.2.1
  have hl := lv_entry ([.ref a, .int p1, .ref o]) (n := 4) (Nat.le_of_ble_eq_true rfl)
  rw [lg_entry_eq]
  generalize (lg_sl ([.ref a, .int p1, .ref o]) ++ List.replicate (4 - (lg_sl ([.ref a, .int p1, .ref o])).length) Slot.unset).toArray = ls at hl ⊢
  have hl : lv_has ls 4 [(0, .ref a), (1, .int p1), (2, .ref o)] := hl
  refine lv_aload_n hx hb dL_xNumerator_0 rfl (lv_at hl 2 rfl) ?_
  refine lv_iconst (v := 0) hx hb dL_xNumerator_1 (by decide) ?_
  refine lv_aload_n hx hb dL_xNumerator_2 rfl (lv_at hl 0 rfl) ?_
  refine lv_iload_n hx hb dL_xNumerator_3 rfl (lv_at hl 1 rfl) ?_
  refine wCallN (As := [.int p1]) hC hv hm hk hM (cwV 1 hts (gVA wa_158 wa_159 wa_160 (hWCA _ wc_66) (hWCA _ wc_85) hws) rfl hrm.1 hrm.2.1 (by decide +kernel) ⟨hrm.2.2.1, hrm.2.2.2⟩) rfl hl.1 rfl (Nat.le_of_ble_eq_true rfl) ⟨by rw [Nat.zero_add]; exact hmc, by rw [Nat.zero_add]; exact hms⟩ dL_xNumerator_4 (fun r u H1 locs1 hpo hP hO hS => ?_)
  have hce : 0 + mc ≤ 2 := by rw [Nat.zero_add]; exact hmc
  have hsl : 0 + ms ≤ 21 := by rw [Nat.zero_add]; exact hms
  obtain ⟨g1, g2⟩ := hgr sz r u hpo
  refine lv_i2l (v := r.toInt64) hx hb dL_xNumerator_7 rfl ?_
  refine wPut hC hv hP hO hS g1 (g2 _) dL_xNumerator_8 (fun H2 locs2 hP hO hS => ?_)
  refine lv_goto (tgt := 15) hx hb dL_xNumerator_9 (by decide) ?_
  refine lv_iconst (v := 0) hx hb dL_xNumerator_15 (by decide) ?_
  exact wRet hC hv.1.1.2.2.1 hP hO hS ⟨r, u, hpo, rfl, rfl, rfl⟩ hce hsl dL_xNumerator_16
set_option maxHeartbeats 1000000 in
theorem wt_xNumerator_B (l : Launch) (G : cG) (S : CS) (D : CD) (z : Nat × Nat) (a o : Nat) (cJ : ClassId) (f : Nat → Int64) (p1 : Int32) (hm : a ∈ S.1) (hk : S.2.1 a = 6) {ws' : List Cond} {rm : Room} {mc ms : Nat} (hws : ∀ w ∈ ws', w ∈ WA) (hrm : rm.cells = mc ∧ rm.slots = ms ∧ rm.frames + 1 ≤ 10 ∧ 8 + (2 + 11) + rm.locals ≤ 400) (hmc : mc ≤ 2) (hms : ms ≤ 21) {D9 : CD} (hM : wThr l yX6_xNumerator (Cond.code yX6_xNumerator cX6_xNumerator 2 (some .int) :: ws') rm G S D D9 [.ref a, .int p1] mc ms "java/lang/IndexOutOfBoundsException") : wCon l yL_xNumerator wL_xNumerator G S D z o cJ f [.ref a, .int p1, .ref o] 1 (fun _ S2 D2 _ => S2 = S ∧ D2 = D9) := by
  refine wBody (by decide) rfl rfl ?_
  intro sz p e s m below meth c hC htab hv
  have hx := hC.1
  have hb := hC.2.1
  have hts := hC.2.2.2.1
  have hl := lv_entry ([.ref a, .int p1, .ref o]) (n := 4) (Nat.le_of_ble_eq_true rfl)
  rw [lg_entry_eq]
  generalize (lg_sl ([.ref a, .int p1, .ref o]) ++ List.replicate (4 - (lg_sl ([.ref a, .int p1, .ref o])).length) Slot.unset).toArray = ls at hl ⊢
  have hl : lv_has ls 4 [(0, .ref a), (1, .int p1), (2, .ref o)] := hl
  refine lv_aload_n hx hb dL_xNumerator_0 rfl (lv_at hl 2 rfl) ?_
  refine lv_iconst (v := 0) hx hb dL_xNumerator_1 (by decide) ?_
  refine lv_aload_n hx hb dL_xNumerator_2 rfl (lv_at hl 0 rfl) ?_
  refine lv_iload_n hx hb dL_xNumerator_3 rfl (lv_at hl 1 rfl) ?_
  refine wCallT (As := [.int p1]) hC hv hm hk hM (cwV 1 hts (gVA wa_158 wa_159 wa_160 (hWCA _ wc_66) (hWCA _ wc_85) hws) rfl hrm.1 hrm.2.1 (by decide +kernel) ⟨hrm.2.2.1, hrm.2.2.2⟩) rfl hl.1 rfl (Nat.le_of_ble_eq_true rfl) ⟨by rw [Nat.zero_add]; exact hmc, by rw [Nat.zero_add]; exact hms⟩ dL_xNumerator_4 (fun ce q9 H1 locs1 hP hO hS hce hvm hcl => ?_)
  refine vx_catch (own := RL) (name := "java/lang/IndexOutOfBoundsException") (E := "java/lang/IndexOutOfBoundsException") (ce := ce) hC.2.2.2.2.1 [] ⟨0, 9, 12, 21⟩ [] (by rw [htab]; rfl) (fun _ h => absurd h List.not_mem_nil) (by decide) (by decide) (hts _ (List.mem_cons_of_mem _ wa_149)) (va_Nw.use rfl (hv.1.2.2.2.2.1 "java/lang/IndexOutOfBoundsException" (by decide +kernel))) hce hvm hcl ?_
  refine lv_astore_n (lv' := [(3, .ref q9), (0, .ref a), (1, .int p1), (2, .ref o)]) hx hb dL_xNumerator_12 rfl hl (by decide) rfl (fun ls hl => ?_)
  refine lv_iconst (v := 1) hx hb dL_xNumerator_13 (by decide) ?_
  exact wRet hC hv.1.1.2.2.1 hP hO hS ⟨rfl, rfl⟩ (by rw [Nat.zero_add]; exact hmc) (by rw [Nat.zero_add]; exact hms) dL_xNumerator_14
theorem dL_xDenominator_0 : decode cL_xDenominator 0 = .ok (.aload_n 2, 1) := by decide +kernel
theorem dL_xDenominator_1 : decode cL_xDenominator 1 = .ok (.iconst 0, 1) := by decide +kernel
theorem dL_xDenominator_2 : decode cL_xDenominator 2 = .ok (.aload_n 0, 1) := by decide +kernel
theorem dL_xDenominator_3 : decode cL_xDenominator 3 = .ok (.iload_n 1, 1) := by decide +kernel
theorem dL_xDenominator_4 : decode cL_xDenominator 4 = .ok (.invokevirtual 30, 3) := by decide +kernel
theorem dL_xDenominator_7 : decode cL_xDenominator 7 = .ok (.i2l, 1) := by decide +kernel
theorem dL_xDenominator_8 : decode cL_xDenominator 8 = .ok (.lastore, 1) := by decide +kernel
theorem dL_xDenominator_9 : decode cL_xDenominator 9 = .ok (.goto 6, 3) := by decide +kernel
theorem dL_xDenominator_12 : decode cL_xDenominator 12 = .ok (.astore_n 3, 1) := by decide +kernel
theorem dL_xDenominator_13 : decode cL_xDenominator 13 = .ok (.iconst 1, 1) := by decide +kernel
theorem dL_xDenominator_14 : decode cL_xDenominator 14 = .ok (.ireturn, 1) := by decide +kernel
theorem dL_xDenominator_15 : decode cL_xDenominator 15 = .ok (.iconst 0, 1) := by decide +kernel
theorem dL_xDenominator_16 : decode cL_xDenominator 16 = .ok (.ireturn, 1) := by decide +kernel
def wL_xDenominator : List Cond := Cond.codeWith yL_xDenominator cL_xDenominator 4 (some .int) [(0, 9, 12, 21)] :: WA
set_option maxHeartbeats 1000000 in
theorem wn_xDenominator (l : Launch) (G : cG) (S : CS) (D : CD) (z : Nat × Nat) (a o : Nat) (cJ : ClassId) (f : Nat → Int64) (p1 : Int32) (hm : a ∈ S.1) (hk : S.2.1 a = 6) {ws' : List Cond} {rm : Room} {mc ms : Nat} (hws : ∀ w ∈ ws', w ∈ WA) (hrm : rm.cells = mc ∧ rm.slots = ms ∧ rm.frames + 1 ≤ 10 ∧ 8 + (2 + 11) + rm.locals ≤ 400) (hmc : mc ≤ 2) (hms : ms ≤ 21) {Su : Type} {post : Nat → Int32 → Su → Prop} {fS : Su → CS} {fD : Su → CD} (hM : wCal l yX6_xDenominator (Cond.code yX6_xDenominator cX6_xDenominator 2 (some .int) :: ws') rm G S D z [.ref a, .int p1] mc ms post fS fD) (hgr : ∀ (sz : Nat) (r : Int32) (u : Su), post sz r u → (∀ q ∈ (fS u).1, q ∈ S.1 ∨ sz ≤ q) ∧ ∀ D, va_D (fun _ => True) (cW G (fS u) D)) : wCon l yL_xDenominator wL_xDenominator G S D z o cJ f [.ref a, .int p1, .ref o] 0 (fun sz S2 D2 v => ∃ (r : Int32) (u : Su), post sz r u ∧ fS u = S2 ∧ fD u = D2 ∧ v = r.toInt64) := by
  refine wBody (by decide) rfl rfl ?_
  intro sz p e s m below meth c hC htab hv
  have hx := hC.1
  have hb := hC.2.1
  have hts := hC.2.2.2.1
  have hl := lv_entry ([.ref a, .int p1, .ref o]) (n := 4) (Nat.le_of_ble_eq_true rfl)
  rw [lg_entry_eq]
  generalize (lg_sl ([.ref a, .int p1, .ref o]) ++ List.replicate (4 - (lg_sl ([.ref a, .int p1, .ref o])).length) Slot.unset).toArray = ls at hl ⊢
  have hl : lv_has ls 4 [(0, .ref a), (1, .int p1), (2, .ref o)] := hl
  refine lv_aload_n hx hb dL_xDenominator_0 rfl (lv_at hl 2 rfl) ?_
  refine lv_iconst (v := 0) hx hb dL_xDenominator_1 (by decide) ?_
  refine lv_aload_n hx hb dL_xDenominator_2 rfl (lv_at hl 0 rfl) ?_
  refine lv_iload_n hx hb dL_xDenominator_3 rfl (lv_at hl 1 rfl) ?_
  refine wCallN (As := [.int p1]) hC hv hm hk hM (cwV 1 hts (gVA wa_162 wa_163 wa_164 (hWCA _ wc_66) (hWCA _ wc_93) hws) rfl hrm.1 hrm.2.1 (by decide +kernel) ⟨hrm.2.2.1, hrm.2.2.2⟩) rfl hl.1 rfl (Nat.le_of_ble_eq_true rfl) ⟨by rw [Nat.zero_add]; exact hmc, by rw [Nat.zero_add]; exact hms⟩ dL_xDenominator_4 (fun r u H1 locs1 hpo hP hO hS => ?_)
  have hce : 0 + mc ≤ 2 := by rw [Nat.zero_add]; exact hmc
  have hsl : 0 + ms ≤ 21 := by rw [Nat.zero_add]; exact hms
  obtain ⟨g1, g2⟩ := hgr sz r u hpo
  refine lv_i2l (v := r.toInt64) hx hb dL_xDenominator_7 rfl ?_
  refine wPut hC hv hP hO hS g1 (g2 _) dL_xDenominator_8 (fun H2 locs2 hP hO hS => ?_)
  refine lv_goto (tgt := 15) hx hb dL_xDenominator_9 (by decide) ?_
  refine lv_iconst (v := 0) hx hb dL_xDenominator_15 (by decide) ?_
  exact wRet hC hv.1.1.2.2.1 hP hO hS ⟨r, u, hpo, rfl, rfl, rfl⟩ hce hsl dL_xDenominator_16
set_option maxHeartbeats 1000000 in
theorem wt_xDenominator_B (l : Launch) (G : cG) (S : CS) (D : CD) (z : Nat × Nat) (a o : Nat) (cJ : ClassId) (f : Nat → Int64) (p1 : Int32) (hm : a ∈ S.1) (hk : S.2.1 a = 6) {ws' : List Cond} {rm : Room} {mc ms : Nat} (hws : ∀ w ∈ ws', w ∈ WA) (hrm : rm.cells = mc ∧ rm.slots = ms ∧ rm.frames + 1 ≤ 10 ∧ 8 + (2 + 11) + rm.locals ≤ 400) (hmc : mc ≤ 2) (hms : ms ≤ 21) {D9 : CD} (hM : wThr l yX6_xDenominator (Cond.code yX6_xDenominator cX6_xDenominator 2 (some .int) :: ws') rm G S D D9 [.ref a, .int p1] mc ms "java/lang/IndexOutOfBoundsException") : wCon l yL_xDenominator wL_xDenominator G S D z o cJ f [.ref a, .int p1, .ref o] 1 (fun _ S2 D2 _ => S2 = S ∧ D2 = D9) := by
  refine wBody (by decide) rfl rfl ?_
  intro sz p e s m below meth c hC htab hv
  have hx := hC.1
  have hb := hC.2.1
  have hts := hC.2.2.2.1
  have hl := lv_entry ([.ref a, .int p1, .ref o]) (n := 4) (Nat.le_of_ble_eq_true rfl)
  rw [lg_entry_eq]
  generalize (lg_sl ([.ref a, .int p1, .ref o]) ++ List.replicate (4 - (lg_sl ([.ref a, .int p1, .ref o])).length) Slot.unset).toArray = ls at hl ⊢
  have hl : lv_has ls 4 [(0, .ref a), (1, .int p1), (2, .ref o)] := hl
  refine lv_aload_n hx hb dL_xDenominator_0 rfl (lv_at hl 2 rfl) ?_
  refine lv_iconst (v := 0) hx hb dL_xDenominator_1 (by decide) ?_
  refine lv_aload_n hx hb dL_xDenominator_2 rfl (lv_at hl 0 rfl) ?_
  refine lv_iload_n hx hb dL_xDenominator_3 rfl (lv_at hl 1 rfl) ?_
  refine wCallT (As := [.int p1]) hC hv hm hk hM (cwV 1 hts (gVA wa_162 wa_163 wa_164 (hWCA _ wc_66) (hWCA _ wc_93) hws) rfl hrm.1 hrm.2.1 (by decide +kernel) ⟨hrm.2.2.1, hrm.2.2.2⟩) rfl hl.1 rfl (Nat.le_of_ble_eq_true rfl) ⟨by rw [Nat.zero_add]; exact hmc, by rw [Nat.zero_add]; exact hms⟩ dL_xDenominator_4 (fun ce q9 H1 locs1 hP hO hS hce hvm hcl => ?_)
  refine vx_catch (own := RL) (name := "java/lang/IndexOutOfBoundsException") (E := "java/lang/IndexOutOfBoundsException") (ce := ce) hC.2.2.2.2.1 [] ⟨0, 9, 12, 21⟩ [] (by rw [htab]; rfl) (fun _ h => absurd h List.not_mem_nil) (by decide) (by decide) (hts _ (List.mem_cons_of_mem _ wa_149)) (va_Nw.use rfl (hv.1.2.2.2.2.1 "java/lang/IndexOutOfBoundsException" (by decide +kernel))) hce hvm hcl ?_
  refine lv_astore_n (lv' := [(3, .ref q9), (0, .ref a), (1, .int p1), (2, .ref o)]) hx hb dL_xDenominator_12 rfl hl (by decide) rfl (fun ls hl => ?_)
  refine lv_iconst (v := 1) hx hb dL_xDenominator_13 (by decide) ?_
  exact wRet hC hv.1.1.2.2.1 hP hO hS ⟨rfl, rfl⟩ (by rw [Nat.zero_add]; exact hmc) (by rw [Nat.zero_add]; exact hms) dL_xDenominator_14
theorem dL_yNumerator_0 : decode cL_yNumerator 0 = .ok (.aload_n 2, 1) := by decide +kernel
theorem dL_yNumerator_1 : decode cL_yNumerator 1 = .ok (.iconst 0, 1) := by decide +kernel
theorem dL_yNumerator_2 : decode cL_yNumerator 2 = .ok (.aload_n 0, 1) := by decide +kernel
theorem dL_yNumerator_3 : decode cL_yNumerator 3 = .ok (.iload_n 1, 1) := by decide +kernel
theorem dL_yNumerator_4 : decode cL_yNumerator 4 = .ok (.invokevirtual 33, 3) := by decide +kernel
theorem dL_yNumerator_7 : decode cL_yNumerator 7 = .ok (.i2l, 1) := by decide +kernel
theorem dL_yNumerator_8 : decode cL_yNumerator 8 = .ok (.lastore, 1) := by decide +kernel
theorem dL_yNumerator_9 : decode cL_yNumerator 9 = .ok (.goto 6, 3) := by decide +kernel
theorem dL_yNumerator_12 : decode cL_yNumerator 12 = .ok (.astore_n 3, 1) := by decide +kernel
theorem dL_yNumerator_13 : decode cL_yNumerator 13 = .ok (.iconst 1, 1) := by decide +kernel
theorem dL_yNumerator_14 : decode cL_yNumerator 14 = .ok (.ireturn, 1) := by decide +kernel
theorem dL_yNumerator_15 : decode cL_yNumerator 15 = .ok (.iconst 0, 1) := by decide +kernel
theorem dL_yNumerator_16 : decode cL_yNumerator 16 = .ok (.ireturn, 1) := by decide +kernel
def wL_yNumerator : List Cond := Cond.codeWith yL_yNumerator cL_yNumerator 4 (some .int) [(0, 9, 12, 21)] :: WA
set_option maxHeartbeats 1000000 in
theorem wn_yNumerator (l : Launch) (G : cG) (S : CS) (D : CD) (z : Nat × Nat) (a o : Nat) (cJ : ClassId) (f : Nat → Int64) (p1 : Int32) (hm : a ∈ S.1) (hk : S.2.1 a = 6) {ws' : List Cond} {rm : Room} {mc ms : Nat} (hws : ∀ w ∈ ws', w ∈ WA) (hrm : rm.cells = mc ∧ rm.slots = ms ∧ rm.frames + 1 ≤ 10 ∧ 8 + (2 + 11) + rm.locals ≤ 400) (hmc : mc ≤ 2) (hms : ms ≤ 21) {Su : Type} {post : Nat → Int32 → Su → Prop} {fS : Su → CS} {fD : Su → CD} (hM : wCal l yX6_yNumerator (Cond.code yX6_yNumerator cX6_yNumerator 2 (some .int) :: ws') rm G S D z [.ref a, .int p1] mc ms post fS fD) (hgr : ∀ (sz : Nat) (r : Int32) (u : Su), post sz r u → (∀ q ∈ (fS u).1, q ∈ S.1 ∨ sz ≤ q) ∧ ∀ D, va_D (fun _ => True) (cW G (fS u) D)) : wCon l yL_yNumerator wL_yNumerator G S D z o cJ f [.ref a, .int p1, .ref o] 0 (fun sz S2 D2 v => ∃ (r : Int32) (u : Su), post sz r u ∧ fS u = S2 ∧ fD u = D2 ∧ v = r.toInt64) := by
  refine wBody (by decide) rfl rfl ?_
  intro sz p e s m below meth c hC htab hv
  have hx := hC.1
  have hb := hC.2.1
  have hts := hC.2.2.2.1
  have hl := lv_entry ([.ref a, .int p1, .ref o]) (n := 4) (Nat.le_of_ble_eq_true rfl)
  rw [lg_entry_eq]
  generalize (lg_sl ([.ref a, .int p1, .ref o]) ++ List.replicate (4 - (lg_sl ([.ref a, .int p1, .ref o])).length) Slot.unset).toArray = ls at hl ⊢
  have hl : lv_has ls 4 [(0, .ref a), (1, .int p1), (2, .ref o)] := hl
  refine lv_aload_n hx hb dL_yNumerator_0 rfl (lv_at hl 2 rfl) ?_
  refine lv_iconst (v := 0) hx hb dL_yNumerator_1 (by decide) ?_
  refine lv_aload_n hx hb dL_yNumerator_2 rfl (lv_at hl 0 rfl) ?_
  refine lv_iload_n hx hb dL_yNumerator_3 rfl (lv_at hl 1 rfl) ?_
  refine wCallN (As := [.int p1]) hC hv hm hk hM (cwV 1 hts (gVA wa_166 wa_167 wa_168 (hWCA _ wc_66) (hWCA _ wc_94) hws) rfl hrm.1 hrm.2.1 (by decide +kernel) ⟨hrm.2.2.1, hrm.2.2.2⟩) rfl hl.1 rfl (Nat.le_of_ble_eq_true rfl) ⟨by rw [Nat.zero_add]; exact hmc, by rw [Nat.zero_add]; exact hms⟩ dL_yNumerator_4 (fun r u H1 locs1 hpo hP hO hS => ?_)
  have hce : 0 + mc ≤ 2 := by rw [Nat.zero_add]; exact hmc
  have hsl : 0 + ms ≤ 21 := by rw [Nat.zero_add]; exact hms
  obtain ⟨g1, g2⟩ := hgr sz r u hpo
  refine lv_i2l (v := r.toInt64) hx hb dL_yNumerator_7 rfl ?_
  refine wPut hC hv hP hO hS g1 (g2 _) dL_yNumerator_8 (fun H2 locs2 hP hO hS => ?_)
  refine lv_goto (tgt := 15) hx hb dL_yNumerator_9 (by decide) ?_
  refine lv_iconst (v := 0) hx hb dL_yNumerator_15 (by decide) ?_
  exact wRet hC hv.1.1.2.2.1 hP hO hS ⟨r, u, hpo, rfl, rfl, rfl⟩ hce hsl dL_yNumerator_16
set_option maxHeartbeats 1000000 in
theorem wt_yNumerator_B (l : Launch) (G : cG) (S : CS) (D : CD) (z : Nat × Nat) (a o : Nat) (cJ : ClassId) (f : Nat → Int64) (p1 : Int32) (hm : a ∈ S.1) (hk : S.2.1 a = 6) {ws' : List Cond} {rm : Room} {mc ms : Nat} (hws : ∀ w ∈ ws', w ∈ WA) (hrm : rm.cells = mc ∧ rm.slots = ms ∧ rm.frames + 1 ≤ 10 ∧ 8 + (2 + 11) + rm.locals ≤ 400) (hmc : mc ≤ 2) (hms : ms ≤ 21) {D9 : CD} (hM : wThr l yX6_yNumerator (Cond.code yX6_yNumerator cX6_yNumerator 2 (some .int) :: ws') rm G S D D9 [.ref a, .int p1] mc ms "java/lang/IndexOutOfBoundsException") : wCon l yL_yNumerator wL_yNumerator G S D z o cJ f [.ref a, .int p1, .ref o] 1 (fun _ S2 D2 _ => S2 = S ∧ D2 = D9) := by
  refine wBody (by decide) rfl rfl ?_
  intro sz p e s m below meth c hC htab hv
  have hx := hC.1
  have hb := hC.2.1
  have hts := hC.2.2.2.1
  have hl := lv_entry ([.ref a, .int p1, .ref o]) (n := 4) (Nat.le_of_ble_eq_true rfl)
  rw [lg_entry_eq]
  generalize (lg_sl ([.ref a, .int p1, .ref o]) ++ List.replicate (4 - (lg_sl ([.ref a, .int p1, .ref o])).length) Slot.unset).toArray = ls at hl ⊢
  have hl : lv_has ls 4 [(0, .ref a), (1, .int p1), (2, .ref o)] := hl
  refine lv_aload_n hx hb dL_yNumerator_0 rfl (lv_at hl 2 rfl) ?_
  refine lv_iconst (v := 0) hx hb dL_yNumerator_1 (by decide) ?_
  refine lv_aload_n hx hb dL_yNumerator_2 rfl (lv_at hl 0 rfl) ?_
  refine lv_iload_n hx hb dL_yNumerator_3 rfl (lv_at hl 1 rfl) ?_
  refine wCallT (As := [.int p1]) hC hv hm hk hM (cwV 1 hts (gVA wa_166 wa_167 wa_168 (hWCA _ wc_66) (hWCA _ wc_94) hws) rfl hrm.1 hrm.2.1 (by decide +kernel) ⟨hrm.2.2.1, hrm.2.2.2⟩) rfl hl.1 rfl (Nat.le_of_ble_eq_true rfl) ⟨by rw [Nat.zero_add]; exact hmc, by rw [Nat.zero_add]; exact hms⟩ dL_yNumerator_4 (fun ce q9 H1 locs1 hP hO hS hce hvm hcl => ?_)
  refine vx_catch (own := RL) (name := "java/lang/IndexOutOfBoundsException") (E := "java/lang/IndexOutOfBoundsException") (ce := ce) hC.2.2.2.2.1 [] ⟨0, 9, 12, 21⟩ [] (by rw [htab]; rfl) (fun _ h => absurd h List.not_mem_nil) (by decide) (by decide) (hts _ (List.mem_cons_of_mem _ wa_149)) (va_Nw.use rfl (hv.1.2.2.2.2.1 "java/lang/IndexOutOfBoundsException" (by decide +kernel))) hce hvm hcl ?_
  refine lv_astore_n (lv' := [(3, .ref q9), (0, .ref a), (1, .int p1), (2, .ref o)]) hx hb dL_yNumerator_12 rfl hl (by decide) rfl (fun ls hl => ?_)
  refine lv_iconst (v := 1) hx hb dL_yNumerator_13 (by decide) ?_
  exact wRet hC hv.1.1.2.2.1 hP hO hS ⟨rfl, rfl⟩ (by rw [Nat.zero_add]; exact hmc) (by rw [Nat.zero_add]; exact hms) dL_yNumerator_14
theorem dL_yDenominator_0 : decode cL_yDenominator 0 = .ok (.aload_n 2, 1) := by decide +kernel
theorem dL_yDenominator_1 : decode cL_yDenominator 1 = .ok (.iconst 0, 1) := by decide +kernel
theorem dL_yDenominator_2 : decode cL_yDenominator 2 = .ok (.aload_n 0, 1) := by decide +kernel
theorem dL_yDenominator_3 : decode cL_yDenominator 3 = .ok (.iload_n 1, 1) := by decide +kernel
theorem dL_yDenominator_4 : decode cL_yDenominator 4 = .ok (.invokevirtual 36, 3) := by decide +kernel
theorem dL_yDenominator_7 : decode cL_yDenominator 7 = .ok (.i2l, 1) := by decide +kernel
theorem dL_yDenominator_8 : decode cL_yDenominator 8 = .ok (.lastore, 1) := by decide +kernel
theorem dL_yDenominator_9 : decode cL_yDenominator 9 = .ok (.goto 6, 3) := by decide +kernel
theorem dL_yDenominator_12 : decode cL_yDenominator 12 = .ok (.astore_n 3, 1) := by decide +kernel
theorem dL_yDenominator_13 : decode cL_yDenominator 13 = .ok (.iconst 1, 1) := by decide +kernel
theorem dL_yDenominator_14 : decode cL_yDenominator 14 = .ok (.ireturn, 1) := by decide +kernel
theorem dL_yDenominator_15 : decode cL_yDenominator 15 = .ok (.iconst 0, 1) := by decide +kernel
theorem dL_yDenominator_16 : decode cL_yDenominator 16 = .ok (.ireturn, 1) := by decide +kernel
def wL_yDenominator : List Cond := Cond.codeWith yL_yDenominator cL_yDenominator 4 (some .int) [(0, 9, 12, 21)] :: WA
set_option maxHeartbeats 1000000 in
theorem wn_yDenominator (l : Launch) (G : cG) (S : CS) (D : CD) (z : Nat × Nat) (a o : Nat) (cJ : ClassId) (f : Nat → Int64) (p1 : Int32) (hm : a ∈ S.1) (hk : S.2.1 a = 6) {ws' : List Cond} {rm : Room} {mc ms : Nat} (hws : ∀ w ∈ ws', w ∈ WA) (hrm : rm.cells = mc ∧ rm.slots = ms ∧ rm.frames + 1 ≤ 10 ∧ 8 + (2 + 11) + rm.locals ≤ 400) (hmc : mc ≤ 2) (hms : ms ≤ 21) {Su : Type} {post : Nat → Int32 → Su → Prop} {fS : Su → CS} {fD : Su → CD} (hM : wCal l yX6_yDenominator (Cond.code yX6_yDenominator cX6_yDenominator 2 (some .int) :: ws') rm G S D z [.ref a, .int p1] mc ms post fS fD) (hgr : ∀ (sz : Nat) (r : Int32) (u : Su), post sz r u → (∀ q ∈ (fS u).1, q ∈ S.1 ∨ sz ≤ q) ∧ ∀ D, va_D (fun _ => True) (cW G (fS u) D)) : wCon l yL_yDenominator wL_yDenominator G S D z o cJ f [.ref a, .int p1, .ref o] 0 (fun sz S2 D2 v => ∃ (r : Int32) (u : Su), post sz r u ∧ fS u = S2 ∧ fD u = D2 ∧ v = r.toInt64) := by
  refine wBody (by decide) rfl rfl ?_
  intro sz p e s m below meth c hC htab hv
  have hx := hC.1
  have hb := hC.2.1
  have hts := hC.2.2.2.1
  have hl := lv_entry ([.ref a, .int p1, .ref o]) (n := 4) (Nat.le_of_ble_eq_true rfl)
  rw [lg_entry_eq]
  generalize (lg_sl ([.ref a, .int p1, .ref o]) ++ List.replicate (4 - (lg_sl ([.ref a, .int p1, .ref o])).length) Slot.unset).toArray = ls at hl ⊢
  have hl : lv_has ls 4 [(0, .ref a), (1, .int p1), (2, .ref o)] := hl
  refine lv_aload_n hx hb dL_yDenominator_0 rfl (lv_at hl 2 rfl) ?_
  refine lv_iconst (v := 0) hx hb dL_yDenominator_1 (by decide) ?_
  refine lv_aload_n hx hb dL_yDenominator_2 rfl (lv_at hl 0 rfl) ?_
  refine lv_iload_n hx hb dL_yDenominator_3 rfl (lv_at hl 1 rfl) ?_
  refine wCallN (As := [.int p1]) hC hv hm hk hM (cwV 1 hts (gVA wa_170 wa_171 wa_172 (hWCA _ wc_66) (hWCA _ wc_95) hws) rfl hrm.1 hrm.2.1 (by decide +kernel) ⟨hrm.2.2.1, hrm.2.2.2⟩) rfl hl.1 rfl (Nat.le_of_ble_eq_true rfl) ⟨by rw [Nat.zero_add]; exact hmc, by rw [Nat.zero_add]; exact hms⟩ dL_yDenominator_4 (fun r u H1 locs1 hpo hP hO hS => ?_)
  have hce : 0 + mc ≤ 2 := by rw [Nat.zero_add]; exact hmc
  have hsl : 0 + ms ≤ 21 := by rw [Nat.zero_add]; exact hms
  obtain ⟨g1, g2⟩ := hgr sz r u hpo
  refine lv_i2l (v := r.toInt64) hx hb dL_yDenominator_7 rfl ?_
  refine wPut hC hv hP hO hS g1 (g2 _) dL_yDenominator_8 (fun H2 locs2 hP hO hS => ?_)
  refine lv_goto (tgt := 15) hx hb dL_yDenominator_9 (by decide) ?_
  refine lv_iconst (v := 0) hx hb dL_yDenominator_15 (by decide) ?_
  exact wRet hC hv.1.1.2.2.1 hP hO hS ⟨r, u, hpo, rfl, rfl, rfl⟩ hce hsl dL_yDenominator_16
set_option maxHeartbeats 1000000 in
theorem wt_yDenominator_B (l : Launch) (G : cG) (S : CS) (D : CD) (z : Nat × Nat) (a o : Nat) (cJ : ClassId) (f : Nat → Int64) (p1 : Int32) (hm : a ∈ S.1) (hk : S.2.1 a = 6) {ws' : List Cond} {rm : Room} {mc ms : Nat} (hws : ∀ w ∈ ws', w ∈ WA) (hrm : rm.cells = mc ∧ rm.slots = ms ∧ rm.frames + 1 ≤ 10 ∧ 8 + (2 + 11) + rm.locals ≤ 400) (hmc : mc ≤ 2) (hms : ms ≤ 21) {D9 : CD} (hM : wThr l yX6_yDenominator (Cond.code yX6_yDenominator cX6_yDenominator 2 (some .int) :: ws') rm G S D D9 [.ref a, .int p1] mc ms "java/lang/IndexOutOfBoundsException") : wCon l yL_yDenominator wL_yDenominator G S D z o cJ f [.ref a, .int p1, .ref o] 1 (fun _ S2 D2 _ => S2 = S ∧ D2 = D9) := by
  refine wBody (by decide) rfl rfl ?_
  intro sz p e s m below meth c hC htab hv
  have hx := hC.1
  have hb := hC.2.1
  have hts := hC.2.2.2.1
  have hl := lv_entry ([.ref a, .int p1, .ref o]) (n := 4) (Nat.le_of_ble_eq_true rfl)
  rw [lg_entry_eq]
  generalize (lg_sl ([.ref a, .int p1, .ref o]) ++ List.replicate (4 - (lg_sl ([.ref a, .int p1, .ref o])).length) Slot.unset).toArray = ls at hl ⊢
  have hl : lv_has ls 4 [(0, .ref a), (1, .int p1), (2, .ref o)] := hl
  refine lv_aload_n hx hb dL_yDenominator_0 rfl (lv_at hl 2 rfl) ?_
  refine lv_iconst (v := 0) hx hb dL_yDenominator_1 (by decide) ?_
  refine lv_aload_n hx hb dL_yDenominator_2 rfl (lv_at hl 0 rfl) ?_
  refine lv_iload_n hx hb dL_yDenominator_3 rfl (lv_at hl 1 rfl) ?_
  refine wCallT (As := [.int p1]) hC hv hm hk hM (cwV 1 hts (gVA wa_170 wa_171 wa_172 (hWCA _ wc_66) (hWCA _ wc_95) hws) rfl hrm.1 hrm.2.1 (by decide +kernel) ⟨hrm.2.2.1, hrm.2.2.2⟩) rfl hl.1 rfl (Nat.le_of_ble_eq_true rfl) ⟨by rw [Nat.zero_add]; exact hmc, by rw [Nat.zero_add]; exact hms⟩ dL_yDenominator_4 (fun ce q9 H1 locs1 hP hO hS hce hvm hcl => ?_)
  refine vx_catch (own := RL) (name := "java/lang/IndexOutOfBoundsException") (E := "java/lang/IndexOutOfBoundsException") (ce := ce) hC.2.2.2.2.1 [] ⟨0, 9, 12, 21⟩ [] (by rw [htab]; rfl) (fun _ h => absurd h List.not_mem_nil) (by decide) (by decide) (hts _ (List.mem_cons_of_mem _ wa_149)) (va_Nw.use rfl (hv.1.2.2.2.2.1 "java/lang/IndexOutOfBoundsException" (by decide +kernel))) hce hvm hcl ?_
  refine lv_astore_n (lv' := [(3, .ref q9), (0, .ref a), (1, .int p1), (2, .ref o)]) hx hb dL_yDenominator_12 rfl hl (by decide) rfl (fun ls hl => ?_)
  refine lv_iconst (v := 1) hx hb dL_yDenominator_13 (by decide) ?_
  exact wRet hC hv.1.1.2.2.1 hP hO hS ⟨rfl, rfl⟩ (by rw [Nat.zero_add]; exact hmc) (by rw [Nat.zero_add]; exact hms) dL_yDenominator_14
theorem dL_degree_0 : decode cL_degree 0 = .ok (.aload_n 2, 1) := by decide +kernel
theorem dL_degree_1 : decode cL_degree 1 = .ok (.iconst 0, 1) := by decide +kernel
theorem dL_degree_2 : decode cL_degree 2 = .ok (.aload_n 0, 1) := by decide +kernel
theorem dL_degree_3 : decode cL_degree 3 = .ok (.iload_n 1, 1) := by decide +kernel
theorem dL_degree_4 : decode cL_degree 4 = .ok (.invokevirtual 39, 3) := by decide +kernel
theorem dL_degree_7 : decode cL_degree 7 = .ok (.i2l, 1) := by decide +kernel
theorem dL_degree_8 : decode cL_degree 8 = .ok (.lastore, 1) := by decide +kernel
theorem dL_degree_9 : decode cL_degree 9 = .ok (.goto 6, 3) := by decide +kernel
theorem dL_degree_12 : decode cL_degree 12 = .ok (.astore_n 3, 1) := by decide +kernel
theorem dL_degree_13 : decode cL_degree 13 = .ok (.iconst 1, 1) := by decide +kernel
theorem dL_degree_14 : decode cL_degree 14 = .ok (.ireturn, 1) := by decide +kernel
theorem dL_degree_15 : decode cL_degree 15 = .ok (.iconst 0, 1) := by decide +kernel
theorem dL_degree_16 : decode cL_degree 16 = .ok (.ireturn, 1) := by decide +kernel
def wL_degree : List Cond := Cond.codeWith yL_degree cL_degree 4 (some .int) [(0, 9, 12, 21)] :: WA
set_option maxHeartbeats 1000000 in
theorem wn_degree (l : Launch) (G : cG) (S : CS) (D : CD) (z : Nat × Nat) (a o : Nat) (cJ : ClassId) (f : Nat → Int64) (p1 : Int32) (hm : a ∈ S.1) (hk : S.2.1 a = 6) {ws' : List Cond} {rm : Room} {mc ms : Nat} (hws : ∀ w ∈ ws', w ∈ WA) (hrm : rm.cells = mc ∧ rm.slots = ms ∧ rm.frames + 1 ≤ 10 ∧ 8 + (2 + 11) + rm.locals ≤ 400) (hmc : mc ≤ 2) (hms : ms ≤ 21) {Su : Type} {post : Nat → Int32 → Su → Prop} {fS : Su → CS} {fD : Su → CD} (hM : wCal l yX6_degree (Cond.code yX6_degree cX6_degree 2 (some .int) :: ws') rm G S D z [.ref a, .int p1] mc ms post fS fD) (hgr : ∀ (sz : Nat) (r : Int32) (u : Su), post sz r u → (∀ q ∈ (fS u).1, q ∈ S.1 ∨ sz ≤ q) ∧ ∀ D, va_D (fun _ => True) (cW G (fS u) D)) : wCon l yL_degree wL_degree G S D z o cJ f [.ref a, .int p1, .ref o] 0 (fun sz S2 D2 v => ∃ (r : Int32) (u : Su), post sz r u ∧ fS u = S2 ∧ fD u = D2 ∧ v = r.toInt64) := by
  refine wBody (by decide) rfl rfl ?_
  intro sz p e s m below meth c hC htab hv
  have hx := hC.1
  have hb := hC.2.1
  have hts := hC.2.2.2.1
  have hl := lv_entry ([.ref a, .int p1, .ref o]) (n := 4) (Nat.le_of_ble_eq_true rfl)
  rw [lg_entry_eq]
  generalize (lg_sl ([.ref a, .int p1, .ref o]) ++ List.replicate (4 - (lg_sl ([.ref a, .int p1, .ref o])).length) Slot.unset).toArray = ls at hl ⊢
  have hl : lv_has ls 4 [(0, .ref a), (1, .int p1), (2, .ref o)] := hl
  refine lv_aload_n hx hb dL_degree_0 rfl (lv_at hl 2 rfl) ?_
  refine lv_iconst (v := 0) hx hb dL_degree_1 (by decide) ?_
  refine lv_aload_n hx hb dL_degree_2 rfl (lv_at hl 0 rfl) ?_
  refine lv_iload_n hx hb dL_degree_3 rfl (lv_at hl 1 rfl) ?_
  refine wCallN (As := [.int p1]) hC hv hm hk hM (cwV 1 hts (gVA wa_174 wa_175 wa_176 (hWCA _ wc_66) (hWCA _ wc_98) hws) rfl hrm.1 hrm.2.1 (by decide +kernel) ⟨hrm.2.2.1, hrm.2.2.2⟩) rfl hl.1 rfl (Nat.le_of_ble_eq_true rfl) ⟨by rw [Nat.zero_add]; exact hmc, by rw [Nat.zero_add]; exact hms⟩ dL_degree_4 (fun r u H1 locs1 hpo hP hO hS => ?_)
  have hce : 0 + mc ≤ 2 := by rw [Nat.zero_add]; exact hmc
  have hsl : 0 + ms ≤ 21 := by rw [Nat.zero_add]; exact hms
  obtain ⟨g1, g2⟩ := hgr sz r u hpo
  refine lv_i2l (v := r.toInt64) hx hb dL_degree_7 rfl ?_
  refine wPut hC hv hP hO hS g1 (g2 _) dL_degree_8 (fun H2 locs2 hP hO hS => ?_)
  refine lv_goto (tgt := 15) hx hb dL_degree_9 (by decide) ?_
  refine lv_iconst (v := 0) hx hb dL_degree_15 (by decide) ?_
  exact wRet hC hv.1.1.2.2.1 hP hO hS ⟨r, u, hpo, rfl, rfl, rfl⟩ hce hsl dL_degree_16
set_option maxHeartbeats 1000000 in
theorem wt_degree_B (l : Launch) (G : cG) (S : CS) (D : CD) (z : Nat × Nat) (a o : Nat) (cJ : ClassId) (f : Nat → Int64) (p1 : Int32) (hm : a ∈ S.1) (hk : S.2.1 a = 6) {ws' : List Cond} {rm : Room} {mc ms : Nat} (hws : ∀ w ∈ ws', w ∈ WA) (hrm : rm.cells = mc ∧ rm.slots = ms ∧ rm.frames + 1 ≤ 10 ∧ 8 + (2 + 11) + rm.locals ≤ 400) (hmc : mc ≤ 2) (hms : ms ≤ 21) {D9 : CD} (hM : wThr l yX6_degree (Cond.code yX6_degree cX6_degree 2 (some .int) :: ws') rm G S D D9 [.ref a, .int p1] mc ms "java/lang/IndexOutOfBoundsException") : wCon l yL_degree wL_degree G S D z o cJ f [.ref a, .int p1, .ref o] 1 (fun _ S2 D2 _ => S2 = S ∧ D2 = D9) := by
  refine wBody (by decide) rfl rfl ?_
  intro sz p e s m below meth c hC htab hv
  have hx := hC.1
  have hb := hC.2.1
  have hts := hC.2.2.2.1
  have hl := lv_entry ([.ref a, .int p1, .ref o]) (n := 4) (Nat.le_of_ble_eq_true rfl)
  rw [lg_entry_eq]
  generalize (lg_sl ([.ref a, .int p1, .ref o]) ++ List.replicate (4 - (lg_sl ([.ref a, .int p1, .ref o])).length) Slot.unset).toArray = ls at hl ⊢
  have hl : lv_has ls 4 [(0, .ref a), (1, .int p1), (2, .ref o)] := hl
  refine lv_aload_n hx hb dL_degree_0 rfl (lv_at hl 2 rfl) ?_
  refine lv_iconst (v := 0) hx hb dL_degree_1 (by decide) ?_
  refine lv_aload_n hx hb dL_degree_2 rfl (lv_at hl 0 rfl) ?_
  refine lv_iload_n hx hb dL_degree_3 rfl (lv_at hl 1 rfl) ?_
  refine wCallT (As := [.int p1]) hC hv hm hk hM (cwV 1 hts (gVA wa_174 wa_175 wa_176 (hWCA _ wc_66) (hWCA _ wc_98) hws) rfl hrm.1 hrm.2.1 (by decide +kernel) ⟨hrm.2.2.1, hrm.2.2.2⟩) rfl hl.1 rfl (Nat.le_of_ble_eq_true rfl) ⟨by rw [Nat.zero_add]; exact hmc, by rw [Nat.zero_add]; exact hms⟩ dL_degree_4 (fun ce q9 H1 locs1 hP hO hS hce hvm hcl => ?_)
  refine vx_catch (own := RL) (name := "java/lang/IndexOutOfBoundsException") (E := "java/lang/IndexOutOfBoundsException") (ce := ce) hC.2.2.2.2.1 [] ⟨0, 9, 12, 21⟩ [] (by rw [htab]; rfl) (fun _ h => absurd h List.not_mem_nil) (by decide) (by decide) (hts _ (List.mem_cons_of_mem _ wa_149)) (va_Nw.use rfl (hv.1.2.2.2.2.1 "java/lang/IndexOutOfBoundsException" (by decide +kernel))) hce hvm hcl ?_
  refine lv_astore_n (lv' := [(3, .ref q9), (0, .ref a), (1, .int p1), (2, .ref o)]) hx hb dL_degree_12 rfl hl (by decide) rfl (fun ls hl => ?_)
  refine lv_iconst (v := 1) hx hb dL_degree_13 (by decide) ?_
  exact wRet hC hv.1.1.2.2.1 hP hO hS ⟨rfl, rfl⟩ (by rw [Nat.zero_add]; exact hmc) (by rw [Nat.zero_add]; exact hms) dL_degree_14
theorem dL_segmentOf_0 : decode cL_segmentOf 0 = .ok (.aload_n 2, 1) := by decide +kernel
theorem dL_segmentOf_1 : decode cL_segmentOf 1 = .ok (.iconst 0, 1) := by decide +kernel
theorem dL_segmentOf_2 : decode cL_segmentOf 2 = .ok (.aload_n 0, 1) := by decide +kernel
theorem dL_segmentOf_3 : decode cL_segmentOf 3 = .ok (.iload_n 1, 1) := by decide +kernel
theorem dL_segmentOf_4 : decode cL_segmentOf 4 = .ok (.invokevirtual 42, 3) := by decide +kernel
theorem dL_segmentOf_7 : decode cL_segmentOf 7 = .ok (.i2l, 1) := by decide +kernel
theorem dL_segmentOf_8 : decode cL_segmentOf 8 = .ok (.lastore, 1) := by decide +kernel
theorem dL_segmentOf_9 : decode cL_segmentOf 9 = .ok (.goto 6, 3) := by decide +kernel
theorem dL_segmentOf_12 : decode cL_segmentOf 12 = .ok (.astore_n 3, 1) := by decide +kernel
theorem dL_segmentOf_13 : decode cL_segmentOf 13 = .ok (.iconst 1, 1) := by decide +kernel
theorem dL_segmentOf_14 : decode cL_segmentOf 14 = .ok (.ireturn, 1) := by decide +kernel
theorem dL_segmentOf_15 : decode cL_segmentOf 15 = .ok (.iconst 0, 1) := by decide +kernel
theorem dL_segmentOf_16 : decode cL_segmentOf 16 = .ok (.ireturn, 1) := by decide +kernel
def wL_segmentOf : List Cond := Cond.codeWith yL_segmentOf cL_segmentOf 4 (some .int) [(0, 9, 12, 21)] :: WA
set_option maxHeartbeats 1000000 in
theorem wn_segmentOf (l : Launch) (G : cG) (S : CS) (D : CD) (z : Nat × Nat) (a o : Nat) (cJ : ClassId) (f : Nat → Int64) (p1 : Int32) (hm : a ∈ S.1) (hk : S.2.1 a = 6) {ws' : List Cond} {rm : Room} {mc ms : Nat} (hws : ∀ w ∈ ws', w ∈ WA) (hrm : rm.cells = mc ∧ rm.slots = ms ∧ rm.frames + 1 ≤ 10 ∧ 8 + (2 + 11) + rm.locals ≤ 400) (hmc : mc ≤ 2) (hms : ms ≤ 21) {Su : Type} {post : Nat → Int32 → Su → Prop} {fS : Su → CS} {fD : Su → CD} (hM : wCal l yX6_segmentOf (Cond.code yX6_segmentOf cX6_segmentOf 2 (some .int) :: ws') rm G S D z [.ref a, .int p1] mc ms post fS fD) (hgr : ∀ (sz : Nat) (r : Int32) (u : Su), post sz r u → (∀ q ∈ (fS u).1, q ∈ S.1 ∨ sz ≤ q) ∧ ∀ D, va_D (fun _ => True) (cW G (fS u) D)) : wCon l yL_segmentOf wL_segmentOf G S D z o cJ f [.ref a, .int p1, .ref o] 0 (fun sz S2 D2 v => ∃ (r : Int32) (u : Su), post sz r u ∧ fS u = S2 ∧ fD u = D2 ∧ v = r.toInt64) := by
  refine wBody (by decide) rfl rfl ?_
  intro sz p e s m below meth c hC htab hv
  have hx := hC.1
  have hb := hC.2.1
  have hts := hC.2.2.2.1
  have hl := lv_entry ([.ref a, .int p1, .ref o]) (n := 4) (Nat.le_of_ble_eq_true rfl)
  rw [lg_entry_eq]
  generalize (lg_sl ([.ref a, .int p1, .ref o]) ++ List.replicate (4 - (lg_sl ([.ref a, .int p1, .ref o])).length) Slot.unset).toArray = ls at hl ⊢
  have hl : lv_has ls 4 [(0, .ref a), (1, .int p1), (2, .ref o)] := hl
  refine lv_aload_n hx hb dL_segmentOf_0 rfl (lv_at hl 2 rfl) ?_
  refine lv_iconst (v := 0) hx hb dL_segmentOf_1 (by decide) ?_
  refine lv_aload_n hx hb dL_segmentOf_2 rfl (lv_at hl 0 rfl) ?_
  refine lv_iload_n hx hb dL_segmentOf_3 rfl (lv_at hl 1 rfl) ?_
  refine wCallN (As := [.int p1]) hC hv hm hk hM (cwV 1 hts (gVA wa_178 wa_179 wa_180 (hWCA _ wc_66) (hWCA _ wc_104) hws) rfl hrm.1 hrm.2.1 (by decide +kernel) ⟨hrm.2.2.1, hrm.2.2.2⟩) rfl hl.1 rfl (Nat.le_of_ble_eq_true rfl) ⟨by rw [Nat.zero_add]; exact hmc, by rw [Nat.zero_add]; exact hms⟩ dL_segmentOf_4 (fun r u H1 locs1 hpo hP hO hS => ?_)
  have hce : 0 + mc ≤ 2 := by rw [Nat.zero_add]; exact hmc
  have hsl : 0 + ms ≤ 21 := by rw [Nat.zero_add]; exact hms
  obtain ⟨g1, g2⟩ := hgr sz r u hpo
  refine lv_i2l (v := r.toInt64) hx hb dL_segmentOf_7 rfl ?_
  refine wPut hC hv hP hO hS g1 (g2 _) dL_segmentOf_8 (fun H2 locs2 hP hO hS => ?_)
  refine lv_goto (tgt := 15) hx hb dL_segmentOf_9 (by decide) ?_
  refine lv_iconst (v := 0) hx hb dL_segmentOf_15 (by decide) ?_
  exact wRet hC hv.1.1.2.2.1 hP hO hS ⟨r, u, hpo, rfl, rfl, rfl⟩ hce hsl dL_segmentOf_16
set_option maxHeartbeats 1000000 in
theorem wt_segmentOf_B (l : Launch) (G : cG) (S : CS) (D : CD) (z : Nat × Nat) (a o : Nat) (cJ : ClassId) (f : Nat → Int64) (p1 : Int32) (hm : a ∈ S.1) (hk : S.2.1 a = 6) {ws' : List Cond} {rm : Room} {mc ms : Nat} (hws : ∀ w ∈ ws', w ∈ WA) (hrm : rm.cells = mc ∧ rm.slots = ms ∧ rm.frames + 1 ≤ 10 ∧ 8 + (2 + 11) + rm.locals ≤ 400) (hmc : mc ≤ 2) (hms : ms ≤ 21) {D9 : CD} (hM : wThr l yX6_segmentOf (Cond.code yX6_segmentOf cX6_segmentOf 2 (some .int) :: ws') rm G S D D9 [.ref a, .int p1] mc ms "java/lang/IndexOutOfBoundsException") : wCon l yL_segmentOf wL_segmentOf G S D z o cJ f [.ref a, .int p1, .ref o] 1 (fun _ S2 D2 _ => S2 = S ∧ D2 = D9) := by
  refine wBody (by decide) rfl rfl ?_
  intro sz p e s m below meth c hC htab hv
  have hx := hC.1
  have hb := hC.2.1
  have hts := hC.2.2.2.1
  have hl := lv_entry ([.ref a, .int p1, .ref o]) (n := 4) (Nat.le_of_ble_eq_true rfl)
  rw [lg_entry_eq]
  generalize (lg_sl ([.ref a, .int p1, .ref o]) ++ List.replicate (4 - (lg_sl ([.ref a, .int p1, .ref o])).length) Slot.unset).toArray = ls at hl ⊢
  have hl : lv_has ls 4 [(0, .ref a), (1, .int p1), (2, .ref o)] := hl
  refine lv_aload_n hx hb dL_segmentOf_0 rfl (lv_at hl 2 rfl) ?_
  refine lv_iconst (v := 0) hx hb dL_segmentOf_1 (by decide) ?_
  refine lv_aload_n hx hb dL_segmentOf_2 rfl (lv_at hl 0 rfl) ?_
  refine lv_iload_n hx hb dL_segmentOf_3 rfl (lv_at hl 1 rfl) ?_
  refine wCallT (As := [.int p1]) hC hv hm hk hM (cwV 1 hts (gVA wa_178 wa_179 wa_180 (hWCA _ wc_66) (hWCA _ wc_104) hws) rfl hrm.1 hrm.2.1 (by decide +kernel) ⟨hrm.2.2.1, hrm.2.2.2⟩) rfl hl.1 rfl (Nat.le_of_ble_eq_true rfl) ⟨by rw [Nat.zero_add]; exact hmc, by rw [Nat.zero_add]; exact hms⟩ dL_segmentOf_4 (fun ce q9 H1 locs1 hP hO hS hce hvm hcl => ?_)
  refine vx_catch (own := RL) (name := "java/lang/IndexOutOfBoundsException") (E := "java/lang/IndexOutOfBoundsException") (ce := ce) hC.2.2.2.2.1 [] ⟨0, 9, 12, 21⟩ [] (by rw [htab]; rfl) (fun _ h => absurd h List.not_mem_nil) (by decide) (by decide) (hts _ (List.mem_cons_of_mem _ wa_149)) (va_Nw.use rfl (hv.1.2.2.2.2.1 "java/lang/IndexOutOfBoundsException" (by decide +kernel))) hce hvm hcl ?_
  refine lv_astore_n (lv' := [(3, .ref q9), (0, .ref a), (1, .int p1), (2, .ref o)]) hx hb dL_segmentOf_12 rfl hl (by decide) rfl (fun ls hl => ?_)
  refine lv_iconst (v := 1) hx hb dL_segmentOf_13 (by decide) ?_
  exact wRet hC hv.1.1.2.2.1 hP hO hS ⟨rfl, rfl⟩ (by rw [Nat.zero_add]; exact hmc) (by rw [Nat.zero_add]; exact hms) dL_segmentOf_14
theorem dL_from_0 : decode cL_from 0 = .ok (.aload_n 2, 1) := by decide +kernel
theorem dL_from_1 : decode cL_from 1 = .ok (.iconst 0, 1) := by decide +kernel
theorem dL_from_2 : decode cL_from 2 = .ok (.aload_n 0, 1) := by decide +kernel
theorem dL_from_3 : decode cL_from 3 = .ok (.iload_n 1, 1) := by decide +kernel
theorem dL_from_4 : decode cL_from 4 = .ok (.invokevirtual 45, 3) := by decide +kernel
theorem dL_from_7 : decode cL_from 7 = .ok (.i2l, 1) := by decide +kernel
theorem dL_from_8 : decode cL_from 8 = .ok (.lastore, 1) := by decide +kernel
theorem dL_from_9 : decode cL_from 9 = .ok (.goto 6, 3) := by decide +kernel
theorem dL_from_12 : decode cL_from 12 = .ok (.astore_n 3, 1) := by decide +kernel
theorem dL_from_13 : decode cL_from 13 = .ok (.iconst 1, 1) := by decide +kernel
theorem dL_from_14 : decode cL_from 14 = .ok (.ireturn, 1) := by decide +kernel
theorem dL_from_15 : decode cL_from 15 = .ok (.iconst 0, 1) := by decide +kernel
theorem dL_from_16 : decode cL_from 16 = .ok (.ireturn, 1) := by decide +kernel
def wL_from : List Cond := Cond.codeWith yL_from cL_from 4 (some .int) [(0, 9, 12, 21)] :: WA
set_option maxHeartbeats 1000000 in
theorem wn_from (l : Launch) (G : cG) (S : CS) (D : CD) (z : Nat × Nat) (a o : Nat) (cJ : ClassId) (f : Nat → Int64) (p1 : Int32) (hm : a ∈ S.1) (hk : S.2.1 a = 6) {ws' : List Cond} {rm : Room} {mc ms : Nat} (hws : ∀ w ∈ ws', w ∈ WA) (hrm : rm.cells = mc ∧ rm.slots = ms ∧ rm.frames + 1 ≤ 10 ∧ 8 + (2 + 11) + rm.locals ≤ 400) (hmc : mc ≤ 2) (hms : ms ≤ 21) {Su : Type} {post : Nat → Int32 → Su → Prop} {fS : Su → CS} {fD : Su → CD} (hM : wCal l yX6_from (Cond.code yX6_from cX6_from 2 (some .int) :: ws') rm G S D z [.ref a, .int p1] mc ms post fS fD) (hgr : ∀ (sz : Nat) (r : Int32) (u : Su), post sz r u → (∀ q ∈ (fS u).1, q ∈ S.1 ∨ sz ≤ q) ∧ ∀ D, va_D (fun _ => True) (cW G (fS u) D)) : wCon l yL_from wL_from G S D z o cJ f [.ref a, .int p1, .ref o] 0 (fun sz S2 D2 v => ∃ (r : Int32) (u : Su), post sz r u ∧ fS u = S2 ∧ fD u = D2 ∧ v = r.toInt64) := by
  refine wBody (by decide) rfl rfl ?_
  intro sz p e s m below meth c hC htab hv
  have hx := hC.1
  have hb := hC.2.1
  have hts := hC.2.2.2.1
  have hl := lv_entry ([.ref a, .int p1, .ref o]) (n := 4) (Nat.le_of_ble_eq_true rfl)
  rw [lg_entry_eq]
  generalize (lg_sl ([.ref a, .int p1, .ref o]) ++ List.replicate (4 - (lg_sl ([.ref a, .int p1, .ref o])).length) Slot.unset).toArray = ls at hl ⊢
  have hl : lv_has ls 4 [(0, .ref a), (1, .int p1), (2, .ref o)] := hl
  refine lv_aload_n hx hb dL_from_0 rfl (lv_at hl 2 rfl) ?_
  refine lv_iconst (v := 0) hx hb dL_from_1 (by decide) ?_
  refine lv_aload_n hx hb dL_from_2 rfl (lv_at hl 0 rfl) ?_
  refine lv_iload_n hx hb dL_from_3 rfl (lv_at hl 1 rfl) ?_
  refine wCallN (As := [.int p1]) hC hv hm hk hM (cwV 1 hts (gVA wa_182 wa_183 wa_184 (hWCA _ wc_66) (hWCA _ wc_108) hws) rfl hrm.1 hrm.2.1 (by decide +kernel) ⟨hrm.2.2.1, hrm.2.2.2⟩) rfl hl.1 rfl (Nat.le_of_ble_eq_true rfl) ⟨by rw [Nat.zero_add]; exact hmc, by rw [Nat.zero_add]; exact hms⟩ dL_from_4 (fun r u H1 locs1 hpo hP hO hS => ?_)
  have hce : 0 + mc ≤ 2 := by rw [Nat.zero_add]; exact hmc
  have hsl : 0 + ms ≤ 21 := by rw [Nat.zero_add]; exact hms
  obtain ⟨g1, g2⟩ := hgr sz r u hpo
  refine lv_i2l (v := r.toInt64) hx hb dL_from_7 rfl ?_
  refine wPut hC hv hP hO hS g1 (g2 _) dL_from_8 (fun H2 locs2 hP hO hS => ?_)
  refine lv_goto (tgt := 15) hx hb dL_from_9 (by decide) ?_
  refine lv_iconst (v := 0) hx hb dL_from_15 (by decide) ?_
  exact wRet hC hv.1.1.2.2.1 hP hO hS ⟨r, u, hpo, rfl, rfl, rfl⟩ hce hsl dL_from_16
set_option maxHeartbeats 1000000 in
theorem wt_from_B (l : Launch) (G : cG) (S : CS) (D : CD) (z : Nat × Nat) (a o : Nat) (cJ : ClassId) (f : Nat → Int64) (p1 : Int32) (hm : a ∈ S.1) (hk : S.2.1 a = 6) {ws' : List Cond} {rm : Room} {mc ms : Nat} (hws : ∀ w ∈ ws', w ∈ WA) (hrm : rm.cells = mc ∧ rm.slots = ms ∧ rm.frames + 1 ≤ 10 ∧ 8 + (2 + 11) + rm.locals ≤ 400) (hmc : mc ≤ 2) (hms : ms ≤ 21) {D9 : CD} (hM : wThr l yX6_from (Cond.code yX6_from cX6_from 2 (some .int) :: ws') rm G S D D9 [.ref a, .int p1] mc ms "java/lang/IndexOutOfBoundsException") : wCon l yL_from wL_from G S D z o cJ f [.ref a, .int p1, .ref o] 1 (fun _ S2 D2 _ => S2 = S ∧ D2 = D9) := by
  refine wBody (by decide) rfl rfl ?_
  intro sz p e s m below meth c hC htab hv
  have hx := hC.1
  have hb := hC.2.1
  have hts := hC.2.2.2.1
  have hl := lv_entry ([.ref a, .int p1, .ref o]) (n := 4) (Nat.le_of_ble_eq_true rfl)
  rw [lg_entry_eq]
  generalize (lg_sl ([.ref a, .int p1, .ref o]) ++ List.replicate (4 - (lg_sl ([.ref a, .int p1, .ref o])).length) Slot.unset).toArray = ls at hl ⊢
  have hl : lv_has ls 4 [(0, .ref a), (1, .int p1), (2, .ref o)] := hl
  refine lv_aload_n hx hb dL_from_0 rfl (lv_at hl 2 rfl) ?_
  refine lv_iconst (v := 0) hx hb dL_from_1 (by decide) ?_
  refine lv_aload_n hx hb dL_from_2 rfl (lv_at hl 0 rfl) ?_
  refine lv_iload_n hx hb dL_from_3 rfl (lv_at hl 1 rfl) ?_
  refine wCallT (As := [.int p1]) hC hv hm hk hM (cwV 1 hts (gVA wa_182 wa_183 wa_184 (hWCA _ wc_66) (hWCA _ wc_108) hws) rfl hrm.1 hrm.2.1 (by decide +kernel) ⟨hrm.2.2.1, hrm.2.2.2⟩) rfl hl.1 rfl (Nat.le_of_ble_eq_true rfl) ⟨by rw [Nat.zero_add]; exact hmc, by rw [Nat.zero_add]; exact hms⟩ dL_from_4 (fun ce q9 H1 locs1 hP hO hS hce hvm hcl => ?_)
  refine vx_catch (own := RL) (name := "java/lang/IndexOutOfBoundsException") (E := "java/lang/IndexOutOfBoundsException") (ce := ce) hC.2.2.2.2.1 [] ⟨0, 9, 12, 21⟩ [] (by rw [htab]; rfl) (fun _ h => absurd h List.not_mem_nil) (by decide) (by decide) (hts _ (List.mem_cons_of_mem _ wa_149)) (va_Nw.use rfl (hv.1.2.2.2.2.1 "java/lang/IndexOutOfBoundsException" (by decide +kernel))) hce hvm hcl ?_
  refine lv_astore_n (lv' := [(3, .ref q9), (0, .ref a), (1, .int p1), (2, .ref o)]) hx hb dL_from_12 rfl hl (by decide) rfl (fun ls hl => ?_)
  refine lv_iconst (v := 1) hx hb dL_from_13 (by decide) ?_
  exact wRet hC hv.1.1.2.2.1 hP hO hS ⟨rfl, rfl⟩ (by rw [Nat.zero_add]; exact hmc) (by rw [Nat.zero_add]; exact hms) dL_from_14
theorem dL_to_0 : decode cL_to 0 = .ok (.aload_n 2, 1) := by decide +kernel
theorem dL_to_1 : decode cL_to 1 = .ok (.iconst 0, 1) := by decide +kernel
theorem dL_to_2 : decode cL_to 2 = .ok (.aload_n 0, 1) := by decide +kernel
theorem dL_to_3 : decode cL_to 3 = .ok (.iload_n 1, 1) := by decide +kernel
theorem dL_to_4 : decode cL_to 4 = .ok (.invokevirtual 48, 3) := by decide +kernel
theorem dL_to_7 : decode cL_to 7 = .ok (.i2l, 1) := by decide +kernel
theorem dL_to_8 : decode cL_to 8 = .ok (.lastore, 1) := by decide +kernel
theorem dL_to_9 : decode cL_to 9 = .ok (.goto 6, 3) := by decide +kernel
theorem dL_to_12 : decode cL_to 12 = .ok (.astore_n 3, 1) := by decide +kernel
theorem dL_to_13 : decode cL_to 13 = .ok (.iconst 1, 1) := by decide +kernel
theorem dL_to_14 : decode cL_to 14 = .ok (.ireturn, 1) := by decide +kernel
theorem dL_to_15 : decode cL_to 15 = .ok (.iconst 0, 1) := by decide +kernel
theorem dL_to_16 : decode cL_to 16 = .ok (.ireturn, 1) := by decide +kernel
def wL_to : List Cond := Cond.codeWith yL_to cL_to 4 (some .int) [(0, 9, 12, 21)] :: WA
set_option maxHeartbeats 1000000 in
theorem wn_to (l : Launch) (G : cG) (S : CS) (D : CD) (z : Nat × Nat) (a o : Nat) (cJ : ClassId) (f : Nat → Int64) (p1 : Int32) (hm : a ∈ S.1) (hk : S.2.1 a = 6) {ws' : List Cond} {rm : Room} {mc ms : Nat} (hws : ∀ w ∈ ws', w ∈ WA) (hrm : rm.cells = mc ∧ rm.slots = ms ∧ rm.frames + 1 ≤ 10 ∧ 8 + (2 + 11) + rm.locals ≤ 400) (hmc : mc ≤ 2) (hms : ms ≤ 21) {Su : Type} {post : Nat → Int32 → Su → Prop} {fS : Su → CS} {fD : Su → CD} (hM : wCal l yX6_to (Cond.code yX6_to cX6_to 2 (some .int) :: ws') rm G S D z [.ref a, .int p1] mc ms post fS fD) (hgr : ∀ (sz : Nat) (r : Int32) (u : Su), post sz r u → (∀ q ∈ (fS u).1, q ∈ S.1 ∨ sz ≤ q) ∧ ∀ D, va_D (fun _ => True) (cW G (fS u) D)) : wCon l yL_to wL_to G S D z o cJ f [.ref a, .int p1, .ref o] 0 (fun sz S2 D2 v => ∃ (r : Int32) (u : Su), post sz r u ∧ fS u = S2 ∧ fD u = D2 ∧ v = r.toInt64) := by
  refine wBody (by decide) rfl rfl ?_
  intro sz p e s m below meth c hC htab hv
  have hx := hC.1
  have hb := hC.2.1
  have hts := hC.2.2.2.1
  have hl := lv_entry ([.ref a, .int p1, .ref o]) (n := 4) (Nat.le_of_ble_eq_true rfl)
  rw [lg_entry_eq]
  generalize (lg_sl ([.ref a, .int p1, .ref o]) ++ List.replicate (4 - (lg_sl ([.ref a, .int p1, .ref o])).length) Slot.unset).toArray = ls at hl ⊢
  have hl : lv_has ls 4 [(0, .ref a), (1, .int p1), (2, .ref o)] := hl
  refine lv_aload_n hx hb dL_to_0 rfl (lv_at hl 2 rfl) ?_
  refine lv_iconst (v := 0) hx hb dL_to_1 (by decide) ?_
  refine lv_aload_n hx hb dL_to_2 rfl (lv_at hl 0 rfl) ?_
  refine lv_iload_n hx hb dL_to_3 rfl (lv_at hl 1 rfl) ?_
  refine wCallN (As := [.int p1]) hC hv hm hk hM (cwV 1 hts (gVA wa_186 wa_187 wa_188 (hWCA _ wc_66) (hWCA _ wc_109) hws) rfl hrm.1 hrm.2.1 (by decide +kernel) ⟨hrm.2.2.1, hrm.2.2.2⟩) rfl hl.1 rfl (Nat.le_of_ble_eq_true rfl) ⟨by rw [Nat.zero_add]; exact hmc, by rw [Nat.zero_add]; exact hms⟩ dL_to_4 (fun r u H1 locs1 hpo hP hO hS => ?_)
  have hce : 0 + mc ≤ 2 := by rw [Nat.zero_add]; exact hmc
  have hsl : 0 + ms ≤ 21 := by rw [Nat.zero_add]; exact hms
  obtain ⟨g1, g2⟩ := hgr sz r u hpo
  refine lv_i2l (v := r.toInt64) hx hb dL_to_7 rfl ?_
  refine wPut hC hv hP hO hS g1 (g2 _) dL_to_8 (fun H2 locs2 hP hO hS => ?_)
  refine lv_goto (tgt := 15) hx hb dL_to_9 (by decide) ?_
  refine lv_iconst (v := 0) hx hb dL_to_15 (by decide) ?_
  exact wRet hC hv.1.1.2.2.1 hP hO hS ⟨r, u, hpo, rfl, rfl, rfl⟩ hce hsl dL_to_16
set_option maxHeartbeats 1000000 in
theorem wt_to_B (l : Launch) (G : cG) (S : CS) (D : CD) (z : Nat × Nat) (a o : Nat) (cJ : ClassId) (f : Nat → Int64) (p1 : Int32) (hm : a ∈ S.1) (hk : S.2.1 a = 6) {ws' : List Cond} {rm : Room} {mc ms : Nat} (hws : ∀ w ∈ ws', w ∈ WA) (hrm : rm.cells = mc ∧ rm.slots = ms ∧ rm.frames + 1 ≤ 10 ∧ 8 + (2 + 11) + rm.locals ≤ 400) (hmc : mc ≤ 2) (hms : ms ≤ 21) {D9 : CD} (hM : wThr l yX6_to (Cond.code yX6_to cX6_to 2 (some .int) :: ws') rm G S D D9 [.ref a, .int p1] mc ms "java/lang/IndexOutOfBoundsException") : wCon l yL_to wL_to G S D z o cJ f [.ref a, .int p1, .ref o] 1 (fun _ S2 D2 _ => S2 = S ∧ D2 = D9) := by
  refine wBody (by decide) rfl rfl ?_
  intro sz p e s m below meth c hC htab hv
  have hx := hC.1
  have hb := hC.2.1
  have hts := hC.2.2.2.1
  have hl := lv_entry ([.ref a, .int p1, .ref o]) (n := 4) (Nat.le_of_ble_eq_true rfl)
  rw [lg_entry_eq]
  generalize (lg_sl ([.ref a, .int p1, .ref o]) ++ List.replicate (4 - (lg_sl ([.ref a, .int p1, .ref o])).length) Slot.unset).toArray = ls at hl ⊢
  have hl : lv_has ls 4 [(0, .ref a), (1, .int p1), (2, .ref o)] := hl
  refine lv_aload_n hx hb dL_to_0 rfl (lv_at hl 2 rfl) ?_
  refine lv_iconst (v := 0) hx hb dL_to_1 (by decide) ?_
  refine lv_aload_n hx hb dL_to_2 rfl (lv_at hl 0 rfl) ?_
  refine lv_iload_n hx hb dL_to_3 rfl (lv_at hl 1 rfl) ?_
  refine wCallT (As := [.int p1]) hC hv hm hk hM (cwV 1 hts (gVA wa_186 wa_187 wa_188 (hWCA _ wc_66) (hWCA _ wc_109) hws) rfl hrm.1 hrm.2.1 (by decide +kernel) ⟨hrm.2.2.1, hrm.2.2.2⟩) rfl hl.1 rfl (Nat.le_of_ble_eq_true rfl) ⟨by rw [Nat.zero_add]; exact hmc, by rw [Nat.zero_add]; exact hms⟩ dL_to_4 (fun ce q9 H1 locs1 hP hO hS hce hvm hcl => ?_)
  refine vx_catch (own := RL) (name := "java/lang/IndexOutOfBoundsException") (E := "java/lang/IndexOutOfBoundsException") (ce := ce) hC.2.2.2.2.1 [] ⟨0, 9, 12, 21⟩ [] (by rw [htab]; rfl) (fun _ h => absurd h List.not_mem_nil) (by decide) (by decide) (hts _ (List.mem_cons_of_mem _ wa_149)) (va_Nw.use rfl (hv.1.2.2.2.2.1 "java/lang/IndexOutOfBoundsException" (by decide +kernel))) hce hvm hcl ?_
  refine lv_astore_n (lv' := [(3, .ref q9), (0, .ref a), (1, .int p1), (2, .ref o)]) hx hb dL_to_12 rfl hl (by decide) rfl (fun ls hl => ?_)
  refine lv_iconst (v := 1) hx hb dL_to_13 (by decide) ?_
  exact wRet hC hv.1.1.2.2.1 hP hO hS ⟨rfl, rfl⟩ (by rw [Nat.zero_add]; exact hmc) (by rw [Nat.zero_add]; exact hms) dL_to_14
theorem dL_leftOf_0 : decode cL_leftOf 0 = .ok (.aload_n 2, 1) := by decide +kernel
theorem dL_leftOf_1 : decode cL_leftOf 1 = .ok (.iconst 0, 1) := by decide +kernel
theorem dL_leftOf_2 : decode cL_leftOf 2 = .ok (.aload_n 0, 1) := by decide +kernel
theorem dL_leftOf_3 : decode cL_leftOf 3 = .ok (.iload_n 1, 1) := by decide +kernel
theorem dL_leftOf_4 : decode cL_leftOf 4 = .ok (.invokevirtual 51, 3) := by decide +kernel
theorem dL_leftOf_7 : decode cL_leftOf 7 = .ok (.i2l, 1) := by decide +kernel
theorem dL_leftOf_8 : decode cL_leftOf 8 = .ok (.lastore, 1) := by decide +kernel
theorem dL_leftOf_9 : decode cL_leftOf 9 = .ok (.goto 6, 3) := by decide +kernel
theorem dL_leftOf_12 : decode cL_leftOf 12 = .ok (.astore_n 3, 1) := by decide +kernel
theorem dL_leftOf_13 : decode cL_leftOf 13 = .ok (.iconst 1, 1) := by decide +kernel
theorem dL_leftOf_14 : decode cL_leftOf 14 = .ok (.ireturn, 1) := by decide +kernel
theorem dL_leftOf_15 : decode cL_leftOf 15 = .ok (.iconst 0, 1) := by decide +kernel
theorem dL_leftOf_16 : decode cL_leftOf 16 = .ok (.ireturn, 1) := by decide +kernel
def wL_leftOf : List Cond := Cond.codeWith yL_leftOf cL_leftOf 4 (some .int) [(0, 9, 12, 21)] :: WA
set_option maxHeartbeats 1000000 in
theorem wn_leftOf (l : Launch) (G : cG) (S : CS) (D : CD) (z : Nat × Nat) (a o : Nat) (cJ : ClassId) (f : Nat → Int64) (p1 : Int32) (hm : a ∈ S.1) (hk : S.2.1 a = 6) {ws' : List Cond} {rm : Room} {mc ms : Nat} (hws : ∀ w ∈ ws', w ∈ WA) (hrm : rm.cells = mc ∧ rm.slots = ms ∧ rm.frames + 1 ≤ 10 ∧ 8 + (2 + 11) + rm.locals ≤ 400) (hmc : mc ≤ 2) (hms : ms ≤ 21) {Su : Type} {post : Nat → Int32 → Su → Prop} {fS : Su → CS} {fD : Su → CD} (hM : wCal l yX6_leftOf (Cond.code yX6_leftOf cX6_leftOf 2 (some .int) :: ws') rm G S D z [.ref a, .int p1] mc ms post fS fD) (hgr : ∀ (sz : Nat) (r : Int32) (u : Su), post sz r u → (∀ q ∈ (fS u).1, q ∈ S.1 ∨ sz ≤ q) ∧ ∀ D, va_D (fun _ => True) (cW G (fS u) D)) : wCon l yL_leftOf wL_leftOf G S D z o cJ f [.ref a, .int p1, .ref o] 0 (fun sz S2 D2 v => ∃ (r : Int32) (u : Su), post sz r u ∧ fS u = S2 ∧ fD u = D2 ∧ v = r.toInt64) := by
  refine wBody (by decide) rfl rfl ?_
  intro sz p e s m below meth c hC htab hv
  have hx := hC.1
  have hb := hC.2.1
  have hts := hC.2.2.2.1
  have hl := lv_entry ([.ref a, .int p1, .ref o]) (n := 4) (Nat.le_of_ble_eq_true rfl)
  rw [lg_entry_eq]
  generalize (lg_sl ([.ref a, .int p1, .ref o]) ++ List.replicate (4 - (lg_sl ([.ref a, .int p1, .ref o])).length) Slot.unset).toArray = ls at hl ⊢
  have hl : lv_has ls 4 [(0, .ref a), (1, .int p1), (2, .ref o)] := hl
  refine lv_aload_n hx hb dL_leftOf_0 rfl (lv_at hl 2 rfl) ?_
  refine lv_iconst (v := 0) hx hb dL_leftOf_1 (by decide) ?_
  refine lv_aload_n hx hb dL_leftOf_2 rfl (lv_at hl 0 rfl) ?_
  refine lv_iload_n hx hb dL_leftOf_3 rfl (lv_at hl 1 rfl) ?_
  refine wCallN (As := [.int p1]) hC hv hm hk hM (cwV 1 hts (gVA wa_190 wa_191 wa_192 (hWCA _ wc_66) (hWCA _ wc_110) hws) rfl hrm.1 hrm.2.1 (by decide +kernel) ⟨hrm.2.2.1, hrm.2.2.2⟩) rfl hl.1 rfl (Nat.le_of_ble_eq_true rfl) ⟨by rw [Nat.zero_add]; exact hmc, by rw [Nat.zero_add]; exact hms⟩ dL_leftOf_4 (fun r u H1 locs1 hpo hP hO hS => ?_)
  have hce : 0 + mc ≤ 2 := by rw [Nat.zero_add]; exact hmc
  have hsl : 0 + ms ≤ 21 := by rw [Nat.zero_add]; exact hms
  obtain ⟨g1, g2⟩ := hgr sz r u hpo
  refine lv_i2l (v := r.toInt64) hx hb dL_leftOf_7 rfl ?_
  refine wPut hC hv hP hO hS g1 (g2 _) dL_leftOf_8 (fun H2 locs2 hP hO hS => ?_)
  refine lv_goto (tgt := 15) hx hb dL_leftOf_9 (by decide) ?_
  refine lv_iconst (v := 0) hx hb dL_leftOf_15 (by decide) ?_
  exact wRet hC hv.1.1.2.2.1 hP hO hS ⟨r, u, hpo, rfl, rfl, rfl⟩ hce hsl dL_leftOf_16
set_option maxHeartbeats 1000000 in
theorem wt_leftOf_B (l : Launch) (G : cG) (S : CS) (D : CD) (z : Nat × Nat) (a o : Nat) (cJ : ClassId) (f : Nat → Int64) (p1 : Int32) (hm : a ∈ S.1) (hk : S.2.1 a = 6) {ws' : List Cond} {rm : Room} {mc ms : Nat} (hws : ∀ w ∈ ws', w ∈ WA) (hrm : rm.cells = mc ∧ rm.slots = ms ∧ rm.frames + 1 ≤ 10 ∧ 8 + (2 + 11) + rm.locals ≤ 400) (hmc : mc ≤ 2) (hms : ms ≤ 21) {D9 : CD} (hM : wThr l yX6_leftOf (Cond.code yX6_leftOf cX6_leftOf 2 (some .int) :: ws') rm G S D D9 [.ref a, .int p1] mc ms "java/lang/IndexOutOfBoundsException") : wCon l yL_leftOf wL_leftOf G S D z o cJ f [.ref a, .int p1, .ref o] 1 (fun _ S2 D2 _ => S2 = S ∧ D2 = D9) := by
  refine wBody (by decide) rfl rfl ?_
  intro sz p e s m below meth c hC htab hv
  have hx := hC.1
  have hb := hC.2.1
  have hts := hC.2.2.2.1
  have hl := lv_entry ([.ref a, .int p1, .ref o]) (n := 4) (Nat.le_of_ble_eq_true rfl)
  rw [lg_entry_eq]
  generalize (lg_sl ([.ref a, .int p1, .ref o]) ++ List.replicate (4 - (lg_sl ([.ref a, .int p1, .ref o])).length) Slot.unset).toArray = ls at hl ⊢
  have hl : lv_has ls 4 [(0, .ref a), (1, .int p1), (2, .ref o)] := hl
  refine lv_aload_n hx hb dL_leftOf_0 rfl (lv_at hl 2 rfl) ?_
  refine lv_iconst (v := 0) hx hb dL_leftOf_1 (by decide) ?_
  refine lv_aload_n hx hb dL_leftOf_2 rfl (lv_at hl 0 rfl) ?_
  refine lv_iload_n hx hb dL_leftOf_3 rfl (lv_at hl 1 rfl) ?_
  refine wCallT (As := [.int p1]) hC hv hm hk hM (cwV 1 hts (gVA wa_190 wa_191 wa_192 (hWCA _ wc_66) (hWCA _ wc_110) hws) rfl hrm.1 hrm.2.1 (by decide +kernel) ⟨hrm.2.2.1, hrm.2.2.2⟩) rfl hl.1 rfl (Nat.le_of_ble_eq_true rfl) ⟨by rw [Nat.zero_add]; exact hmc, by rw [Nat.zero_add]; exact hms⟩ dL_leftOf_4 (fun ce q9 H1 locs1 hP hO hS hce hvm hcl => ?_)
  refine vx_catch (own := RL) (name := "java/lang/IndexOutOfBoundsException") (E := "java/lang/IndexOutOfBoundsException") (ce := ce) hC.2.2.2.2.1 [] ⟨0, 9, 12, 21⟩ [] (by rw [htab]; rfl) (fun _ h => absurd h List.not_mem_nil) (by decide) (by decide) (hts _ (List.mem_cons_of_mem _ wa_149)) (va_Nw.use rfl (hv.1.2.2.2.2.1 "java/lang/IndexOutOfBoundsException" (by decide +kernel))) hce hvm hcl ?_
  refine lv_astore_n (lv' := [(3, .ref q9), (0, .ref a), (1, .int p1), (2, .ref o)]) hx hb dL_leftOf_12 rfl hl (by decide) rfl (fun ls hl => ?_)
  refine lv_iconst (v := 1) hx hb dL_leftOf_13 (by decide) ?_
  exact wRet hC hv.1.1.2.2.1 hP hO hS ⟨rfl, rfl⟩ (by rw [Nat.zero_add]; exact hmc) (by rw [Nat.zero_add]; exact hms) dL_leftOf_14
theorem dL_rightOf_0 : decode cL_rightOf 0 = .ok (.aload_n 2, 1) := by decide +kernel
theorem dL_rightOf_1 : decode cL_rightOf 1 = .ok (.iconst 0, 1) := by decide +kernel
theorem dL_rightOf_2 : decode cL_rightOf 2 = .ok (.aload_n 0, 1) := by decide +kernel
theorem dL_rightOf_3 : decode cL_rightOf 3 = .ok (.iload_n 1, 1) := by decide +kernel
theorem dL_rightOf_4 : decode cL_rightOf 4 = .ok (.invokevirtual 54, 3) := by decide +kernel
theorem dL_rightOf_7 : decode cL_rightOf 7 = .ok (.i2l, 1) := by decide +kernel
theorem dL_rightOf_8 : decode cL_rightOf 8 = .ok (.lastore, 1) := by decide +kernel
theorem dL_rightOf_9 : decode cL_rightOf 9 = .ok (.goto 6, 3) := by decide +kernel
theorem dL_rightOf_12 : decode cL_rightOf 12 = .ok (.astore_n 3, 1) := by decide +kernel
theorem dL_rightOf_13 : decode cL_rightOf 13 = .ok (.iconst 1, 1) := by decide +kernel
theorem dL_rightOf_14 : decode cL_rightOf 14 = .ok (.ireturn, 1) := by decide +kernel
theorem dL_rightOf_15 : decode cL_rightOf 15 = .ok (.iconst 0, 1) := by decide +kernel
theorem dL_rightOf_16 : decode cL_rightOf 16 = .ok (.ireturn, 1) := by decide +kernel
def wL_rightOf : List Cond := Cond.codeWith yL_rightOf cL_rightOf 4 (some .int) [(0, 9, 12, 21)] :: WA
set_option maxHeartbeats 1000000 in
theorem wn_rightOf (l : Launch) (G : cG) (S : CS) (D : CD) (z : Nat × Nat) (a o : Nat) (cJ : ClassId) (f : Nat → Int64) (p1 : Int32) (hm : a ∈ S.1) (hk : S.2.1 a = 6) {ws' : List Cond} {rm : Room} {mc ms : Nat} (hws : ∀ w ∈ ws', w ∈ WA) (hrm : rm.cells = mc ∧ rm.slots = ms ∧ rm.frames + 1 ≤ 10 ∧ 8 + (2 + 11) + rm.locals ≤ 400) (hmc : mc ≤ 2) (hms : ms ≤ 21) {Su : Type} {post : Nat → Int32 → Su → Prop} {fS : Su → CS} {fD : Su → CD} (hM : wCal l yX6_rightOf (Cond.code yX6_rightOf cX6_rightOf 2 (some .int) :: ws') rm G S D z [.ref a, .int p1] mc ms post fS fD) (hgr : ∀ (sz : Nat) (r : Int32) (u : Su), post sz r u → (∀ q ∈ (fS u).1, q ∈ S.1 ∨ sz ≤ q) ∧ ∀ D, va_D (fun _ => True) (cW G (fS u) D)) : wCon l yL_rightOf wL_rightOf G S D z o cJ f [.ref a, .int p1, .ref o] 0 (fun sz S2 D2 v => ∃ (r : Int32) (u : Su), post sz r u ∧ fS u = S2 ∧ fD u = D2 ∧ v = r.toInt64) := by
  refine wBody (by decide) rfl rfl ?_
  intro sz p e s m below meth c hC htab hv
  have hx := hC.1
  have hb := hC.2.1
  have hts := hC.2.2.2.1
  have hl := lv_entry ([.ref a, .int p1, .ref o]) (n := 4) (Nat.le_of_ble_eq_true rfl)
  rw [lg_entry_eq]
  generalize (lg_sl ([.ref a, .int p1, .ref o]) ++ List.replicate (4 - (lg_sl ([.ref a, .int p1, .ref o])).length) Slot.unset).toArray = ls at hl ⊢
  have hl : lv_has ls 4 [(0, .ref a), (1, .int p1), (2, .ref o)] := hl
  refine lv_aload_n hx hb dL_rightOf_0 rfl (lv_at hl 2 rfl) ?_
  refine lv_iconst (v := 0) hx hb dL_rightOf_1 (by decide) ?_
  refine lv_aload_n hx hb dL_rightOf_2 rfl (lv_at hl 0 rfl) ?_
  refine lv_iload_n hx hb dL_rightOf_3 rfl (lv_at hl 1 rfl) ?_
  refine wCallN (As := [.int p1]) hC hv hm hk hM (cwV 1 hts (gVA wa_194 wa_195 wa_196 (hWCA _ wc_66) (hWCA _ wc_111) hws) rfl hrm.1 hrm.2.1 (by decide +kernel) ⟨hrm.2.2.1, hrm.2.2.2⟩) rfl hl.1 rfl (Nat.le_of_ble_eq_true rfl) ⟨by rw [Nat.zero_add]; exact hmc, by rw [Nat.zero_add]; exact hms⟩ dL_rightOf_4 (fun r u H1 locs1 hpo hP hO hS => ?_)
  have hce : 0 + mc ≤ 2 := by rw [Nat.zero_add]; exact hmc
  have hsl : 0 + ms ≤ 21 := by rw [Nat.zero_add]; exact hms
  obtain ⟨g1, g2⟩ := hgr sz r u hpo
  refine lv_i2l (v := r.toInt64) hx hb dL_rightOf_7 rfl ?_
  refine wPut hC hv hP hO hS g1 (g2 _) dL_rightOf_8 (fun H2 locs2 hP hO hS => ?_)
  refine lv_goto (tgt := 15) hx hb dL_rightOf_9 (by decide) ?_
  refine lv_iconst (v := 0) hx hb dL_rightOf_15 (by decide) ?_
  exact wRet hC hv.1.1.2.2.1 hP hO hS ⟨r, u, hpo, rfl, rfl, rfl⟩ hce hsl dL_rightOf_16
set_option maxHeartbeats 1000000 in
theorem wt_rightOf_B (l : Launch) (G : cG) (S : CS) (D : CD) (z : Nat × Nat) (a o : Nat) (cJ : ClassId) (f : Nat → Int64) (p1 : Int32) (hm : a ∈ S.1) (hk : S.2.1 a = 6) {ws' : List Cond} {rm : Room} {mc ms : Nat} (hws : ∀ w ∈ ws', w ∈ WA) (hrm : rm.cells = mc ∧ rm.slots = ms ∧ rm.frames + 1 ≤ 10 ∧ 8 + (2 + 11) + rm.locals ≤ 400) (hmc : mc ≤ 2) (hms : ms ≤ 21) {D9 : CD} (hM : wThr l yX6_rightOf (Cond.code yX6_rightOf cX6_rightOf 2 (some .int) :: ws') rm G S D D9 [.ref a, .int p1] mc ms "java/lang/IndexOutOfBoundsException") : wCon l yL_rightOf wL_rightOf G S D z o cJ f [.ref a, .int p1, .ref o] 1 (fun _ S2 D2 _ => S2 = S ∧ D2 = D9) := by
  refine wBody (by decide) rfl rfl ?_
  intro sz p e s m below meth c hC htab hv
  have hx := hC.1
  have hb := hC.2.1
  have hts := hC.2.2.2.1
  have hl := lv_entry ([.ref a, .int p1, .ref o]) (n := 4) (Nat.le_of_ble_eq_true rfl)
  rw [lg_entry_eq]
  generalize (lg_sl ([.ref a, .int p1, .ref o]) ++ List.replicate (4 - (lg_sl ([.ref a, .int p1, .ref o])).length) Slot.unset).toArray = ls at hl ⊢
  have hl : lv_has ls 4 [(0, .ref a), (1, .int p1), (2, .ref o)] := hl
  refine lv_aload_n hx hb dL_rightOf_0 rfl (lv_at hl 2 rfl) ?_
  refine lv_iconst (v := 0) hx hb dL_rightOf_1 (by decide) ?_
  refine lv_aload_n hx hb dL_rightOf_2 rfl (lv_at hl 0 rfl) ?_
  refine lv_iload_n hx hb dL_rightOf_3 rfl (lv_at hl 1 rfl) ?_
  refine wCallT (As := [.int p1]) hC hv hm hk hM (cwV 1 hts (gVA wa_194 wa_195 wa_196 (hWCA _ wc_66) (hWCA _ wc_111) hws) rfl hrm.1 hrm.2.1 (by decide +kernel) ⟨hrm.2.2.1, hrm.2.2.2⟩) rfl hl.1 rfl (Nat.le_of_ble_eq_true rfl) ⟨by rw [Nat.zero_add]; exact hmc, by rw [Nat.zero_add]; exact hms⟩ dL_rightOf_4 (fun ce q9 H1 locs1 hP hO hS hce hvm hcl => ?_)
  refine vx_catch (own := RL) (name := "java/lang/IndexOutOfBoundsException") (E := "java/lang/IndexOutOfBoundsException") (ce := ce) hC.2.2.2.2.1 [] ⟨0, 9, 12, 21⟩ [] (by rw [htab]; rfl) (fun _ h => absurd h List.not_mem_nil) (by decide) (by decide) (hts _ (List.mem_cons_of_mem _ wa_149)) (va_Nw.use rfl (hv.1.2.2.2.2.1 "java/lang/IndexOutOfBoundsException" (by decide +kernel))) hce hvm hcl ?_
  refine lv_astore_n (lv' := [(3, .ref q9), (0, .ref a), (1, .int p1), (2, .ref o)]) hx hb dL_rightOf_12 rfl hl (by decide) rfl (fun ls hl => ?_)
  refine lv_iconst (v := 1) hx hb dL_rightOf_13 (by decide) ?_
  exact wRet hC hv.1.1.2.2.1 hP hO hS ⟨rfl, rfl⟩ (by rw [Nat.zero_add]; exact hmc) (by rw [Nat.zero_add]; exact hms) dL_rightOf_14
theorem dL_sides_0 : decode cL_sides 0 = .ok (.aload_n 2, 1) := by decide +kernel
theorem dL_sides_1 : decode cL_sides 1 = .ok (.iconst 0, 1) := by decide +kernel
theorem dL_sides_2 : decode cL_sides 2 = .ok (.aload_n 0, 1) := by decide +kernel
theorem dL_sides_3 : decode cL_sides 3 = .ok (.iload_n 1, 1) := by decide +kernel
theorem dL_sides_4 : decode cL_sides 4 = .ok (.invokevirtual 57, 3) := by decide +kernel
theorem dL_sides_7 : decode cL_sides 7 = .ok (.i2l, 1) := by decide +kernel
theorem dL_sides_8 : decode cL_sides 8 = .ok (.lastore, 1) := by decide +kernel
theorem dL_sides_9 : decode cL_sides 9 = .ok (.goto 6, 3) := by decide +kernel
theorem dL_sides_12 : decode cL_sides 12 = .ok (.astore_n 3, 1) := by decide +kernel
theorem dL_sides_13 : decode cL_sides 13 = .ok (.iconst 1, 1) := by decide +kernel
theorem dL_sides_14 : decode cL_sides 14 = .ok (.ireturn, 1) := by decide +kernel
theorem dL_sides_15 : decode cL_sides 15 = .ok (.iconst 0, 1) := by decide +kernel
theorem dL_sides_16 : decode cL_sides 16 = .ok (.ireturn, 1) := by decide +kernel
def wL_sides : List Cond := Cond.codeWith yL_sides cL_sides 4 (some .int) [(0, 9, 12, 21)] :: WA
set_option maxHeartbeats 1000000 in
theorem wn_sides (l : Launch) (G : cG) (S : CS) (D : CD) (z : Nat × Nat) (a o : Nat) (cJ : ClassId) (f : Nat → Int64) (p1 : Int32) (hm : a ∈ S.1) (hk : S.2.1 a = 6) {ws' : List Cond} {rm : Room} {mc ms : Nat} (hws : ∀ w ∈ ws', w ∈ WA) (hrm : rm.cells = mc ∧ rm.slots = ms ∧ rm.frames + 1 ≤ 10 ∧ 8 + (2 + 11) + rm.locals ≤ 400) (hmc : mc ≤ 2) (hms : ms ≤ 21) {Su : Type} {post : Nat → Int32 → Su → Prop} {fS : Su → CS} {fD : Su → CD} (hM : wCal l yX6_sides (Cond.code yX6_sides cX6_sides 2 (some .int) :: ws') rm G S D z [.ref a, .int p1] mc ms post fS fD) (hgr : ∀ (sz : Nat) (r : Int32) (u : Su), post sz r u → (∀ q ∈ (fS u).1, q ∈ S.1 ∨ sz ≤ q) ∧ ∀ D, va_D (fun _ => True) (cW G (fS u) D)) : wCon l yL_sides wL_sides G S D z o cJ f [.ref a, .int p1, .ref o] 0 (fun sz S2 D2 v => ∃ (r : Int32) (u : Su), post sz r u ∧ fS u = S2 ∧ fD u = D2 ∧ v = r.toInt64) := by
  refine wBody (by decide) rfl rfl ?_
  intro sz p e s m below meth c hC htab hv
  have hx := hC.1
  have hb := hC.2.1
  have hts := hC.2.2.2.1
  have hl := lv_entry ([.ref a, .int p1, .ref o]) (n := 4) (Nat.le_of_ble_eq_true rfl)
  rw [lg_entry_eq]
  generalize (lg_sl ([.ref a, .int p1, .ref o]) ++ List.replicate (4 - (lg_sl ([.ref a, .int p1, .ref o])).length) Slot.unset).toArray = ls at hl ⊢
  have hl : lv_has ls 4 [(0, .ref a), (1, .int p1), (2, .ref o)] := hl
  refine lv_aload_n hx hb dL_sides_0 rfl (lv_at hl 2 rfl) ?_
  refine lv_iconst (v := 0) hx hb dL_sides_1 (by decide) ?_
  refine lv_aload_n hx hb dL_sides_2 rfl (lv_at hl 0 rfl) ?_
  refine lv_iload_n hx hb dL_sides_3 rfl (lv_at hl 1 rfl) ?_
  refine wCallN (As := [.int p1]) hC hv hm hk hM (cwV 1 hts (gVA wa_198 wa_199 wa_200 (hWCA _ wc_66) (hWCA _ wc_113) hws) rfl hrm.1 hrm.2.1 (by decide +kernel) ⟨hrm.2.2.1, hrm.2.2.2⟩) rfl hl.1 rfl (Nat.le_of_ble_eq_true rfl) ⟨by rw [Nat.zero_add]; exact hmc, by rw [Nat.zero_add]; exact hms⟩ dL_sides_4 (fun r u H1 locs1 hpo hP hO hS => ?_)
  have hce : 0 + mc ≤ 2 := by rw [Nat.zero_add]; exact hmc
  have hsl : 0 + ms ≤ 21 := by rw [Nat.zero_add]; exact hms
  obtain ⟨g1, g2⟩ := hgr sz r u hpo
  refine lv_i2l (v := r.toInt64) hx hb dL_sides_7 rfl ?_
  refine wPut hC hv hP hO hS g1 (g2 _) dL_sides_8 (fun H2 locs2 hP hO hS => ?_)
  refine lv_goto (tgt := 15) hx hb dL_sides_9 (by decide) ?_
  refine lv_iconst (v := 0) hx hb dL_sides_15 (by decide) ?_
  exact wRet hC hv.1.1.2.2.1 hP hO hS ⟨r, u, hpo, rfl, rfl, rfl⟩ hce hsl dL_sides_16
set_option maxHeartbeats 1000000 in
theorem wt_sides_B (l : Launch) (G : cG) (S : CS) (D : CD) (z : Nat × Nat) (a o : Nat) (cJ : ClassId) (f : Nat → Int64) (p1 : Int32) (hm : a ∈ S.1) (hk : S.2.1 a = 6) {ws' : List Cond} {rm : Room} {mc ms : Nat} (hws : ∀ w ∈ ws', w ∈ WA) (hrm : rm.cells = mc ∧ rm.slots = ms ∧ rm.frames + 1 ≤ 10 ∧ 8 + (2 + 11) + rm.locals ≤ 400) (hmc : mc ≤ 2) (hms : ms ≤ 21) {D9 : CD} (hM : wThr l yX6_sides (Cond.code yX6_sides cX6_sides 2 (some .int) :: ws') rm G S D D9 [.ref a, .int p1] mc ms "java/lang/IndexOutOfBoundsException") : wCon l yL_sides wL_sides G S D z o cJ f [.ref a, .int p1, .ref o] 1 (fun _ S2 D2 _ => S2 = S ∧ D2 = D9) := by
  refine wBody (by decide) rfl rfl ?_
  intro sz p e s m below meth c hC htab hv
  have hx := hC.1
  have hb := hC.2.1
  have hts := hC.2.2.2.1
  have hl := lv_entry ([.ref a, .int p1, .ref o]) (n := 4) (Nat.le_of_ble_eq_true rfl)
  rw [lg_entry_eq]
  generalize (lg_sl ([.ref a, .int p1, .ref o]) ++ List.replicate (4 - (lg_sl ([.ref a, .int p1, .ref o])).length) Slot.unset).toArray = ls at hl ⊢
  have hl : lv_has ls 4 [(0, .ref a), (1, .int p1), (2, .ref o)] := hl
  refine lv_aload_n hx hb dL_sides_0 rfl (lv_at hl 2 rfl) ?_
  refine lv_iconst (v := 0) hx hb dL_sides_1 (by decide) ?_
  refine lv_aload_n hx hb dL_sides_2 rfl (lv_at hl 0 rfl) ?_
  refine lv_iload_n hx hb dL_sides_3 rfl (lv_at hl 1 rfl) ?_
  refine wCallT (As := [.int p1]) hC hv hm hk hM (cwV 1 hts (gVA wa_198 wa_199 wa_200 (hWCA _ wc_66) (hWCA _ wc_113) hws) rfl hrm.1 hrm.2.1 (by decide +kernel) ⟨hrm.2.2.1, hrm.2.2.2⟩) rfl hl.1 rfl (Nat.le_of_ble_eq_true rfl) ⟨by rw [Nat.zero_add]; exact hmc, by rw [Nat.zero_add]; exact hms⟩ dL_sides_4 (fun ce q9 H1 locs1 hP hO hS hce hvm hcl => ?_)
  refine vx_catch (own := RL) (name := "java/lang/IndexOutOfBoundsException") (E := "java/lang/IndexOutOfBoundsException") (ce := ce) hC.2.2.2.2.1 [] ⟨0, 9, 12, 21⟩ [] (by rw [htab]; rfl) (fun _ h => absurd h List.not_mem_nil) (by decide) (by decide) (hts _ (List.mem_cons_of_mem _ wa_149)) (va_Nw.use rfl (hv.1.2.2.2.2.1 "java/lang/IndexOutOfBoundsException" (by decide +kernel))) hce hvm hcl ?_
  refine lv_astore_n (lv' := [(3, .ref q9), (0, .ref a), (1, .int p1), (2, .ref o)]) hx hb dL_sides_12 rfl hl (by decide) rfl (fun ls hl => ?_)
  refine lv_iconst (v := 1) hx hb dL_sides_13 (by decide) ?_
  exact wRet hC hv.1.1.2.2.1 hP hO hS ⟨rfl, rfl⟩ (by rw [Nat.zero_add]; exact hmc) (by rw [Nat.zero_add]; exact hms) dL_sides_14
theorem dL_firstVertex_0 : decode cL_firstVertex 0 = .ok (.aload_n 2, 1) := by decide +kernel
theorem dL_firstVertex_1 : decode cL_firstVertex 1 = .ok (.iconst 0, 1) := by decide +kernel
theorem dL_firstVertex_2 : decode cL_firstVertex 2 = .ok (.aload_n 0, 1) := by decide +kernel
theorem dL_firstVertex_3 : decode cL_firstVertex 3 = .ok (.iload_n 1, 1) := by decide +kernel
theorem dL_firstVertex_4 : decode cL_firstVertex 4 = .ok (.invokevirtual 60, 3) := by decide +kernel
theorem dL_firstVertex_7 : decode cL_firstVertex 7 = .ok (.i2l, 1) := by decide +kernel
theorem dL_firstVertex_8 : decode cL_firstVertex 8 = .ok (.lastore, 1) := by decide +kernel
theorem dL_firstVertex_9 : decode cL_firstVertex 9 = .ok (.goto 6, 3) := by decide +kernel
theorem dL_firstVertex_12 : decode cL_firstVertex 12 = .ok (.astore_n 3, 1) := by decide +kernel
theorem dL_firstVertex_13 : decode cL_firstVertex 13 = .ok (.iconst 1, 1) := by decide +kernel
theorem dL_firstVertex_14 : decode cL_firstVertex 14 = .ok (.ireturn, 1) := by decide +kernel
theorem dL_firstVertex_15 : decode cL_firstVertex 15 = .ok (.iconst 0, 1) := by decide +kernel
theorem dL_firstVertex_16 : decode cL_firstVertex 16 = .ok (.ireturn, 1) := by decide +kernel
def wL_firstVertex : List Cond := Cond.codeWith yL_firstVertex cL_firstVertex 4 (some .int) [(0, 9, 12, 21)] :: WA
set_option maxHeartbeats 1000000 in
theorem wn_firstVertex (l : Launch) (G : cG) (S : CS) (D : CD) (z : Nat × Nat) (a o : Nat) (cJ : ClassId) (f : Nat → Int64) (p1 : Int32) (hm : a ∈ S.1) (hk : S.2.1 a = 6) {ws' : List Cond} {rm : Room} {mc ms : Nat} (hws : ∀ w ∈ ws', w ∈ WA) (hrm : rm.cells = mc ∧ rm.slots = ms ∧ rm.frames + 1 ≤ 10 ∧ 8 + (2 + 11) + rm.locals ≤ 400) (hmc : mc ≤ 2) (hms : ms ≤ 21) {Su : Type} {post : Nat → Int32 → Su → Prop} {fS : Su → CS} {fD : Su → CD} (hM : wCal l yX6_firstVertex (Cond.code yX6_firstVertex cX6_firstVertex 2 (some .int) :: ws') rm G S D z [.ref a, .int p1] mc ms post fS fD) (hgr : ∀ (sz : Nat) (r : Int32) (u : Su), post sz r u → (∀ q ∈ (fS u).1, q ∈ S.1 ∨ sz ≤ q) ∧ ∀ D, va_D (fun _ => True) (cW G (fS u) D)) : wCon l yL_firstVertex wL_firstVertex G S D z o cJ f [.ref a, .int p1, .ref o] 0 (fun sz S2 D2 v => ∃ (r : Int32) (u : Su), post sz r u ∧ fS u = S2 ∧ fD u = D2 ∧ v = r.toInt64) := by
  refine wBody (by decide) rfl rfl ?_
  intro sz p e s m below meth c hC htab hv
  have hx := hC.1
  have hb := hC.2.1
  have hts := hC.2.2.2.1
  have hl := lv_entry ([.ref a, .int p1, .ref o]) (n := 4) (Nat.le_of_ble_eq_true rfl)
  rw [lg_entry_eq]
  generalize (lg_sl ([.ref a, .int p1, .ref o]) ++ List.replicate (4 - (lg_sl ([.ref a, .int p1, .ref o])).length) Slot.unset).toArray = ls at hl ⊢
  have hl : lv_has ls 4 [(0, .ref a), (1, .int p1), (2, .ref o)] := hl
  refine lv_aload_n hx hb dL_firstVertex_0 rfl (lv_at hl 2 rfl) ?_
  refine lv_iconst (v := 0) hx hb dL_firstVertex_1 (by decide) ?_
  refine lv_aload_n hx hb dL_firstVertex_2 rfl (lv_at hl 0 rfl) ?_
  refine lv_iload_n hx hb dL_firstVertex_3 rfl (lv_at hl 1 rfl) ?_
  refine wCallN (As := [.int p1]) hC hv hm hk hM (cwV 1 hts (gVA wa_202 wa_203 wa_204 (hWCA _ wc_66) (hWCA _ wc_117) hws) rfl hrm.1 hrm.2.1 (by decide +kernel) ⟨hrm.2.2.1, hrm.2.2.2⟩) rfl hl.1 rfl (Nat.le_of_ble_eq_true rfl) ⟨by rw [Nat.zero_add]; exact hmc, by rw [Nat.zero_add]; exact hms⟩ dL_firstVertex_4 (fun r u H1 locs1 hpo hP hO hS => ?_)
  have hce : 0 + mc ≤ 2 := by rw [Nat.zero_add]; exact hmc
  have hsl : 0 + ms ≤ 21 := by rw [Nat.zero_add]; exact hms
  obtain ⟨g1, g2⟩ := hgr sz r u hpo
  refine lv_i2l (v := r.toInt64) hx hb dL_firstVertex_7 rfl ?_
  refine wPut hC hv hP hO hS g1 (g2 _) dL_firstVertex_8 (fun H2 locs2 hP hO hS => ?_)
  refine lv_goto (tgt := 15) hx hb dL_firstVertex_9 (by decide) ?_
  refine lv_iconst (v := 0) hx hb dL_firstVertex_15 (by decide) ?_
  exact wRet hC hv.1.1.2.2.1 hP hO hS ⟨r, u, hpo, rfl, rfl, rfl⟩ hce hsl dL_firstVertex_16
set_option maxHeartbeats 1000000 in
theorem wt_firstVertex_B (l : Launch) (G : cG) (S : CS) (D : CD) (z : Nat × Nat) (a o : Nat) (cJ : ClassId) (f : Nat → Int64) (p1 : Int32) (hm : a ∈ S.1) (hk : S.2.1 a = 6) {ws' : List Cond} {rm : Room} {mc ms : Nat} (hws : ∀ w ∈ ws', w ∈ WA) (hrm : rm.cells = mc ∧ rm.slots = ms ∧ rm.frames + 1 ≤ 10 ∧ 8 + (2 + 11) + rm.locals ≤ 400) (hmc : mc ≤ 2) (hms : ms ≤ 21) {D9 : CD} (hM : wThr l yX6_firstVertex (Cond.code yX6_firstVertex cX6_firstVertex 2 (some .int) :: ws') rm G S D D9 [.ref a, .int p1] mc ms "java/lang/IndexOutOfBoundsException") : wCon l yL_firstVertex wL_firstVertex G S D z o cJ f [.ref a, .int p1, .ref o] 1 (fun _ S2 D2 _ => S2 = S ∧ D2 = D9) := by
  refine wBody (by decide) rfl rfl ?_
  intro sz p e s m below meth c hC htab hv
  have hx := hC.1
  have hb := hC.2.1
  have hts := hC.2.2.2.1
  have hl := lv_entry ([.ref a, .int p1, .ref o]) (n := 4) (Nat.le_of_ble_eq_true rfl)
  rw [lg_entry_eq]
  generalize (lg_sl ([.ref a, .int p1, .ref o]) ++ List.replicate (4 - (lg_sl ([.ref a, .int p1, .ref o])).length) Slot.unset).toArray = ls at hl ⊢
  have hl : lv_has ls 4 [(0, .ref a), (1, .int p1), (2, .ref o)] := hl
  refine lv_aload_n hx hb dL_firstVertex_0 rfl (lv_at hl 2 rfl) ?_
  refine lv_iconst (v := 0) hx hb dL_firstVertex_1 (by decide) ?_
  refine lv_aload_n hx hb dL_firstVertex_2 rfl (lv_at hl 0 rfl) ?_
  refine lv_iload_n hx hb dL_firstVertex_3 rfl (lv_at hl 1 rfl) ?_
  refine wCallT (As := [.int p1]) hC hv hm hk hM (cwV 1 hts (gVA wa_202 wa_203 wa_204 (hWCA _ wc_66) (hWCA _ wc_117) hws) rfl hrm.1 hrm.2.1 (by decide +kernel) ⟨hrm.2.2.1, hrm.2.2.2⟩) rfl hl.1 rfl (Nat.le_of_ble_eq_true rfl) ⟨by rw [Nat.zero_add]; exact hmc, by rw [Nat.zero_add]; exact hms⟩ dL_firstVertex_4 (fun ce q9 H1 locs1 hP hO hS hce hvm hcl => ?_)
  refine vx_catch (own := RL) (name := "java/lang/IndexOutOfBoundsException") (E := "java/lang/IndexOutOfBoundsException") (ce := ce) hC.2.2.2.2.1 [] ⟨0, 9, 12, 21⟩ [] (by rw [htab]; rfl) (fun _ h => absurd h List.not_mem_nil) (by decide) (by decide) (hts _ (List.mem_cons_of_mem _ wa_149)) (va_Nw.use rfl (hv.1.2.2.2.2.1 "java/lang/IndexOutOfBoundsException" (by decide +kernel))) hce hvm hcl ?_
  refine lv_astore_n (lv' := [(3, .ref q9), (0, .ref a), (1, .int p1), (2, .ref o)]) hx hb dL_firstVertex_12 rfl hl (by decide) rfl (fun ls hl => ?_)
  refine lv_iconst (v := 1) hx hb dL_firstVertex_13 (by decide) ?_
  exact wRet hC hv.1.1.2.2.1 hP hO hS ⟨rfl, rfl⟩ (by rw [Nat.zero_add]; exact hmc) (by rw [Nat.zero_add]; exact hms) dL_firstVertex_14
theorem dL_faceAt_0 : decode cL_faceAt 0 = .ok (.aload_n 3, 1) := by decide +kernel
theorem dL_faceAt_1 : decode cL_faceAt 1 = .ok (.iconst 0, 1) := by decide +kernel
theorem dL_faceAt_2 : decode cL_faceAt 2 = .ok (.aload_n 0, 1) := by decide +kernel
theorem dL_faceAt_3 : decode cL_faceAt 3 = .ok (.iload_n 1, 1) := by decide +kernel
theorem dL_faceAt_4 : decode cL_faceAt 4 = .ok (.iload_n 2, 1) := by decide +kernel
theorem dL_faceAt_5 : decode cL_faceAt 5 = .ok (.invokevirtual 63, 3) := by decide +kernel
theorem dL_faceAt_8 : decode cL_faceAt 8 = .ok (.i2l, 1) := by decide +kernel
theorem dL_faceAt_9 : decode cL_faceAt 9 = .ok (.lastore, 1) := by decide +kernel
theorem dL_faceAt_10 : decode cL_faceAt 10 = .ok (.goto 7, 3) := by decide +kernel
theorem dL_faceAt_13 : decode cL_faceAt 13 = .ok (.astore 4, 2) := by decide +kernel
theorem dL_faceAt_15 : decode cL_faceAt 15 = .ok (.iconst 1, 1) := by decide +kernel
theorem dL_faceAt_16 : decode cL_faceAt 16 = .ok (.ireturn, 1) := by decide +kernel
theorem dL_faceAt_17 : decode cL_faceAt 17 = .ok (.iconst 0, 1) := by decide +kernel
theorem dL_faceAt_18 : decode cL_faceAt 18 = .ok (.ireturn, 1) := by decide +kernel
def wL_faceAt : List Cond := Cond.codeWith yL_faceAt cL_faceAt 5 (some .int) [(0, 10, 13, 13)] :: WA
set_option maxHeartbeats 1000000 in
theorem wn_faceAt (l : Launch) (G : cG) (S : CS) (D : CD) (z : Nat × Nat) (a o : Nat) (cJ : ClassId) (f : Nat → Int64) (p1 p2 : Int32) (hm : a ∈ S.1) (hk : S.2.1 a = 6) {ws' : List Cond} {rm : Room} {mc ms : Nat} (hws : ∀ w ∈ ws', w ∈ WA) (hrm : rm.cells = mc ∧ rm.slots = ms ∧ rm.frames + 1 ≤ 10 ∧ 8 + (4 + 11) + rm.locals ≤ 400) (hmc : mc ≤ 2) (hms : ms ≤ 21) {Su : Type} {post : Nat → Int32 → Su → Prop} {fS : Su → CS} {fD : Su → CD} (hM : wCal l yX6_faceAt (Cond.code yX6_faceAt cX6_faceAt 4 (some .int) :: ws') rm G S D z [.ref a, .int p1, .int p2] mc ms post fS fD) (hgr : ∀ (sz : Nat) (r : Int32) (u : Su), post sz r u → (∀ q ∈ (fS u).1, q ∈ S.1 ∨ sz ≤ q) ∧ ∀ D, va_D (fun _ => True) (cW G (fS u) D)) : wCon l yL_faceAt wL_faceAt G S D z o cJ f [.ref a, .int p1, .int p2, .ref o] 0 (fun sz S2 D2 v => ∃ (r : Int32) (u : Su), post sz r u ∧ fS u = S2 ∧ fD u = D2 ∧ v = r.toInt64) := by
  refine wBody (by decide) rfl rfl ?_
  intro sz p e s m below meth c hC htab hv
  have hx := hC.1
  have hb := hC.2.1
  have hts := hC.2.2.2.1
  have hl := lv_entry ([.ref a, .int p1, .int p2, .ref o]) (n := 5) (Nat.le_of_ble_eq_true rfl)
  rw [lg_entry_eq]
  generalize (lg_sl ([.ref a, .int p1, .int p2, .ref o]) ++ List.replicate (5 - (lg_sl ([.ref a, .int p1, .int p2, .ref o])).length) Slot.unset).toArray = ls at hl ⊢
  have hl : lv_has ls 5 [(0, .ref a), (1, .int p1), (2, .int p2), (3, .ref o)] := hl
  refine lv_aload_n hx hb dL_faceAt_0 rfl (lv_at hl 3 rfl) ?_
  refine lv_iconst (v := 0) hx hb dL_faceAt_1 (by decide) ?_
  refine lv_aload_n hx hb dL_faceAt_2 rfl (lv_at hl 0 rfl) ?_
  refine lv_iload_n hx hb dL_faceAt_3 rfl (lv_at hl 1 rfl) ?_
  refine lv_iload_n hx hb dL_faceAt_4 rfl (lv_at hl 2 rfl) ?_
  refine wCallN (As := [.int p1, .int p2]) hC hv hm hk hM (cwV 2 hts (gVA wa_206 wa_207 wa_208 (hWCA _ wc_66) (hWCA _ wc_168) hws) rfl hrm.1 hrm.2.1 (by decide +kernel) ⟨hrm.2.2.1, hrm.2.2.2⟩) rfl hl.1 rfl (Nat.le_of_ble_eq_true rfl) ⟨by rw [Nat.zero_add]; exact hmc, by rw [Nat.zero_add]; exact hms⟩ dL_faceAt_5 (fun r u H1 locs1 hpo hP hO hS => ?_)
  have hce : 0 + mc ≤ 2 := by rw [Nat.zero_add]; exact hmc
  have hsl : 0 + ms ≤ 21 := by rw [Nat.zero_add]; exact hms
  obtain ⟨g1, g2⟩ := hgr sz r u hpo
  refine lv_i2l (v := r.toInt64) hx hb dL_faceAt_8 rfl ?_
  refine wPut hC hv hP hO hS g1 (g2 _) dL_faceAt_9 (fun H2 locs2 hP hO hS => ?_)
  refine lv_goto (tgt := 17) hx hb dL_faceAt_10 (by decide) ?_
  refine lv_iconst (v := 0) hx hb dL_faceAt_17 (by decide) ?_
  exact wRet hC hv.1.1.2.2.1 hP hO hS ⟨r, u, hpo, rfl, rfl, rfl⟩ hce hsl dL_faceAt_18
set_option maxHeartbeats 1000000 in
theorem wt_faceAt_A (l : Launch) (G : cG) (S : CS) (D : CD) (z : Nat × Nat) (a o : Nat) (cJ : ClassId) (f : Nat → Int64) (p1 p2 : Int32) (hm : a ∈ S.1) (hk : S.2.1 a = 6) {ws' : List Cond} {rm : Room} {mc ms : Nat} (hws : ∀ w ∈ ws', w ∈ WA) (hrm : rm.cells = mc ∧ rm.slots = ms ∧ rm.frames + 1 ≤ 10 ∧ 8 + (4 + 11) + rm.locals ≤ 400) (hmc : mc ≤ 2) (hms : ms ≤ 21) {D9 : CD} (hM : wThr l yX6_faceAt (Cond.code yX6_faceAt cX6_faceAt 4 (some .int) :: ws') rm G S D D9 [.ref a, .int p1, .int p2] mc ms "java/lang/IllegalArgumentException") : wCon l yL_faceAt wL_faceAt G S D z o cJ f [.ref a, .int p1, .int p2, .ref o] 1 (fun _ S2 D2 _ => S2 = S ∧ D2 = D9) := by
  refine wBody (by decide) rfl rfl ?_
  intro sz p e s m below meth c hC htab hv
  have hx := hC.1
  have hb := hC.2.1
  have hts := hC.2.2.2.1
  have hl := lv_entry ([.ref a, .int p1, .int p2, .ref o]) (n := 5) (Nat.le_of_ble_eq_true rfl)
  rw [lg_entry_eq]
  generalize (lg_sl ([.ref a, .int p1, .int p2, .ref o]) ++ List.replicate (5 - (lg_sl ([.ref a, .int p1, .int p2, .ref o])).length) Slot.unset).toArray = ls at hl ⊢
  have hl : lv_has ls 5 [(0, .ref a), (1, .int p1), (2, .int p2), (3, .ref o)] := hl
  refine lv_aload_n hx hb dL_faceAt_0 rfl (lv_at hl 3 rfl) ?_
  refine lv_iconst (v := 0) hx hb dL_faceAt_1 (by decide) ?_
  refine lv_aload_n hx hb dL_faceAt_2 rfl (lv_at hl 0 rfl) ?_
  refine lv_iload_n hx hb dL_faceAt_3 rfl (lv_at hl 1 rfl) ?_
  refine lv_iload_n hx hb dL_faceAt_4 rfl (lv_at hl 2 rfl) ?_
  refine wCallT (As := [.int p1, .int p2]) hC hv hm hk hM (cwV 2 hts (gVA wa_206 wa_207 wa_208 (hWCA _ wc_66) (hWCA _ wc_168) hws) rfl hrm.1 hrm.2.1 (by decide +kernel) ⟨hrm.2.2.1, hrm.2.2.2⟩) rfl hl.1 rfl (Nat.le_of_ble_eq_true rfl) ⟨by rw [Nat.zero_add]; exact hmc, by rw [Nat.zero_add]; exact hms⟩ dL_faceAt_5 (fun ce q9 H1 locs1 hP hO hS hce hvm hcl => ?_)
  refine vx_catch (own := RL) (name := "java/lang/IllegalArgumentException") (E := "java/lang/IllegalArgumentException") (ce := ce) hC.2.2.2.2.1 [] ⟨0, 10, 13, 13⟩ [] (by rw [htab]; rfl) (fun _ h => absurd h List.not_mem_nil) (by decide) (by decide) (hts _ (List.mem_cons_of_mem _ wa_143)) (va_Nw.use rfl (hv.1.2.2.2.2.1 "java/lang/IllegalArgumentException" (by decide +kernel))) hce hvm hcl ?_
  refine lv_astore (lv' := [(4, .ref q9), (0, .ref a), (1, .int p1), (2, .int p2), (3, .ref o)]) hx hb dL_faceAt_13 hl (by decide) rfl (fun ls hl => ?_)
  refine lv_iconst (v := 1) hx hb dL_faceAt_15 (by decide) ?_
  exact wRet hC hv.1.1.2.2.1 hP hO hS ⟨rfl, rfl⟩ (by rw [Nat.zero_add]; exact hmc) (by rw [Nat.zero_add]; exact hms) dL_faceAt_16
theorem dL_crossing_0 : decode cL_crossing 0 = .ok (.aload_n 2, 1) := by decide +kernel
theorem dL_crossing_1 : decode cL_crossing 1 = .ok (.iconst 0, 1) := by decide +kernel
theorem dL_crossing_2 : decode cL_crossing 2 = .ok (.aload_n 0, 1) := by decide +kernel
theorem dL_crossing_3 : decode cL_crossing 3 = .ok (.iload_n 1, 1) := by decide +kernel
theorem dL_crossing_4 : decode cL_crossing 4 = .ok (.invokevirtual 67, 3) := by decide +kernel
theorem dL_crossing_7 : decode cL_crossing 7 = .ok (.i2l, 1) := by decide +kernel
theorem dL_crossing_8 : decode cL_crossing 8 = .ok (.lastore, 1) := by decide +kernel
theorem dL_crossing_9 : decode cL_crossing 9 = .ok (.goto 6, 3) := by decide +kernel
theorem dL_crossing_12 : decode cL_crossing 12 = .ok (.astore_n 3, 1) := by decide +kernel
theorem dL_crossing_13 : decode cL_crossing 13 = .ok (.iconst 1, 1) := by decide +kernel
theorem dL_crossing_14 : decode cL_crossing 14 = .ok (.ireturn, 1) := by decide +kernel
theorem dL_crossing_15 : decode cL_crossing 15 = .ok (.iconst 0, 1) := by decide +kernel
theorem dL_crossing_16 : decode cL_crossing 16 = .ok (.ireturn, 1) := by decide +kernel
def wL_crossing : List Cond := Cond.codeWith yL_crossing cL_crossing 4 (some .int) [(0, 9, 12, 13)] :: WA
set_option maxHeartbeats 1000000 in
theorem wn_crossing (l : Launch) (G : cG) (S : CS) (D : CD) (z : Nat × Nat) (a o : Nat) (cJ : ClassId) (f : Nat → Int64) (p1 : Int32) (hm : a ∈ S.1) (hk : S.2.1 a = 6) {ws' : List Cond} {rm : Room} {mc ms : Nat} (hws : ∀ w ∈ ws', w ∈ WA) (hrm : rm.cells = mc ∧ rm.slots = ms ∧ rm.frames + 1 ≤ 10 ∧ 8 + (4 + 11) + rm.locals ≤ 400) (hmc : mc ≤ 2) (hms : ms ≤ 21) {Su : Type} {post : Nat → Int32 → Su → Prop} {fS : Su → CS} {fD : Su → CD} (hM : wCal l yX6_crossing (Cond.code yX6_crossing cX6_crossing 4 (some .int) :: ws') rm G S D z [.ref a, .int p1] mc ms post fS fD) (hgr : ∀ (sz : Nat) (r : Int32) (u : Su), post sz r u → (∀ q ∈ (fS u).1, q ∈ S.1 ∨ sz ≤ q) ∧ ∀ D, va_D (fun _ => True) (cW G (fS u) D)) : wCon l yL_crossing wL_crossing G S D z o cJ f [.ref a, .int p1, .ref o] 0 (fun sz S2 D2 v => ∃ (r : Int32) (u : Su), post sz r u ∧ fS u = S2 ∧ fD u = D2 ∧ v = r.toInt64) := by
  refine wBody (by decide) rfl rfl ?_
  intro sz p e s m below meth c hC htab hv
  have hx := hC.1
  have hb := hC.2.1
  have hts := hC.2.2.2.1
  have hl := lv_entry ([.ref a, .int p1, .ref o]) (n := 4) (Nat.le_of_ble_eq_true rfl)
  rw [lg_entry_eq]
  generalize (lg_sl ([.ref a, .int p1, .ref o]) ++ List.replicate (4 - (lg_sl ([.ref a, .int p1, .ref o])).length) Slot.unset).toArray = ls at hl ⊢
  have hl : lv_has ls 4 [(0, .ref a), (1, .int p1), (2, .ref o)] := hl
  refine lv_aload_n hx hb dL_crossing_0 rfl (lv_at hl 2 rfl) ?_
  refine lv_iconst (v := 0) hx hb dL_crossing_1 (by decide) ?_
  refine lv_aload_n hx hb dL_crossing_2 rfl (lv_at hl 0 rfl) ?_
  refine lv_iload_n hx hb dL_crossing_3 rfl (lv_at hl 1 rfl) ?_
  refine wCallN (As := [.int p1]) hC hv hm hk hM (cwV 1 hts (gVA wa_210 wa_211 wa_212 (hWCA _ wc_66) (hWCA _ wc_183) hws) rfl hrm.1 hrm.2.1 (by decide +kernel) ⟨hrm.2.2.1, hrm.2.2.2⟩) rfl hl.1 rfl (Nat.le_of_ble_eq_true rfl) ⟨by rw [Nat.zero_add]; exact hmc, by rw [Nat.zero_add]; exact hms⟩ dL_crossing_4 (fun r u H1 locs1 hpo hP hO hS => ?_)
  have hce : 0 + mc ≤ 2 := by rw [Nat.zero_add]; exact hmc
  have hsl : 0 + ms ≤ 21 := by rw [Nat.zero_add]; exact hms
  obtain ⟨g1, g2⟩ := hgr sz r u hpo
  refine lv_i2l (v := r.toInt64) hx hb dL_crossing_7 rfl ?_
  refine wPut hC hv hP hO hS g1 (g2 _) dL_crossing_8 (fun H2 locs2 hP hO hS => ?_)
  refine lv_goto (tgt := 15) hx hb dL_crossing_9 (by decide) ?_
  refine lv_iconst (v := 0) hx hb dL_crossing_15 (by decide) ?_
  exact wRet hC hv.1.1.2.2.1 hP hO hS ⟨r, u, hpo, rfl, rfl, rfl⟩ hce hsl dL_crossing_16
set_option maxHeartbeats 1000000 in
theorem wt_crossing_A (l : Launch) (G : cG) (S : CS) (D : CD) (z : Nat × Nat) (a o : Nat) (cJ : ClassId) (f : Nat → Int64) (p1 : Int32) (hm : a ∈ S.1) (hk : S.2.1 a = 6) {ws' : List Cond} {rm : Room} {mc ms : Nat} (hws : ∀ w ∈ ws', w ∈ WA) (hrm : rm.cells = mc ∧ rm.slots = ms ∧ rm.frames + 1 ≤ 10 ∧ 8 + (4 + 11) + rm.locals ≤ 400) (hmc : mc ≤ 2) (hms : ms ≤ 21) {D9 : CD} (hM : wThr l yX6_crossing (Cond.code yX6_crossing cX6_crossing 4 (some .int) :: ws') rm G S D D9 [.ref a, .int p1] mc ms "java/lang/IllegalArgumentException") : wCon l yL_crossing wL_crossing G S D z o cJ f [.ref a, .int p1, .ref o] 1 (fun _ S2 D2 _ => S2 = S ∧ D2 = D9) := by
  refine wBody (by decide) rfl rfl ?_
  intro sz p e s m below meth c hC htab hv
  have hx := hC.1
  have hb := hC.2.1
  have hts := hC.2.2.2.1
  have hl := lv_entry ([.ref a, .int p1, .ref o]) (n := 4) (Nat.le_of_ble_eq_true rfl)
  rw [lg_entry_eq]
  generalize (lg_sl ([.ref a, .int p1, .ref o]) ++ List.replicate (4 - (lg_sl ([.ref a, .int p1, .ref o])).length) Slot.unset).toArray = ls at hl ⊢
  have hl : lv_has ls 4 [(0, .ref a), (1, .int p1), (2, .ref o)] := hl
  refine lv_aload_n hx hb dL_crossing_0 rfl (lv_at hl 2 rfl) ?_
  refine lv_iconst (v := 0) hx hb dL_crossing_1 (by decide) ?_
  refine lv_aload_n hx hb dL_crossing_2 rfl (lv_at hl 0 rfl) ?_
  refine lv_iload_n hx hb dL_crossing_3 rfl (lv_at hl 1 rfl) ?_
  refine wCallT (As := [.int p1]) hC hv hm hk hM (cwV 1 hts (gVA wa_210 wa_211 wa_212 (hWCA _ wc_66) (hWCA _ wc_183) hws) rfl hrm.1 hrm.2.1 (by decide +kernel) ⟨hrm.2.2.1, hrm.2.2.2⟩) rfl hl.1 rfl (Nat.le_of_ble_eq_true rfl) ⟨by rw [Nat.zero_add]; exact hmc, by rw [Nat.zero_add]; exact hms⟩ dL_crossing_4 (fun ce q9 H1 locs1 hP hO hS hce hvm hcl => ?_)
  refine vx_catch (own := RL) (name := "java/lang/IllegalArgumentException") (E := "java/lang/IllegalArgumentException") (ce := ce) hC.2.2.2.2.1 [] ⟨0, 9, 12, 13⟩ [] (by rw [htab]; rfl) (fun _ h => absurd h List.not_mem_nil) (by decide) (by decide) (hts _ (List.mem_cons_of_mem _ wa_143)) (va_Nw.use rfl (hv.1.2.2.2.2.1 "java/lang/IllegalArgumentException" (by decide +kernel))) hce hvm hcl ?_
  refine lv_astore_n (lv' := [(3, .ref q9), (0, .ref a), (1, .int p1), (2, .ref o)]) hx hb dL_crossing_12 rfl hl (by decide) rfl (fun ls hl => ?_)
  refine lv_iconst (v := 1) hx hb dL_crossing_13 (by decide) ?_
  exact wRet hC hv.1.1.2.2.1 hP hO hS ⟨rfl, rfl⟩ (by rw [Nat.zero_add]; exact hmc) (by rw [Nat.zero_add]; exact hms) dL_crossing_14
theorem dL_crossingAt_0 : decode cL_crossingAt 0 = .ok (.aload_n 3, 1) := by decide +kernel
theorem dL_crossingAt_1 : decode cL_crossingAt 1 = .ok (.iconst 0, 1) := by decide +kernel
theorem dL_crossingAt_2 : decode cL_crossingAt 2 = .ok (.aload_n 0, 1) := by decide +kernel
theorem dL_crossingAt_3 : decode cL_crossingAt 3 = .ok (.iload_n 1, 1) := by decide +kernel
theorem dL_crossingAt_4 : decode cL_crossingAt 4 = .ok (.iload_n 2, 1) := by decide +kernel
theorem dL_crossingAt_5 : decode cL_crossingAt 5 = .ok (.invokevirtual 70, 3) := by decide +kernel
theorem dL_crossingAt_8 : decode cL_crossingAt 8 = .ok (.i2l, 1) := by decide +kernel
theorem dL_crossingAt_9 : decode cL_crossingAt 9 = .ok (.lastore, 1) := by decide +kernel
theorem dL_crossingAt_10 : decode cL_crossingAt 10 = .ok (.goto 11, 3) := by decide +kernel
theorem dL_crossingAt_13 : decode cL_crossingAt 13 = .ok (.astore 4, 2) := by decide +kernel
theorem dL_crossingAt_15 : decode cL_crossingAt 15 = .ok (.iconst 1, 1) := by decide +kernel
theorem dL_crossingAt_16 : decode cL_crossingAt 16 = .ok (.ireturn, 1) := by decide +kernel
theorem dL_crossingAt_17 : decode cL_crossingAt 17 = .ok (.astore 4, 2) := by decide +kernel
theorem dL_crossingAt_19 : decode cL_crossingAt 19 = .ok (.iconst 2, 1) := by decide +kernel
theorem dL_crossingAt_20 : decode cL_crossingAt 20 = .ok (.ireturn, 1) := by decide +kernel
theorem dL_crossingAt_21 : decode cL_crossingAt 21 = .ok (.iconst 0, 1) := by decide +kernel
theorem dL_crossingAt_22 : decode cL_crossingAt 22 = .ok (.ireturn, 1) := by decide +kernel
def wL_crossingAt : List Cond := Cond.codeWith yL_crossingAt cL_crossingAt 5 (some .int) [(0, 10, 13, 13), (0, 10, 17, 21)] :: WA
set_option maxHeartbeats 1000000 in
theorem wn_crossingAt (l : Launch) (G : cG) (S : CS) (D : CD) (z : Nat × Nat) (a o : Nat) (cJ : ClassId) (f : Nat → Int64) (p1 p2 : Int32) (hm : a ∈ S.1) (hk : S.2.1 a = 6) {ws' : List Cond} {rm : Room} {mc ms : Nat} (hws : ∀ w ∈ ws', w ∈ WA) (hrm : rm.cells = mc ∧ rm.slots = ms ∧ rm.frames + 1 ≤ 10 ∧ 8 + (4 + 11) + rm.locals ≤ 400) (hmc : mc ≤ 2) (hms : ms ≤ 21) {Su : Type} {post : Nat → Int32 → Su → Prop} {fS : Su → CS} {fD : Su → CD} (hM : wCal l yX6_crossingAt (Cond.code yX6_crossingAt cX6_crossingAt 4 (some .int) :: ws') rm G S D z [.ref a, .int p1, .int p2] mc ms post fS fD) (hgr : ∀ (sz : Nat) (r : Int32) (u : Su), post sz r u → (∀ q ∈ (fS u).1, q ∈ S.1 ∨ sz ≤ q) ∧ ∀ D, va_D (fun _ => True) (cW G (fS u) D)) : wCon l yL_crossingAt wL_crossingAt G S D z o cJ f [.ref a, .int p1, .int p2, .ref o] 0 (fun sz S2 D2 v => ∃ (r : Int32) (u : Su), post sz r u ∧ fS u = S2 ∧ fD u = D2 ∧ v = r.toInt64) := by
  refine wBody (by decide) rfl rfl ?_
  intro sz p e s m below meth c hC htab hv
  have hx := hC.1
  have hb := hC.2.1
  have hts := hC.2.2.2.1
  have hl := lv_entry ([.ref a, .int p1, .int p2, .ref o]) (n := 5) (Nat.le_of_ble_eq_true rfl)
  rw [lg_entry_eq]
  generalize (lg_sl ([.ref a, .int p1, .int p2, .ref o]) ++ List.replicate (5 - (lg_sl ([.ref a, .int p1, .int p2, .ref o])).length) Slot.unset).toArray = ls at hl ⊢
  have hl : lv_has ls 5 [(0, .ref a), (1, .int p1), (2, .int p2), (3, .ref o)] := hl
  refine lv_aload_n hx hb dL_crossingAt_0 rfl (lv_at hl 3 rfl) ?_
  refine lv_iconst (v := 0) hx hb dL_crossingAt_1 (by decide) ?_
  refine lv_aload_n hx hb dL_crossingAt_2 rfl (lv_at hl 0 rfl) ?_
  refine lv_iload_n hx hb dL_crossingAt_3 rfl (lv_at hl 1 rfl) ?_
  refine lv_iload_n hx hb dL_crossingAt_4 rfl (lv_at hl 2 rfl) ?_
  refine wCallN (As := [.int p1, .int p2]) hC hv hm hk hM (cwV 2 hts (gVA wa_214 wa_215 wa_216 (hWCA _ wc_66) wa_134 hws) rfl hrm.1 hrm.2.1 (by decide +kernel) ⟨hrm.2.2.1, hrm.2.2.2⟩) rfl hl.1 rfl (Nat.le_of_ble_eq_true rfl) ⟨by rw [Nat.zero_add]; exact hmc, by rw [Nat.zero_add]; exact hms⟩ dL_crossingAt_5 (fun r u H1 locs1 hpo hP hO hS => ?_)
  have hce : 0 + mc ≤ 2 := by rw [Nat.zero_add]; exact hmc
  have hsl : 0 + ms ≤ 21 := by rw [Nat.zero_add]; exact hms
  obtain ⟨g1, g2⟩ := hgr sz r u hpo
  refine lv_i2l (v := r.toInt64) hx hb dL_crossingAt_8 rfl ?_
  refine wPut hC hv hP hO hS g1 (g2 _) dL_crossingAt_9 (fun H2 locs2 hP hO hS => ?_)
  refine lv_goto (tgt := 21) hx hb dL_crossingAt_10 (by decide) ?_
  refine lv_iconst (v := 0) hx hb dL_crossingAt_21 (by decide) ?_
  exact wRet hC hv.1.1.2.2.1 hP hO hS ⟨r, u, hpo, rfl, rfl, rfl⟩ hce hsl dL_crossingAt_22
set_option maxHeartbeats 1000000 in
theorem wt_crossingAt_A (l : Launch) (G : cG) (S : CS) (D : CD) (z : Nat × Nat) (a o : Nat) (cJ : ClassId) (f : Nat → Int64) (p1 p2 : Int32) (hm : a ∈ S.1) (hk : S.2.1 a = 6) {ws' : List Cond} {rm : Room} {mc ms : Nat} (hws : ∀ w ∈ ws', w ∈ WA) (hrm : rm.cells = mc ∧ rm.slots = ms ∧ rm.frames + 1 ≤ 10 ∧ 8 + (4 + 11) + rm.locals ≤ 400) (hmc : mc ≤ 2) (hms : ms ≤ 21) {D9 : CD} (hM : wThr l yX6_crossingAt (Cond.code yX6_crossingAt cX6_crossingAt 4 (some .int) :: ws') rm G S D D9 [.ref a, .int p1, .int p2] mc ms "java/lang/IllegalArgumentException") : wCon l yL_crossingAt wL_crossingAt G S D z o cJ f [.ref a, .int p1, .int p2, .ref o] 1 (fun _ S2 D2 _ => S2 = S ∧ D2 = D9) := by
  refine wBody (by decide) rfl rfl ?_
  intro sz p e s m below meth c hC htab hv
  have hx := hC.1
  have hb := hC.2.1
  have hts := hC.2.2.2.1
  have hl := lv_entry ([.ref a, .int p1, .int p2, .ref o]) (n := 5) (Nat.le_of_ble_eq_true rfl)
  rw [lg_entry_eq]
  generalize (lg_sl ([.ref a, .int p1, .int p2, .ref o]) ++ List.replicate (5 - (lg_sl ([.ref a, .int p1, .int p2, .ref o])).length) Slot.unset).toArray = ls at hl ⊢
  have hl : lv_has ls 5 [(0, .ref a), (1, .int p1), (2, .int p2), (3, .ref o)] := hl
  refine lv_aload_n hx hb dL_crossingAt_0 rfl (lv_at hl 3 rfl) ?_
  refine lv_iconst (v := 0) hx hb dL_crossingAt_1 (by decide) ?_
  refine lv_aload_n hx hb dL_crossingAt_2 rfl (lv_at hl 0 rfl) ?_
  refine lv_iload_n hx hb dL_crossingAt_3 rfl (lv_at hl 1 rfl) ?_
  refine lv_iload_n hx hb dL_crossingAt_4 rfl (lv_at hl 2 rfl) ?_
  refine wCallT (As := [.int p1, .int p2]) hC hv hm hk hM (cwV 2 hts (gVA wa_214 wa_215 wa_216 (hWCA _ wc_66) wa_134 hws) rfl hrm.1 hrm.2.1 (by decide +kernel) ⟨hrm.2.2.1, hrm.2.2.2⟩) rfl hl.1 rfl (Nat.le_of_ble_eq_true rfl) ⟨by rw [Nat.zero_add]; exact hmc, by rw [Nat.zero_add]; exact hms⟩ dL_crossingAt_5 (fun ce q9 H1 locs1 hP hO hS hce hvm hcl => ?_)
  refine vx_catch (own := RL) (name := "java/lang/IllegalArgumentException") (E := "java/lang/IllegalArgumentException") (ce := ce) hC.2.2.2.2.1 [] ⟨0, 10, 13, 13⟩ [⟨0, 10, 17, 21⟩] (by rw [htab]; rfl) (fun _ h => absurd h List.not_mem_nil) (by decide) (by decide) (hts _ (List.mem_cons_of_mem _ wa_143)) (va_Nw.use rfl (hv.1.2.2.2.2.1 "java/lang/IllegalArgumentException" (by decide +kernel))) hce hvm hcl ?_
  refine lv_astore (lv' := [(4, .ref q9), (0, .ref a), (1, .int p1), (2, .int p2), (3, .ref o)]) hx hb dL_crossingAt_13 hl (by decide) rfl (fun ls hl => ?_)
  refine lv_iconst (v := 1) hx hb dL_crossingAt_15 (by decide) ?_
  exact wRet hC hv.1.1.2.2.1 hP hO hS ⟨rfl, rfl⟩ (by rw [Nat.zero_add]; exact hmc) (by rw [Nat.zero_add]; exact hms) dL_crossingAt_16
set_option maxHeartbeats 1000000 in
theorem wt_crossingAt_B (l : Launch) (G : cG) (S : CS) (D : CD) (z : Nat × Nat) (a o : Nat) (cJ : ClassId) (f : Nat → Int64) (p1 p2 : Int32) (hm : a ∈ S.1) (hk : S.2.1 a = 6) {ws' : List Cond} {rm : Room} {mc ms : Nat} (hws : ∀ w ∈ ws', w ∈ WA) (hrm : rm.cells = mc ∧ rm.slots = ms ∧ rm.frames + 1 ≤ 10 ∧ 8 + (4 + 11) + rm.locals ≤ 400) (hmc : mc ≤ 2) (hms : ms ≤ 21) {D9 : CD} (hM : wThr l yX6_crossingAt (Cond.code yX6_crossingAt cX6_crossingAt 4 (some .int) :: ws') rm G S D D9 [.ref a, .int p1, .int p2] mc ms "java/lang/IndexOutOfBoundsException") : wCon l yL_crossingAt wL_crossingAt G S D z o cJ f [.ref a, .int p1, .int p2, .ref o] 2 (fun _ S2 D2 _ => S2 = S ∧ D2 = D9) := by
  refine wBody (by decide) rfl rfl ?_
  intro sz p e s m below meth c hC htab hv
  have hx := hC.1
  have hb := hC.2.1
  have hts := hC.2.2.2.1
  have hl := lv_entry ([.ref a, .int p1, .int p2, .ref o]) (n := 5) (Nat.le_of_ble_eq_true rfl)
  rw [lg_entry_eq]
  generalize (lg_sl ([.ref a, .int p1, .int p2, .ref o]) ++ List.replicate (5 - (lg_sl ([.ref a, .int p1, .int p2, .ref o])).length) Slot.unset).toArray = ls at hl ⊢
  have hl : lv_has ls 5 [(0, .ref a), (1, .int p1), (2, .int p2), (3, .ref o)] := hl
  refine lv_aload_n hx hb dL_crossingAt_0 rfl (lv_at hl 3 rfl) ?_
  refine lv_iconst (v := 0) hx hb dL_crossingAt_1 (by decide) ?_
  refine lv_aload_n hx hb dL_crossingAt_2 rfl (lv_at hl 0 rfl) ?_
  refine lv_iload_n hx hb dL_crossingAt_3 rfl (lv_at hl 1 rfl) ?_
  refine lv_iload_n hx hb dL_crossingAt_4 rfl (lv_at hl 2 rfl) ?_
  refine wCallT (As := [.int p1, .int p2]) hC hv hm hk hM (cwV 2 hts (gVA wa_214 wa_215 wa_216 (hWCA _ wc_66) wa_134 hws) rfl hrm.1 hrm.2.1 (by decide +kernel) ⟨hrm.2.2.1, hrm.2.2.2⟩) rfl hl.1 rfl (Nat.le_of_ble_eq_true rfl) ⟨by rw [Nat.zero_add]; exact hmc, by rw [Nat.zero_add]; exact hms⟩ dL_crossingAt_5 (fun ce q9 H1 locs1 hP hO hS hce hvm hcl => ?_)
  refine vx_catch (own := RL) (name := "java/lang/IndexOutOfBoundsException") (E := "java/lang/IndexOutOfBoundsException") (ce := ce) hC.2.2.2.2.1 [⟨0, 10, 13, 13⟩] ⟨0, 10, 17, 21⟩ [] (by rw [htab]; rfl) (fun w hw => by rw [List.mem_singleton.mp hw]; exact Or.inr ⟨by decide, _, hts _ (List.mem_cons_of_mem _ wa_143), hv.2.2.2.2.2⟩) (by decide) (by decide) (hts _ (List.mem_cons_of_mem _ wa_149)) (va_Nw.use rfl (hv.1.2.2.2.2.1 "java/lang/IndexOutOfBoundsException" (by decide +kernel))) hce hvm hcl ?_
  refine lv_astore (lv' := [(4, .ref q9), (0, .ref a), (1, .int p1), (2, .int p2), (3, .ref o)]) hx hb dL_crossingAt_17 hl (by decide) rfl (fun ls hl => ?_)
  refine lv_iconst (v := 2) hx hb dL_crossingAt_19 (by decide) ?_
  exact wRet hC hv.1.1.2.2.1 hP hO hS ⟨rfl, rfl⟩ (by rw [Nat.zero_add]; exact hmc) (by rw [Nat.zero_add]; exact hms) dL_crossingAt_20
