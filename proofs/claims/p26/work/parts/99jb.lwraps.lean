/-! The law's of, at and add where the class throws: what they answer, and their walks. -/
def th1 (E1 : String) (r1 : Int32) (x : Option (CD × String)) : Option (CD × Int32) := match x with
  | none => none
  | some q => if q.2 = E1 then some (q.1, r1) else none
def th2 (E1 : String) (r1 : Int32) (E2 : String) (r2 : Int32) (x : Option (CD × String)) : Option (CD × Int32) := match x with
  | none => none
  | some q => if q.2 = E1 then some (q.1, r1) else if q.2 = E2 then some (q.1, r2) else none
theorem th1_el {E1 : String} {r1 r : Int32} {D9 : CD} {x : Option (CD × String)} (h : th1 E1 r1 x = some (D9, r)) : x = some (D9, E1) ∧ r = r1 := by
  cases x with
  | none => cases h
  | some q =>
    obtain ⟨D, E⟩ := q
    have h2 : (if E = E1 then some (D, r1) else none) = some (D9, r) := h
    clear h
    by_cases e : E = E1
    · rw [if_pos e] at h2; subst e; cases h2; exact ⟨rfl, rfl⟩
    · rw [if_neg e] at h2; cases h2
theorem th2_el {E1 E2 : String} {r1 r2 r : Int32} {D9 : CD} {x : Option (CD × String)} (h : th2 E1 r1 E2 r2 x = some (D9, r)) : (x = some (D9, E1) ∧ r = r1) ∨ (x = some (D9, E2) ∧ r = r2) := by
  cases x with
  | none => cases h
  | some q =>
    obtain ⟨D, E⟩ := q
    have h2 : (if E = E1 then some (D, r1) else if E = E2 then some (D, r2) else none) = some (D9, r) := h
    clear h
    by_cases e : E = E1
    · rw [if_pos e] at h2; subst e; cases h2; exact Or.inl ⟨rfl, rfl⟩
    · rw [if_neg e] at h2
      by_cases e2 : E = E2
      · rw [if_pos e2] at h2; subst e2; cases h2; exact Or.inr ⟨rfl, rfl⟩
      · rw [if_neg e2] at h2; cases h2
def lRm : Room := { frames := 10, cells := 1, slots := 6, locals := 400 }
theorem dL_of_0 : decode cL_of 0 = .ok (.iload_n 1, 1) := by decide +kernel
theorem dL_of_1 : decode cL_of 1 = .ok (.ifCond .ne 11, 3) := by decide +kernel
theorem dL_of_4 : decode cL_of 4 = .ok (.aload_n 0, 1) := by decide +kernel
theorem dL_of_5 : decode cL_of 5 = .ok (.iload_n 2, 1) := by decide +kernel
theorem dL_of_6 : decode cL_of 6 = .ok (.invokevirtual 19, 3) := by decide +kernel
theorem dL_of_9 : decode cL_of 9 = .ok (.goto 157, 3) := by decide +kernel
theorem dL_of_12 : decode cL_of 12 = .ok (.iload_n 1, 1) := by decide +kernel
theorem dL_of_13 : decode cL_of 13 = .ok (.iconst 1, 1) := by decide +kernel
theorem dL_of_14 : decode cL_of 14 = .ok (.if_icmp .ne 11, 3) := by decide +kernel
theorem dL_of_17 : decode cL_of 17 = .ok (.aload_n 0, 1) := by decide +kernel
theorem dL_of_18 : decode cL_of 18 = .ok (.iload_n 2, 1) := by decide +kernel
theorem dL_of_19 : decode cL_of 19 = .ok (.invokevirtual 23, 3) := by decide +kernel
theorem dL_of_22 : decode cL_of 22 = .ok (.goto 144, 3) := by decide +kernel
theorem dL_of_25 : decode cL_of 25 = .ok (.iload_n 1, 1) := by decide +kernel
theorem dL_of_26 : decode cL_of 26 = .ok (.iconst 2, 1) := by decide +kernel
theorem dL_of_27 : decode cL_of 27 = .ok (.if_icmp .ne 11, 3) := by decide +kernel
theorem dL_of_30 : decode cL_of 30 = .ok (.aload_n 0, 1) := by decide +kernel
theorem dL_of_31 : decode cL_of 31 = .ok (.iload_n 2, 1) := by decide +kernel
theorem dL_of_32 : decode cL_of 32 = .ok (.invokevirtual 26, 3) := by decide +kernel
theorem dL_of_35 : decode cL_of 35 = .ok (.goto 131, 3) := by decide +kernel
theorem dL_of_38 : decode cL_of 38 = .ok (.iload_n 1, 1) := by decide +kernel
theorem dL_of_39 : decode cL_of 39 = .ok (.iconst 3, 1) := by decide +kernel
theorem dL_of_40 : decode cL_of 40 = .ok (.if_icmp .ne 11, 3) := by decide +kernel
theorem dL_of_43 : decode cL_of 43 = .ok (.aload_n 0, 1) := by decide +kernel
theorem dL_of_44 : decode cL_of 44 = .ok (.iload_n 2, 1) := by decide +kernel
theorem dL_of_45 : decode cL_of 45 = .ok (.invokevirtual 29, 3) := by decide +kernel
theorem dL_of_48 : decode cL_of 48 = .ok (.goto 118, 3) := by decide +kernel
theorem dL_of_51 : decode cL_of 51 = .ok (.iload_n 1, 1) := by decide +kernel
theorem dL_of_52 : decode cL_of 52 = .ok (.iconst 4, 1) := by decide +kernel
theorem dL_of_53 : decode cL_of 53 = .ok (.if_icmp .ne 11, 3) := by decide +kernel
theorem dL_of_56 : decode cL_of 56 = .ok (.aload_n 0, 1) := by decide +kernel
theorem dL_of_57 : decode cL_of 57 = .ok (.iload_n 2, 1) := by decide +kernel
theorem dL_of_58 : decode cL_of 58 = .ok (.invokevirtual 32, 3) := by decide +kernel
theorem dL_of_61 : decode cL_of 61 = .ok (.goto 105, 3) := by decide +kernel
theorem dL_of_64 : decode cL_of 64 = .ok (.iload_n 1, 1) := by decide +kernel
theorem dL_of_65 : decode cL_of 65 = .ok (.iconst 5, 1) := by decide +kernel
theorem dL_of_66 : decode cL_of 66 = .ok (.if_icmp .ne 11, 3) := by decide +kernel
theorem dL_of_69 : decode cL_of 69 = .ok (.aload_n 0, 1) := by decide +kernel
theorem dL_of_70 : decode cL_of 70 = .ok (.iload_n 2, 1) := by decide +kernel
theorem dL_of_71 : decode cL_of 71 = .ok (.invokevirtual 35, 3) := by decide +kernel
theorem dL_of_74 : decode cL_of 74 = .ok (.goto 92, 3) := by decide +kernel
theorem dL_of_77 : decode cL_of 77 = .ok (.iload_n 1, 1) := by decide +kernel
theorem dL_of_78 : decode cL_of 78 = .ok (.bipush 6, 2) := by decide +kernel
theorem dL_of_80 : decode cL_of 80 = .ok (.if_icmp .ne 11, 3) := by decide +kernel
theorem dL_of_83 : decode cL_of 83 = .ok (.aload_n 0, 1) := by decide +kernel
theorem dL_of_84 : decode cL_of 84 = .ok (.iload_n 2, 1) := by decide +kernel
theorem dL_of_85 : decode cL_of 85 = .ok (.invokevirtual 38, 3) := by decide +kernel
theorem dL_of_88 : decode cL_of 88 = .ok (.goto 78, 3) := by decide +kernel
theorem dL_of_91 : decode cL_of 91 = .ok (.iload_n 1, 1) := by decide +kernel
theorem dL_of_92 : decode cL_of 92 = .ok (.bipush 7, 2) := by decide +kernel
theorem dL_of_94 : decode cL_of 94 = .ok (.if_icmp .ne 11, 3) := by decide +kernel
theorem dL_of_97 : decode cL_of 97 = .ok (.aload_n 0, 1) := by decide +kernel
theorem dL_of_98 : decode cL_of 98 = .ok (.iload_n 2, 1) := by decide +kernel
theorem dL_of_99 : decode cL_of 99 = .ok (.invokevirtual 41, 3) := by decide +kernel
theorem dL_of_102 : decode cL_of 102 = .ok (.goto 64, 3) := by decide +kernel
theorem dL_of_105 : decode cL_of 105 = .ok (.iload_n 1, 1) := by decide +kernel
theorem dL_of_106 : decode cL_of 106 = .ok (.bipush 8, 2) := by decide +kernel
theorem dL_of_108 : decode cL_of 108 = .ok (.if_icmp .ne 11, 3) := by decide +kernel
theorem dL_of_111 : decode cL_of 111 = .ok (.aload_n 0, 1) := by decide +kernel
theorem dL_of_112 : decode cL_of 112 = .ok (.iload_n 2, 1) := by decide +kernel
theorem dL_of_113 : decode cL_of 113 = .ok (.invokevirtual 44, 3) := by decide +kernel
theorem dL_of_116 : decode cL_of 116 = .ok (.goto 50, 3) := by decide +kernel
theorem dL_of_119 : decode cL_of 119 = .ok (.iload_n 1, 1) := by decide +kernel
theorem dL_of_120 : decode cL_of 120 = .ok (.bipush 9, 2) := by decide +kernel
theorem dL_of_122 : decode cL_of 122 = .ok (.if_icmp .ne 11, 3) := by decide +kernel
theorem dL_of_125 : decode cL_of 125 = .ok (.aload_n 0, 1) := by decide +kernel
theorem dL_of_126 : decode cL_of 126 = .ok (.iload_n 2, 1) := by decide +kernel
theorem dL_of_127 : decode cL_of 127 = .ok (.invokevirtual 47, 3) := by decide +kernel
theorem dL_of_130 : decode cL_of 130 = .ok (.goto 36, 3) := by decide +kernel
theorem dL_of_133 : decode cL_of 133 = .ok (.iload_n 1, 1) := by decide +kernel
theorem dL_of_134 : decode cL_of 134 = .ok (.bipush 10, 2) := by decide +kernel
theorem dL_of_136 : decode cL_of 136 = .ok (.if_icmp .ne 11, 3) := by decide +kernel
theorem dL_of_139 : decode cL_of 139 = .ok (.aload_n 0, 1) := by decide +kernel
theorem dL_of_140 : decode cL_of 140 = .ok (.iload_n 2, 1) := by decide +kernel
theorem dL_of_141 : decode cL_of 141 = .ok (.invokevirtual 50, 3) := by decide +kernel
theorem dL_of_144 : decode cL_of 144 = .ok (.goto 22, 3) := by decide +kernel
theorem dL_of_147 : decode cL_of 147 = .ok (.iload_n 1, 1) := by decide +kernel
theorem dL_of_148 : decode cL_of 148 = .ok (.bipush 11, 2) := by decide +kernel
theorem dL_of_150 : decode cL_of 150 = .ok (.if_icmp .ne 11, 3) := by decide +kernel
theorem dL_of_153 : decode cL_of 153 = .ok (.aload_n 0, 1) := by decide +kernel
theorem dL_of_154 : decode cL_of 154 = .ok (.iload_n 2, 1) := by decide +kernel
theorem dL_of_155 : decode cL_of 155 = .ok (.invokevirtual 53, 3) := by decide +kernel
theorem dL_of_158 : decode cL_of 158 = .ok (.goto 8, 3) := by decide +kernel
theorem dL_of_161 : decode cL_of 161 = .ok (.aload_n 0, 1) := by decide +kernel
theorem dL_of_162 : decode cL_of 162 = .ok (.iload_n 2, 1) := by decide +kernel
theorem dL_of_163 : decode cL_of 163 = .ok (.invokevirtual 56, 3) := by decide +kernel
theorem dL_of_166 : decode cL_of 166 = .ok (.ireturn, 1) := by decide +kernel
theorem dL_of_167 : decode cL_of 167 = .ok (.astore_n 3, 1) := by decide +kernel
theorem dL_of_168 : decode cL_of 168 = .ok (.sipush (-601), 3) := by decide +kernel
theorem dL_of_171 : decode cL_of 171 = .ok (.ireturn, 1) := by decide +kernel
def wL_of : List Cond := Cond.codeWith yL_of cL_of 4 (some .int) [(0, 166, 167, 59)] :: WA
def f_L_of (F : Nat) (S : CS) (D : CD) (a : Nat) (x1 : Int32) (x2 : Int32) : Option (CD × Int32) := ckK S a 6 <| (if x1 = 0 then th1 "java/lang/IndexOutOfBoundsException" (-601) (t_X6_remove F S D a x2) else (if x1 = 1 then th1 "java/lang/IndexOutOfBoundsException" (-601) (t_X6_xNumerator F S D a x2) else (if x1 = 2 then th1 "java/lang/IndexOutOfBoundsException" (-601) (t_X6_xDenominator F S D a x2) else (if x1 = 3 then th1 "java/lang/IndexOutOfBoundsException" (-601) (t_X6_yNumerator F S D a x2) else (if x1 = 4 then th1 "java/lang/IndexOutOfBoundsException" (-601) (t_X6_yDenominator F S D a x2) else (if x1 = 5 then th1 "java/lang/IndexOutOfBoundsException" (-601) (t_X6_degree F S D a x2) else (if x1 = 6 then th1 "java/lang/IndexOutOfBoundsException" (-601) (t_X6_segmentOf F S D a x2) else (if x1 = 7 then th1 "java/lang/IndexOutOfBoundsException" (-601) (t_X6_from F S D a x2) else (if x1 = 8 then th1 "java/lang/IndexOutOfBoundsException" (-601) (t_X6_to F S D a x2) else (if x1 = 9 then th1 "java/lang/IndexOutOfBoundsException" (-601) (t_X6_leftOf F S D a x2) else (if x1 = 10 then th1 "java/lang/IndexOutOfBoundsException" (-601) (t_X6_rightOf F S D a x2) else (if x1 = 11 then th1 "java/lang/IndexOutOfBoundsException" (-601) (t_X6_sides F S D a x2) else th1 "java/lang/IndexOutOfBoundsException" (-601) (t_X6_firstVertex F S D a x2)))))))))))))
set_option maxRecDepth 100000 in
set_option maxHeartbeats 4000000 in
theorem m_L_of (l : Launch) (hfl : l.stackTraces = false) (G : cG) (F : Nat) (S : CS) (z9 : Nat × Nat) (D D2 : CD) (a : Nat) (x1 : Int32) (x2 : Int32) (r : Int32) (h : f_L_of F S D a x1 x2 = some (D2, r)) : lXI l yL_of wL_of lRm G S z9 [.ref a, .int x1, .int x2] D D2 r 1 6 := by
  unfold f_L_of at h
  obtain ⟨z, h⟩ := ckK_el h
  refine lBodyX (cc := cL_of) (maxL := 4) (ret := some .int) (by decide) rfl rfl ?_
  intro sz p e s m below meth c hC htab hv
  have hx := hC.1
  have hb := hC.2.1
  have hts := hC.2.2.2.1
  refine g_entry (Nat.le_of_ble_eq_true rfl) (fun ls hl => ?_)
  have hl : lv_has ls 4 [(0, .ref a), (1, .int x1), (2, .int x2)] := hl
  refine lv_iload_n hx hb dL_of_0 rfl (lv_at hl 1 rfl) ?_
  refine lv_if_ne (tgt := 12) hx hb dL_of_1 (by decide) (fun u => ?_) (fun u => ?_)
  · have h := ite_f u h
    refine lv_iload_n hx hb dL_of_12 rfl (lv_at hl 1 rfl) ?_
    refine lv_iconst (v := 1) hx hb dL_of_13 (by decide) ?_
    refine lv_icmp_ne (tgt := 25) hx hb dL_of_14 (by decide) (fun u => ?_) (fun u => ?_)
    · have h := ite_f u h
      refine lv_iload_n hx hb dL_of_25 rfl (lv_at hl 1 rfl) ?_
      refine lv_iconst (v := 2) hx hb dL_of_26 (by decide) ?_
      refine lv_icmp_ne (tgt := 38) hx hb dL_of_27 (by decide) (fun u => ?_) (fun u => ?_)
      · have h := ite_f u h
        refine lv_iload_n hx hb dL_of_38 rfl (lv_at hl 1 rfl) ?_
        refine lv_iconst (v := 3) hx hb dL_of_39 (by decide) ?_
        refine lv_icmp_ne (tgt := 51) hx hb dL_of_40 (by decide) (fun u => ?_) (fun u => ?_)
        · have h := ite_f u h
          refine lv_iload_n hx hb dL_of_51 rfl (lv_at hl 1 rfl) ?_
          refine lv_iconst (v := 4) hx hb dL_of_52 (by decide) ?_
          refine lv_icmp_ne (tgt := 64) hx hb dL_of_53 (by decide) (fun u => ?_) (fun u => ?_)
          · have h := ite_f u h
            refine lv_iload_n hx hb dL_of_64 rfl (lv_at hl 1 rfl) ?_
            refine lv_iconst (v := 5) hx hb dL_of_65 (by decide) ?_
            refine lv_icmp_ne (tgt := 77) hx hb dL_of_66 (by decide) (fun u => ?_) (fun u => ?_)
            · have h := ite_f u h
              refine lv_iload_n hx hb dL_of_77 rfl (lv_at hl 1 rfl) ?_
              refine lv_bipush (v := 6) hx hb dL_of_78 (by decide) ?_
              refine lv_icmp_ne (tgt := 91) hx hb dL_of_80 (by decide) (fun u => ?_) (fun u => ?_)
              · have h := ite_f u h
                refine lv_iload_n hx hb dL_of_91 rfl (lv_at hl 1 rfl) ?_
                refine lv_bipush (v := 7) hx hb dL_of_92 (by decide) ?_
                refine lv_icmp_ne (tgt := 105) hx hb dL_of_94 (by decide) (fun u => ?_) (fun u => ?_)
                · have h := ite_f u h
                  refine lv_iload_n hx hb dL_of_105 rfl (lv_at hl 1 rfl) ?_
                  refine lv_bipush (v := 8) hx hb dL_of_106 (by decide) ?_
                  refine lv_icmp_ne (tgt := 119) hx hb dL_of_108 (by decide) (fun u => ?_) (fun u => ?_)
                  · have h := ite_f u h
                    refine lv_iload_n hx hb dL_of_119 rfl (lv_at hl 1 rfl) ?_
                    refine lv_bipush (v := 9) hx hb dL_of_120 (by decide) ?_
                    refine lv_icmp_ne (tgt := 133) hx hb dL_of_122 (by decide) (fun u => ?_) (fun u => ?_)
                    · have h := ite_f u h
                      refine lv_iload_n hx hb dL_of_133 rfl (lv_at hl 1 rfl) ?_
                      refine lv_bipush (v := 10) hx hb dL_of_134 (by decide) ?_
                      refine lv_icmp_ne (tgt := 147) hx hb dL_of_136 (by decide) (fun u => ?_) (fun u => ?_)
                      · have h := ite_f u h
                        refine lv_iload_n hx hb dL_of_147 rfl (lv_at hl 1 rfl) ?_
                        refine lv_bipush (v := 11) hx hb dL_of_148 (by decide) ?_
                        refine lv_icmp_ne (tgt := 161) hx hb dL_of_150 (by decide) (fun u => ?_) (fun u => ?_)
                        · have h := ite_f u h
                          refine lv_aload_n hx hb dL_of_161 rfl (lv_at hl 0 rfl) ?_
                          refine lv_iload_n hx hb dL_of_162 rfl (lv_at hl 2 rfl) ?_
                          obtain ⟨hT, rfl⟩ := th1_el h
                          refine g_VT (As := [.int x2]) (rest := []) hC hv z.1 z.2 (tm_X6_firstVertex l hfl G F S D _ a x2 _ hT) (cwV 1 hts (gVA wa_185 wa_186 wa_187 (hWCA _ wc_66) (hWCA _ wc_117) (fun w h => h)) rfl rfl rfl (by decide +kernel) ⟨Nat.le_of_ble_eq_true rfl, Nat.le_of_ble_eq_true rfl⟩) rfl hl.1 rfl (Nat.le_of_ble_eq_true rfl) ⟨Nat.le_of_ble_eq_true rfl, Nat.le_of_ble_eq_true rfl⟩ dL_of_163 (fun ce9 q9 H1 locs1 hP hS hce hvm hcl => ?_)
                          refine vx_catch (own := RL) (name := "java/lang/IndexOutOfBoundsException") (E := "java/lang/IndexOutOfBoundsException") (ce := ce9) hC.2.2.2.2.1 [] ⟨0, 166, 167, 59⟩ [] (by rw [htab]; rfl) (fun _ h => absurd h List.not_mem_nil) (by decide) (by decide) (hts _ (List.mem_cons_of_mem _ wa_148)) (va_Nw.use rfl (hv.1.2.2.2.2.1 "java/lang/IndexOutOfBoundsException" (by decide +kernel))) hce hvm hcl ?_
                          refine lv_astore_n (lv' := [(3, .ref q9), (0, .ref a), (1, .int x1), (2, .int x2)]) hx hb dL_of_167 rfl hl (by decide) rfl (fun ls hl => ?_)
                          refine lv_sipush (v := (-601)) hx hb dL_of_168 (by decide) ?_
                          exact g_iret hC hP hS rfl (Nat.le_of_ble_eq_true rfl) (Nat.le_of_ble_eq_true rfl) dL_of_171
                        · have h := ite_t u h
                          refine lv_aload_n hx hb dL_of_153 rfl (lv_at hl 0 rfl) ?_
                          refine lv_iload_n hx hb dL_of_154 rfl (lv_at hl 2 rfl) ?_
                          obtain ⟨hT, rfl⟩ := th1_el h
                          refine g_VT (As := [.int x2]) (rest := []) hC hv z.1 z.2 (tm_X6_sides l hfl G F S D _ a x2 _ hT) (cwV 1 hts (gVA wa_182 wa_183 wa_184 (hWCA _ wc_66) (hWCA _ wc_113) (fun w h => h)) rfl rfl rfl (by decide +kernel) ⟨Nat.le_of_ble_eq_true rfl, Nat.le_of_ble_eq_true rfl⟩) rfl hl.1 rfl (Nat.le_of_ble_eq_true rfl) ⟨Nat.le_of_ble_eq_true rfl, Nat.le_of_ble_eq_true rfl⟩ dL_of_155 (fun ce9 q9 H1 locs1 hP hS hce hvm hcl => ?_)
                          refine vx_catch (own := RL) (name := "java/lang/IndexOutOfBoundsException") (E := "java/lang/IndexOutOfBoundsException") (ce := ce9) hC.2.2.2.2.1 [] ⟨0, 166, 167, 59⟩ [] (by rw [htab]; rfl) (fun _ h => absurd h List.not_mem_nil) (by decide) (by decide) (hts _ (List.mem_cons_of_mem _ wa_148)) (va_Nw.use rfl (hv.1.2.2.2.2.1 "java/lang/IndexOutOfBoundsException" (by decide +kernel))) hce hvm hcl ?_
                          refine lv_astore_n (lv' := [(3, .ref q9), (0, .ref a), (1, .int x1), (2, .int x2)]) hx hb dL_of_167 rfl hl (by decide) rfl (fun ls hl => ?_)
                          refine lv_sipush (v := (-601)) hx hb dL_of_168 (by decide) ?_
                          exact g_iret hC hP hS rfl (Nat.le_of_ble_eq_true rfl) (Nat.le_of_ble_eq_true rfl) dL_of_171
                      · have h := ite_t u h
                        refine lv_aload_n hx hb dL_of_139 rfl (lv_at hl 0 rfl) ?_
                        refine lv_iload_n hx hb dL_of_140 rfl (lv_at hl 2 rfl) ?_
                        obtain ⟨hT, rfl⟩ := th1_el h
                        refine g_VT (As := [.int x2]) (rest := []) hC hv z.1 z.2 (tm_X6_rightOf l hfl G F S D _ a x2 _ hT) (cwV 1 hts (gVA wa_179 wa_180 wa_181 (hWCA _ wc_66) (hWCA _ wc_111) (fun w h => h)) rfl rfl rfl (by decide +kernel) ⟨Nat.le_of_ble_eq_true rfl, Nat.le_of_ble_eq_true rfl⟩) rfl hl.1 rfl (Nat.le_of_ble_eq_true rfl) ⟨Nat.le_of_ble_eq_true rfl, Nat.le_of_ble_eq_true rfl⟩ dL_of_141 (fun ce9 q9 H1 locs1 hP hS hce hvm hcl => ?_)
                        refine vx_catch (own := RL) (name := "java/lang/IndexOutOfBoundsException") (E := "java/lang/IndexOutOfBoundsException") (ce := ce9) hC.2.2.2.2.1 [] ⟨0, 166, 167, 59⟩ [] (by rw [htab]; rfl) (fun _ h => absurd h List.not_mem_nil) (by decide) (by decide) (hts _ (List.mem_cons_of_mem _ wa_148)) (va_Nw.use rfl (hv.1.2.2.2.2.1 "java/lang/IndexOutOfBoundsException" (by decide +kernel))) hce hvm hcl ?_
                        refine lv_astore_n (lv' := [(3, .ref q9), (0, .ref a), (1, .int x1), (2, .int x2)]) hx hb dL_of_167 rfl hl (by decide) rfl (fun ls hl => ?_)
                        refine lv_sipush (v := (-601)) hx hb dL_of_168 (by decide) ?_
                        exact g_iret hC hP hS rfl (Nat.le_of_ble_eq_true rfl) (Nat.le_of_ble_eq_true rfl) dL_of_171
                    · have h := ite_t u h
                      refine lv_aload_n hx hb dL_of_125 rfl (lv_at hl 0 rfl) ?_
                      refine lv_iload_n hx hb dL_of_126 rfl (lv_at hl 2 rfl) ?_
                      obtain ⟨hT, rfl⟩ := th1_el h
                      refine g_VT (As := [.int x2]) (rest := []) hC hv z.1 z.2 (tm_X6_leftOf l hfl G F S D _ a x2 _ hT) (cwV 1 hts (gVA wa_176 wa_177 wa_178 (hWCA _ wc_66) (hWCA _ wc_110) (fun w h => h)) rfl rfl rfl (by decide +kernel) ⟨Nat.le_of_ble_eq_true rfl, Nat.le_of_ble_eq_true rfl⟩) rfl hl.1 rfl (Nat.le_of_ble_eq_true rfl) ⟨Nat.le_of_ble_eq_true rfl, Nat.le_of_ble_eq_true rfl⟩ dL_of_127 (fun ce9 q9 H1 locs1 hP hS hce hvm hcl => ?_)
                      refine vx_catch (own := RL) (name := "java/lang/IndexOutOfBoundsException") (E := "java/lang/IndexOutOfBoundsException") (ce := ce9) hC.2.2.2.2.1 [] ⟨0, 166, 167, 59⟩ [] (by rw [htab]; rfl) (fun _ h => absurd h List.not_mem_nil) (by decide) (by decide) (hts _ (List.mem_cons_of_mem _ wa_148)) (va_Nw.use rfl (hv.1.2.2.2.2.1 "java/lang/IndexOutOfBoundsException" (by decide +kernel))) hce hvm hcl ?_
                      refine lv_astore_n (lv' := [(3, .ref q9), (0, .ref a), (1, .int x1), (2, .int x2)]) hx hb dL_of_167 rfl hl (by decide) rfl (fun ls hl => ?_)
                      refine lv_sipush (v := (-601)) hx hb dL_of_168 (by decide) ?_
                      exact g_iret hC hP hS rfl (Nat.le_of_ble_eq_true rfl) (Nat.le_of_ble_eq_true rfl) dL_of_171
                  · have h := ite_t u h
                    refine lv_aload_n hx hb dL_of_111 rfl (lv_at hl 0 rfl) ?_
                    refine lv_iload_n hx hb dL_of_112 rfl (lv_at hl 2 rfl) ?_
                    obtain ⟨hT, rfl⟩ := th1_el h
                    refine g_VT (As := [.int x2]) (rest := []) hC hv z.1 z.2 (tm_X6_to l hfl G F S D _ a x2 _ hT) (cwV 1 hts (gVA wa_173 wa_174 wa_175 (hWCA _ wc_66) (hWCA _ wc_109) (fun w h => h)) rfl rfl rfl (by decide +kernel) ⟨Nat.le_of_ble_eq_true rfl, Nat.le_of_ble_eq_true rfl⟩) rfl hl.1 rfl (Nat.le_of_ble_eq_true rfl) ⟨Nat.le_of_ble_eq_true rfl, Nat.le_of_ble_eq_true rfl⟩ dL_of_113 (fun ce9 q9 H1 locs1 hP hS hce hvm hcl => ?_)
                    refine vx_catch (own := RL) (name := "java/lang/IndexOutOfBoundsException") (E := "java/lang/IndexOutOfBoundsException") (ce := ce9) hC.2.2.2.2.1 [] ⟨0, 166, 167, 59⟩ [] (by rw [htab]; rfl) (fun _ h => absurd h List.not_mem_nil) (by decide) (by decide) (hts _ (List.mem_cons_of_mem _ wa_148)) (va_Nw.use rfl (hv.1.2.2.2.2.1 "java/lang/IndexOutOfBoundsException" (by decide +kernel))) hce hvm hcl ?_
                    refine lv_astore_n (lv' := [(3, .ref q9), (0, .ref a), (1, .int x1), (2, .int x2)]) hx hb dL_of_167 rfl hl (by decide) rfl (fun ls hl => ?_)
                    refine lv_sipush (v := (-601)) hx hb dL_of_168 (by decide) ?_
                    exact g_iret hC hP hS rfl (Nat.le_of_ble_eq_true rfl) (Nat.le_of_ble_eq_true rfl) dL_of_171
                · have h := ite_t u h
                  refine lv_aload_n hx hb dL_of_97 rfl (lv_at hl 0 rfl) ?_
                  refine lv_iload_n hx hb dL_of_98 rfl (lv_at hl 2 rfl) ?_
                  obtain ⟨hT, rfl⟩ := th1_el h
                  refine g_VT (As := [.int x2]) (rest := []) hC hv z.1 z.2 (tm_X6_from l hfl G F S D _ a x2 _ hT) (cwV 1 hts (gVA wa_170 wa_171 wa_172 (hWCA _ wc_66) (hWCA _ wc_108) (fun w h => h)) rfl rfl rfl (by decide +kernel) ⟨Nat.le_of_ble_eq_true rfl, Nat.le_of_ble_eq_true rfl⟩) rfl hl.1 rfl (Nat.le_of_ble_eq_true rfl) ⟨Nat.le_of_ble_eq_true rfl, Nat.le_of_ble_eq_true rfl⟩ dL_of_99 (fun ce9 q9 H1 locs1 hP hS hce hvm hcl => ?_)
                  refine vx_catch (own := RL) (name := "java/lang/IndexOutOfBoundsException") (E := "java/lang/IndexOutOfBoundsException") (ce := ce9) hC.2.2.2.2.1 [] ⟨0, 166, 167, 59⟩ [] (by rw [htab]; rfl) (fun _ h => absurd h List.not_mem_nil) (by decide) (by decide) (hts _ (List.mem_cons_of_mem _ wa_148)) (va_Nw.use rfl (hv.1.2.2.2.2.1 "java/lang/IndexOutOfBoundsException" (by decide +kernel))) hce hvm hcl ?_
                  refine lv_astore_n (lv' := [(3, .ref q9), (0, .ref a), (1, .int x1), (2, .int x2)]) hx hb dL_of_167 rfl hl (by decide) rfl (fun ls hl => ?_)
                  refine lv_sipush (v := (-601)) hx hb dL_of_168 (by decide) ?_
                  exact g_iret hC hP hS rfl (Nat.le_of_ble_eq_true rfl) (Nat.le_of_ble_eq_true rfl) dL_of_171
              · have h := ite_t u h
                refine lv_aload_n hx hb dL_of_83 rfl (lv_at hl 0 rfl) ?_
                refine lv_iload_n hx hb dL_of_84 rfl (lv_at hl 2 rfl) ?_
                obtain ⟨hT, rfl⟩ := th1_el h
                refine g_VT (As := [.int x2]) (rest := []) hC hv z.1 z.2 (tm_X6_segmentOf l hfl G F S D _ a x2 _ hT) (cwV 1 hts (gVA wa_167 wa_168 wa_169 (hWCA _ wc_66) (hWCA _ wc_104) (fun w h => h)) rfl rfl rfl (by decide +kernel) ⟨Nat.le_of_ble_eq_true rfl, Nat.le_of_ble_eq_true rfl⟩) rfl hl.1 rfl (Nat.le_of_ble_eq_true rfl) ⟨Nat.le_of_ble_eq_true rfl, Nat.le_of_ble_eq_true rfl⟩ dL_of_85 (fun ce9 q9 H1 locs1 hP hS hce hvm hcl => ?_)
                refine vx_catch (own := RL) (name := "java/lang/IndexOutOfBoundsException") (E := "java/lang/IndexOutOfBoundsException") (ce := ce9) hC.2.2.2.2.1 [] ⟨0, 166, 167, 59⟩ [] (by rw [htab]; rfl) (fun _ h => absurd h List.not_mem_nil) (by decide) (by decide) (hts _ (List.mem_cons_of_mem _ wa_148)) (va_Nw.use rfl (hv.1.2.2.2.2.1 "java/lang/IndexOutOfBoundsException" (by decide +kernel))) hce hvm hcl ?_
                refine lv_astore_n (lv' := [(3, .ref q9), (0, .ref a), (1, .int x1), (2, .int x2)]) hx hb dL_of_167 rfl hl (by decide) rfl (fun ls hl => ?_)
                refine lv_sipush (v := (-601)) hx hb dL_of_168 (by decide) ?_
                exact g_iret hC hP hS rfl (Nat.le_of_ble_eq_true rfl) (Nat.le_of_ble_eq_true rfl) dL_of_171
            · have h := ite_t u h
              refine lv_aload_n hx hb dL_of_69 rfl (lv_at hl 0 rfl) ?_
              refine lv_iload_n hx hb dL_of_70 rfl (lv_at hl 2 rfl) ?_
              obtain ⟨hT, rfl⟩ := th1_el h
              refine g_VT (As := [.int x2]) (rest := []) hC hv z.1 z.2 (tm_X6_degree l hfl G F S D _ a x2 _ hT) (cwV 1 hts (gVA wa_164 wa_165 wa_166 (hWCA _ wc_66) (hWCA _ wc_98) (fun w h => h)) rfl rfl rfl (by decide +kernel) ⟨Nat.le_of_ble_eq_true rfl, Nat.le_of_ble_eq_true rfl⟩) rfl hl.1 rfl (Nat.le_of_ble_eq_true rfl) ⟨Nat.le_of_ble_eq_true rfl, Nat.le_of_ble_eq_true rfl⟩ dL_of_71 (fun ce9 q9 H1 locs1 hP hS hce hvm hcl => ?_)
              refine vx_catch (own := RL) (name := "java/lang/IndexOutOfBoundsException") (E := "java/lang/IndexOutOfBoundsException") (ce := ce9) hC.2.2.2.2.1 [] ⟨0, 166, 167, 59⟩ [] (by rw [htab]; rfl) (fun _ h => absurd h List.not_mem_nil) (by decide) (by decide) (hts _ (List.mem_cons_of_mem _ wa_148)) (va_Nw.use rfl (hv.1.2.2.2.2.1 "java/lang/IndexOutOfBoundsException" (by decide +kernel))) hce hvm hcl ?_
              refine lv_astore_n (lv' := [(3, .ref q9), (0, .ref a), (1, .int x1), (2, .int x2)]) hx hb dL_of_167 rfl hl (by decide) rfl (fun ls hl => ?_)
              refine lv_sipush (v := (-601)) hx hb dL_of_168 (by decide) ?_
              exact g_iret hC hP hS rfl (Nat.le_of_ble_eq_true rfl) (Nat.le_of_ble_eq_true rfl) dL_of_171
          · have h := ite_t u h
            refine lv_aload_n hx hb dL_of_56 rfl (lv_at hl 0 rfl) ?_
            refine lv_iload_n hx hb dL_of_57 rfl (lv_at hl 2 rfl) ?_
            obtain ⟨hT, rfl⟩ := th1_el h
            refine g_VT (As := [.int x2]) (rest := []) hC hv z.1 z.2 (tm_X6_yDenominator l hfl G F S D _ a x2 _ hT) (cwV 1 hts (gVA wa_161 wa_162 wa_163 (hWCA _ wc_66) (hWCA _ wc_95) (fun w h => h)) rfl rfl rfl (by decide +kernel) ⟨Nat.le_of_ble_eq_true rfl, Nat.le_of_ble_eq_true rfl⟩) rfl hl.1 rfl (Nat.le_of_ble_eq_true rfl) ⟨Nat.le_of_ble_eq_true rfl, Nat.le_of_ble_eq_true rfl⟩ dL_of_58 (fun ce9 q9 H1 locs1 hP hS hce hvm hcl => ?_)
            refine vx_catch (own := RL) (name := "java/lang/IndexOutOfBoundsException") (E := "java/lang/IndexOutOfBoundsException") (ce := ce9) hC.2.2.2.2.1 [] ⟨0, 166, 167, 59⟩ [] (by rw [htab]; rfl) (fun _ h => absurd h List.not_mem_nil) (by decide) (by decide) (hts _ (List.mem_cons_of_mem _ wa_148)) (va_Nw.use rfl (hv.1.2.2.2.2.1 "java/lang/IndexOutOfBoundsException" (by decide +kernel))) hce hvm hcl ?_
            refine lv_astore_n (lv' := [(3, .ref q9), (0, .ref a), (1, .int x1), (2, .int x2)]) hx hb dL_of_167 rfl hl (by decide) rfl (fun ls hl => ?_)
            refine lv_sipush (v := (-601)) hx hb dL_of_168 (by decide) ?_
            exact g_iret hC hP hS rfl (Nat.le_of_ble_eq_true rfl) (Nat.le_of_ble_eq_true rfl) dL_of_171
        · have h := ite_t u h
          refine lv_aload_n hx hb dL_of_43 rfl (lv_at hl 0 rfl) ?_
          refine lv_iload_n hx hb dL_of_44 rfl (lv_at hl 2 rfl) ?_
          obtain ⟨hT, rfl⟩ := th1_el h
          refine g_VT (As := [.int x2]) (rest := []) hC hv z.1 z.2 (tm_X6_yNumerator l hfl G F S D _ a x2 _ hT) (cwV 1 hts (gVA wa_158 wa_159 wa_160 (hWCA _ wc_66) (hWCA _ wc_94) (fun w h => h)) rfl rfl rfl (by decide +kernel) ⟨Nat.le_of_ble_eq_true rfl, Nat.le_of_ble_eq_true rfl⟩) rfl hl.1 rfl (Nat.le_of_ble_eq_true rfl) ⟨Nat.le_of_ble_eq_true rfl, Nat.le_of_ble_eq_true rfl⟩ dL_of_45 (fun ce9 q9 H1 locs1 hP hS hce hvm hcl => ?_)
          refine vx_catch (own := RL) (name := "java/lang/IndexOutOfBoundsException") (E := "java/lang/IndexOutOfBoundsException") (ce := ce9) hC.2.2.2.2.1 [] ⟨0, 166, 167, 59⟩ [] (by rw [htab]; rfl) (fun _ h => absurd h List.not_mem_nil) (by decide) (by decide) (hts _ (List.mem_cons_of_mem _ wa_148)) (va_Nw.use rfl (hv.1.2.2.2.2.1 "java/lang/IndexOutOfBoundsException" (by decide +kernel))) hce hvm hcl ?_
          refine lv_astore_n (lv' := [(3, .ref q9), (0, .ref a), (1, .int x1), (2, .int x2)]) hx hb dL_of_167 rfl hl (by decide) rfl (fun ls hl => ?_)
          refine lv_sipush (v := (-601)) hx hb dL_of_168 (by decide) ?_
          exact g_iret hC hP hS rfl (Nat.le_of_ble_eq_true rfl) (Nat.le_of_ble_eq_true rfl) dL_of_171
      · have h := ite_t u h
        refine lv_aload_n hx hb dL_of_30 rfl (lv_at hl 0 rfl) ?_
        refine lv_iload_n hx hb dL_of_31 rfl (lv_at hl 2 rfl) ?_
        obtain ⟨hT, rfl⟩ := th1_el h
        refine g_VT (As := [.int x2]) (rest := []) hC hv z.1 z.2 (tm_X6_xDenominator l hfl G F S D _ a x2 _ hT) (cwV 1 hts (gVA wa_155 wa_156 wa_157 (hWCA _ wc_66) (hWCA _ wc_93) (fun w h => h)) rfl rfl rfl (by decide +kernel) ⟨Nat.le_of_ble_eq_true rfl, Nat.le_of_ble_eq_true rfl⟩) rfl hl.1 rfl (Nat.le_of_ble_eq_true rfl) ⟨Nat.le_of_ble_eq_true rfl, Nat.le_of_ble_eq_true rfl⟩ dL_of_32 (fun ce9 q9 H1 locs1 hP hS hce hvm hcl => ?_)
        refine vx_catch (own := RL) (name := "java/lang/IndexOutOfBoundsException") (E := "java/lang/IndexOutOfBoundsException") (ce := ce9) hC.2.2.2.2.1 [] ⟨0, 166, 167, 59⟩ [] (by rw [htab]; rfl) (fun _ h => absurd h List.not_mem_nil) (by decide) (by decide) (hts _ (List.mem_cons_of_mem _ wa_148)) (va_Nw.use rfl (hv.1.2.2.2.2.1 "java/lang/IndexOutOfBoundsException" (by decide +kernel))) hce hvm hcl ?_
        refine lv_astore_n (lv' := [(3, .ref q9), (0, .ref a), (1, .int x1), (2, .int x2)]) hx hb dL_of_167 rfl hl (by decide) rfl (fun ls hl => ?_)
        refine lv_sipush (v := (-601)) hx hb dL_of_168 (by decide) ?_
        exact g_iret hC hP hS rfl (Nat.le_of_ble_eq_true rfl) (Nat.le_of_ble_eq_true rfl) dL_of_171
    · have h := ite_t u h
      refine lv_aload_n hx hb dL_of_17 rfl (lv_at hl 0 rfl) ?_
      refine lv_iload_n hx hb dL_of_18 rfl (lv_at hl 2 rfl) ?_
      obtain ⟨hT, rfl⟩ := th1_el h
      refine g_VT (As := [.int x2]) (rest := []) hC hv z.1 z.2 (tm_X6_xNumerator l hfl G F S D _ a x2 _ hT) (cwV 1 hts (gVA wa_152 wa_153 wa_154 (hWCA _ wc_66) (hWCA _ wc_85) (fun w h => h)) rfl rfl rfl (by decide +kernel) ⟨Nat.le_of_ble_eq_true rfl, Nat.le_of_ble_eq_true rfl⟩) rfl hl.1 rfl (Nat.le_of_ble_eq_true rfl) ⟨Nat.le_of_ble_eq_true rfl, Nat.le_of_ble_eq_true rfl⟩ dL_of_19 (fun ce9 q9 H1 locs1 hP hS hce hvm hcl => ?_)
      refine vx_catch (own := RL) (name := "java/lang/IndexOutOfBoundsException") (E := "java/lang/IndexOutOfBoundsException") (ce := ce9) hC.2.2.2.2.1 [] ⟨0, 166, 167, 59⟩ [] (by rw [htab]; rfl) (fun _ h => absurd h List.not_mem_nil) (by decide) (by decide) (hts _ (List.mem_cons_of_mem _ wa_148)) (va_Nw.use rfl (hv.1.2.2.2.2.1 "java/lang/IndexOutOfBoundsException" (by decide +kernel))) hce hvm hcl ?_
      refine lv_astore_n (lv' := [(3, .ref q9), (0, .ref a), (1, .int x1), (2, .int x2)]) hx hb dL_of_167 rfl hl (by decide) rfl (fun ls hl => ?_)
      refine lv_sipush (v := (-601)) hx hb dL_of_168 (by decide) ?_
      exact g_iret hC hP hS rfl (Nat.le_of_ble_eq_true rfl) (Nat.le_of_ble_eq_true rfl) dL_of_171
  · have h := ite_t u h
    refine lv_aload_n hx hb dL_of_4 rfl (lv_at hl 0 rfl) ?_
    refine lv_iload_n hx hb dL_of_5 rfl (lv_at hl 2 rfl) ?_
    obtain ⟨hT, rfl⟩ := th1_el h
    refine g_VT (As := [.int x2]) (rest := []) hC hv z.1 z.2 (tm_X6_remove l hfl G F S D _ a x2 _ hT) (cwV 1 hts (gVA wa_149 wa_150 wa_151 (hWCA _ wc_66) wa_124 (fun w h => h)) rfl rfl rfl (by decide +kernel) ⟨Nat.le_of_ble_eq_true rfl, Nat.le_of_ble_eq_true rfl⟩) rfl hl.1 rfl (Nat.le_of_ble_eq_true rfl) ⟨Nat.le_of_ble_eq_true rfl, Nat.le_of_ble_eq_true rfl⟩ dL_of_6 (fun ce9 q9 H1 locs1 hP hS hce hvm hcl => ?_)
    refine vx_catch (own := RL) (name := "java/lang/IndexOutOfBoundsException") (E := "java/lang/IndexOutOfBoundsException") (ce := ce9) hC.2.2.2.2.1 [] ⟨0, 166, 167, 59⟩ [] (by rw [htab]; rfl) (fun _ h => absurd h List.not_mem_nil) (by decide) (by decide) (hts _ (List.mem_cons_of_mem _ wa_148)) (va_Nw.use rfl (hv.1.2.2.2.2.1 "java/lang/IndexOutOfBoundsException" (by decide +kernel))) hce hvm hcl ?_
    refine lv_astore_n (lv' := [(3, .ref q9), (0, .ref a), (1, .int x1), (2, .int x2)]) hx hb dL_of_167 rfl hl (by decide) rfl (fun ls hl => ?_)
    refine lv_sipush (v := (-601)) hx hb dL_of_168 (by decide) ?_
    exact g_iret hC hP hS rfl (Nat.le_of_ble_eq_true rfl) (Nat.le_of_ble_eq_true rfl) dL_of_171
theorem dL_at_0 : decode cL_at 0 = .ok (.iload_n 1, 1) := by decide +kernel
theorem dL_at_1 : decode cL_at 1 = .ok (.ifCond .ne 12, 3) := by decide +kernel
theorem dL_at_4 : decode cL_at 4 = .ok (.aload_n 0, 1) := by decide +kernel
theorem dL_at_5 : decode cL_at 5 = .ok (.iload_n 2, 1) := by decide +kernel
theorem dL_at_6 : decode cL_at 6 = .ok (.iload_n 3, 1) := by decide +kernel
theorem dL_at_7 : decode cL_at 7 = .ok (.invokevirtual 61, 3) := by decide +kernel
theorem dL_at_10 : decode cL_at 10 = .ok (.goto 44, 3) := by decide +kernel
theorem dL_at_13 : decode cL_at 13 = .ok (.iload_n 1, 1) := by decide +kernel
theorem dL_at_14 : decode cL_at 14 = .ok (.iconst 1, 1) := by decide +kernel
theorem dL_at_15 : decode cL_at 15 = .ok (.if_icmp .ne 11, 3) := by decide +kernel
theorem dL_at_18 : decode cL_at 18 = .ok (.aload_n 0, 1) := by decide +kernel
theorem dL_at_19 : decode cL_at 19 = .ok (.iload_n 2, 1) := by decide +kernel
theorem dL_at_20 : decode cL_at 20 = .ok (.invokevirtual 65, 3) := by decide +kernel
theorem dL_at_23 : decode cL_at 23 = .ok (.goto 31, 3) := by decide +kernel
theorem dL_at_26 : decode cL_at 26 = .ok (.iload_n 1, 1) := by decide +kernel
theorem dL_at_27 : decode cL_at 27 = .ok (.iconst 2, 1) := by decide +kernel
theorem dL_at_28 : decode cL_at 28 = .ok (.if_icmp .ne 12, 3) := by decide +kernel
theorem dL_at_31 : decode cL_at 31 = .ok (.aload_n 0, 1) := by decide +kernel
theorem dL_at_32 : decode cL_at 32 = .ok (.iload_n 2, 1) := by decide +kernel
theorem dL_at_33 : decode cL_at 33 = .ok (.iload_n 3, 1) := by decide +kernel
theorem dL_at_34 : decode cL_at 34 = .ok (.invokevirtual 68, 3) := by decide +kernel
theorem dL_at_37 : decode cL_at 37 = .ok (.goto 17, 3) := by decide +kernel
theorem dL_at_40 : decode cL_at 40 = .ok (.aload_n 0, 1) := by decide +kernel
theorem dL_at_41 : decode cL_at 41 = .ok (.iload_n 2, 1) := by decide +kernel
theorem dL_at_42 : decode cL_at 42 = .ok (.iload_n 3, 1) := by decide +kernel
theorem dL_at_43 : decode cL_at 43 = .ok (.invokevirtual 71, 3) := by decide +kernel
theorem dL_at_46 : decode cL_at 46 = .ok (.ifCond .eq 7, 3) := by decide +kernel
theorem dL_at_49 : decode cL_at 49 = .ok (.iconst 1, 1) := by decide +kernel
theorem dL_at_50 : decode cL_at 50 = .ok (.goto 4, 3) := by decide +kernel
theorem dL_at_53 : decode cL_at 53 = .ok (.iconst 0, 1) := by decide +kernel
theorem dL_at_54 : decode cL_at 54 = .ok (.ireturn, 1) := by decide +kernel
theorem dL_at_55 : decode cL_at 55 = .ok (.astore 4, 2) := by decide +kernel
theorem dL_at_57 : decode cL_at 57 = .ok (.sipush (-602), 3) := by decide +kernel
theorem dL_at_60 : decode cL_at 60 = .ok (.ireturn, 1) := by decide +kernel
theorem dL_at_61 : decode cL_at 61 = .ok (.astore 4, 2) := by decide +kernel
theorem dL_at_63 : decode cL_at 63 = .ok (.sipush (-601), 3) := by decide +kernel
theorem dL_at_66 : decode cL_at 66 = .ok (.ireturn, 1) := by decide +kernel
def wL_at : List Cond := Cond.codeWith yL_at cL_at 5 (some .int) [(0, 54, 55, 15), (0, 54, 61, 59)] :: WA
def f_L_at (F : Nat) (S : CS) (D : CD) (a : Nat) (x1 : Int32) (x2 : Int32) (x3 : Int32) : Option (CD × Int32) := ckK S a 6 <| (if x1 = 0 then th2 "java/lang/IllegalArgumentException" (-602) "java/lang/IndexOutOfBoundsException" (-601) (t_X6_faceAt F S D a x2 x3) else (if x1 = 1 then th2 "java/lang/IllegalArgumentException" (-602) "java/lang/IndexOutOfBoundsException" (-601) (t_X6_crossing F S D a x2) else (if x1 = 2 then th2 "java/lang/IllegalArgumentException" (-602) "java/lang/IndexOutOfBoundsException" (-601) (t_X6_crossingAt F S D a x2 x3) else th2 "java/lang/IllegalArgumentException" (-602) "java/lang/IndexOutOfBoundsException" (-601) (t_X6_meet F S D a x2 x3))))
set_option maxRecDepth 100000 in
set_option maxHeartbeats 4000000 in
theorem m_L_at (l : Launch) (hfl : l.stackTraces = false) (G : cG) (F : Nat) (S : CS) (z9 : Nat × Nat) (D D2 : CD) (a : Nat) (x1 : Int32) (x2 : Int32) (x3 : Int32) (r : Int32) (h : f_L_at F S D a x1 x2 x3 = some (D2, r)) : lXI l yL_at wL_at lRm G S z9 [.ref a, .int x1, .int x2, .int x3] D D2 r 1 6 := by
  unfold f_L_at at h
  obtain ⟨z, h⟩ := ckK_el h
  refine lBodyX (cc := cL_at) (maxL := 5) (ret := some .int) (by decide) rfl rfl ?_
  intro sz p e s m below meth c hC htab hv
  have hx := hC.1
  have hb := hC.2.1
  have hts := hC.2.2.2.1
  refine g_entry (Nat.le_of_ble_eq_true rfl) (fun ls hl => ?_)
  have hl : lv_has ls 5 [(0, .ref a), (1, .int x1), (2, .int x2), (3, .int x3)] := hl
  refine lv_iload_n hx hb dL_at_0 rfl (lv_at hl 1 rfl) ?_
  refine lv_if_ne (tgt := 13) hx hb dL_at_1 (by decide) (fun u => ?_) (fun u => ?_)
  · have h := ite_f u h
    refine lv_iload_n hx hb dL_at_13 rfl (lv_at hl 1 rfl) ?_
    refine lv_iconst (v := 1) hx hb dL_at_14 (by decide) ?_
    refine lv_icmp_ne (tgt := 26) hx hb dL_at_15 (by decide) (fun u => ?_) (fun u => ?_)
    · have h := ite_f u h
      refine lv_iload_n hx hb dL_at_26 rfl (lv_at hl 1 rfl) ?_
      refine lv_iconst (v := 2) hx hb dL_at_27 (by decide) ?_
      refine lv_icmp_ne (tgt := 40) hx hb dL_at_28 (by decide) (fun u => ?_) (fun u => ?_)
      · have h := ite_f u h
        refine lv_aload_n hx hb dL_at_40 rfl (lv_at hl 0 rfl) ?_
        refine lv_iload_n hx hb dL_at_41 rfl (lv_at hl 2 rfl) ?_
        refine lv_iload_n hx hb dL_at_42 rfl (lv_at hl 3 rfl) ?_
        rcases th2_el h with ⟨hT, rfl⟩ | ⟨hT, rfl⟩
        · refine g_VT (As := [.int x2, .int x3]) (rest := []) hC hv z.1 z.2 (tm_X6_meet l hfl G F S D _ a x2 x3 _ hT) (cwV 2 hts (gVA wa_198 wa_199 wa_200 (hWCA _ wc_66) (hWCA _ wc_62) (fun w h => h)) rfl rfl rfl (by decide +kernel) ⟨Nat.le_of_ble_eq_true rfl, Nat.le_of_ble_eq_true rfl⟩) rfl hl.1 rfl (Nat.le_of_ble_eq_true rfl) ⟨Nat.le_of_ble_eq_true rfl, Nat.le_of_ble_eq_true rfl⟩ dL_at_43 (fun ce9 q9 H1 locs1 hP hS hce hvm hcl => ?_)
          refine vx_catch (own := RL) (name := "java/lang/IllegalArgumentException") (E := "java/lang/IllegalArgumentException") (ce := ce9) hC.2.2.2.2.1 [] ⟨0, 54, 55, 15⟩ [⟨0, 54, 61, 59⟩] (by rw [htab]; rfl) (fun _ h => absurd h List.not_mem_nil) (by decide) (by decide) (hts _ (List.mem_cons_of_mem _ wa_142)) (va_Nw.use rfl (hv.1.2.2.2.2.1 "java/lang/IllegalArgumentException" (by decide +kernel))) hce hvm hcl ?_
          refine lv_astore (lv' := [(4, .ref q9), (0, .ref a), (1, .int x1), (2, .int x2), (3, .int x3)]) hx hb dL_at_55 hl (by decide) rfl (fun ls hl => ?_)
          refine lv_sipush (v := (-602)) hx hb dL_at_57 (by decide) ?_
          exact g_iret hC hP hS rfl (Nat.le_of_ble_eq_true rfl) (Nat.le_of_ble_eq_true rfl) dL_at_60
        · refine g_VT (As := [.int x2, .int x3]) (rest := []) hC hv z.1 z.2 (tm_X6_meet l hfl G F S D _ a x2 x3 _ hT) (cwV 2 hts (gVA wa_198 wa_199 wa_200 (hWCA _ wc_66) (hWCA _ wc_62) (fun w h => h)) rfl rfl rfl (by decide +kernel) ⟨Nat.le_of_ble_eq_true rfl, Nat.le_of_ble_eq_true rfl⟩) rfl hl.1 rfl (Nat.le_of_ble_eq_true rfl) ⟨Nat.le_of_ble_eq_true rfl, Nat.le_of_ble_eq_true rfl⟩ dL_at_43 (fun ce9 q9 H1 locs1 hP hS hce hvm hcl => ?_)
          refine vx_catch (own := RL) (name := "java/lang/IndexOutOfBoundsException") (E := "java/lang/IndexOutOfBoundsException") (ce := ce9) hC.2.2.2.2.1 [⟨0, 54, 55, 15⟩] ⟨0, 54, 61, 59⟩ [] (by rw [htab]; rfl) (fun w hw => by rw [List.mem_singleton.mp hw]; exact Or.inr ⟨by decide, _, hts _ (List.mem_cons_of_mem _ wa_142), hv.2.2⟩) (by decide) (by decide) (hts _ (List.mem_cons_of_mem _ wa_148)) (va_Nw.use rfl (hv.1.2.2.2.2.1 "java/lang/IndexOutOfBoundsException" (by decide +kernel))) hce hvm hcl ?_
          refine lv_astore (lv' := [(4, .ref q9), (0, .ref a), (1, .int x1), (2, .int x2), (3, .int x3)]) hx hb dL_at_61 hl (by decide) rfl (fun ls hl => ?_)
          refine lv_sipush (v := (-601)) hx hb dL_at_63 (by decide) ?_
          exact g_iret hC hP hS rfl (Nat.le_of_ble_eq_true rfl) (Nat.le_of_ble_eq_true rfl) dL_at_66
      · have h := ite_t u h
        refine lv_aload_n hx hb dL_at_31 rfl (lv_at hl 0 rfl) ?_
        refine lv_iload_n hx hb dL_at_32 rfl (lv_at hl 2 rfl) ?_
        refine lv_iload_n hx hb dL_at_33 rfl (lv_at hl 3 rfl) ?_
        rcases th2_el h with ⟨hT, rfl⟩ | ⟨hT, rfl⟩
        · refine g_VT (As := [.int x2, .int x3]) (rest := []) hC hv z.1 z.2 (tm_X6_crossingAt l hfl G F S D _ a x2 x3 _ hT) (cwV 2 hts (gVA wa_195 wa_196 wa_197 (hWCA _ wc_66) wa_134 (fun w h => h)) rfl rfl rfl (by decide +kernel) ⟨Nat.le_of_ble_eq_true rfl, Nat.le_of_ble_eq_true rfl⟩) rfl hl.1 rfl (Nat.le_of_ble_eq_true rfl) ⟨Nat.le_of_ble_eq_true rfl, Nat.le_of_ble_eq_true rfl⟩ dL_at_34 (fun ce9 q9 H1 locs1 hP hS hce hvm hcl => ?_)
          refine vx_catch (own := RL) (name := "java/lang/IllegalArgumentException") (E := "java/lang/IllegalArgumentException") (ce := ce9) hC.2.2.2.2.1 [] ⟨0, 54, 55, 15⟩ [⟨0, 54, 61, 59⟩] (by rw [htab]; rfl) (fun _ h => absurd h List.not_mem_nil) (by decide) (by decide) (hts _ (List.mem_cons_of_mem _ wa_142)) (va_Nw.use rfl (hv.1.2.2.2.2.1 "java/lang/IllegalArgumentException" (by decide +kernel))) hce hvm hcl ?_
          refine lv_astore (lv' := [(4, .ref q9), (0, .ref a), (1, .int x1), (2, .int x2), (3, .int x3)]) hx hb dL_at_55 hl (by decide) rfl (fun ls hl => ?_)
          refine lv_sipush (v := (-602)) hx hb dL_at_57 (by decide) ?_
          exact g_iret hC hP hS rfl (Nat.le_of_ble_eq_true rfl) (Nat.le_of_ble_eq_true rfl) dL_at_60
        · refine g_VT (As := [.int x2, .int x3]) (rest := []) hC hv z.1 z.2 (tm_X6_crossingAt l hfl G F S D _ a x2 x3 _ hT) (cwV 2 hts (gVA wa_195 wa_196 wa_197 (hWCA _ wc_66) wa_134 (fun w h => h)) rfl rfl rfl (by decide +kernel) ⟨Nat.le_of_ble_eq_true rfl, Nat.le_of_ble_eq_true rfl⟩) rfl hl.1 rfl (Nat.le_of_ble_eq_true rfl) ⟨Nat.le_of_ble_eq_true rfl, Nat.le_of_ble_eq_true rfl⟩ dL_at_34 (fun ce9 q9 H1 locs1 hP hS hce hvm hcl => ?_)
          refine vx_catch (own := RL) (name := "java/lang/IndexOutOfBoundsException") (E := "java/lang/IndexOutOfBoundsException") (ce := ce9) hC.2.2.2.2.1 [⟨0, 54, 55, 15⟩] ⟨0, 54, 61, 59⟩ [] (by rw [htab]; rfl) (fun w hw => by rw [List.mem_singleton.mp hw]; exact Or.inr ⟨by decide, _, hts _ (List.mem_cons_of_mem _ wa_142), hv.2.2⟩) (by decide) (by decide) (hts _ (List.mem_cons_of_mem _ wa_148)) (va_Nw.use rfl (hv.1.2.2.2.2.1 "java/lang/IndexOutOfBoundsException" (by decide +kernel))) hce hvm hcl ?_
          refine lv_astore (lv' := [(4, .ref q9), (0, .ref a), (1, .int x1), (2, .int x2), (3, .int x3)]) hx hb dL_at_61 hl (by decide) rfl (fun ls hl => ?_)
          refine lv_sipush (v := (-601)) hx hb dL_at_63 (by decide) ?_
          exact g_iret hC hP hS rfl (Nat.le_of_ble_eq_true rfl) (Nat.le_of_ble_eq_true rfl) dL_at_66
    · have h := ite_t u h
      refine lv_aload_n hx hb dL_at_18 rfl (lv_at hl 0 rfl) ?_
      refine lv_iload_n hx hb dL_at_19 rfl (lv_at hl 2 rfl) ?_
      rcases th2_el h with ⟨hT, rfl⟩ | ⟨hT, rfl⟩
      · refine g_VT (As := [.int x2]) (rest := []) hC hv z.1 z.2 (tm_X6_crossing l hfl G F S D _ a x2 _ hT) (cwV 1 hts (gVA wa_192 wa_193 wa_194 (hWCA _ wc_66) (hWCA _ wc_183) (fun w h => h)) rfl rfl rfl (by decide +kernel) ⟨Nat.le_of_ble_eq_true rfl, Nat.le_of_ble_eq_true rfl⟩) rfl hl.1 rfl (Nat.le_of_ble_eq_true rfl) ⟨Nat.le_of_ble_eq_true rfl, Nat.le_of_ble_eq_true rfl⟩ dL_at_20 (fun ce9 q9 H1 locs1 hP hS hce hvm hcl => ?_)
        refine vx_catch (own := RL) (name := "java/lang/IllegalArgumentException") (E := "java/lang/IllegalArgumentException") (ce := ce9) hC.2.2.2.2.1 [] ⟨0, 54, 55, 15⟩ [⟨0, 54, 61, 59⟩] (by rw [htab]; rfl) (fun _ h => absurd h List.not_mem_nil) (by decide) (by decide) (hts _ (List.mem_cons_of_mem _ wa_142)) (va_Nw.use rfl (hv.1.2.2.2.2.1 "java/lang/IllegalArgumentException" (by decide +kernel))) hce hvm hcl ?_
        refine lv_astore (lv' := [(4, .ref q9), (0, .ref a), (1, .int x1), (2, .int x2), (3, .int x3)]) hx hb dL_at_55 hl (by decide) rfl (fun ls hl => ?_)
        refine lv_sipush (v := (-602)) hx hb dL_at_57 (by decide) ?_
        exact g_iret hC hP hS rfl (Nat.le_of_ble_eq_true rfl) (Nat.le_of_ble_eq_true rfl) dL_at_60
      · refine g_VT (As := [.int x2]) (rest := []) hC hv z.1 z.2 (tm_X6_crossing l hfl G F S D _ a x2 _ hT) (cwV 1 hts (gVA wa_192 wa_193 wa_194 (hWCA _ wc_66) (hWCA _ wc_183) (fun w h => h)) rfl rfl rfl (by decide +kernel) ⟨Nat.le_of_ble_eq_true rfl, Nat.le_of_ble_eq_true rfl⟩) rfl hl.1 rfl (Nat.le_of_ble_eq_true rfl) ⟨Nat.le_of_ble_eq_true rfl, Nat.le_of_ble_eq_true rfl⟩ dL_at_20 (fun ce9 q9 H1 locs1 hP hS hce hvm hcl => ?_)
        refine vx_catch (own := RL) (name := "java/lang/IndexOutOfBoundsException") (E := "java/lang/IndexOutOfBoundsException") (ce := ce9) hC.2.2.2.2.1 [⟨0, 54, 55, 15⟩] ⟨0, 54, 61, 59⟩ [] (by rw [htab]; rfl) (fun w hw => by rw [List.mem_singleton.mp hw]; exact Or.inr ⟨by decide, _, hts _ (List.mem_cons_of_mem _ wa_142), hv.2.2⟩) (by decide) (by decide) (hts _ (List.mem_cons_of_mem _ wa_148)) (va_Nw.use rfl (hv.1.2.2.2.2.1 "java/lang/IndexOutOfBoundsException" (by decide +kernel))) hce hvm hcl ?_
        refine lv_astore (lv' := [(4, .ref q9), (0, .ref a), (1, .int x1), (2, .int x2), (3, .int x3)]) hx hb dL_at_61 hl (by decide) rfl (fun ls hl => ?_)
        refine lv_sipush (v := (-601)) hx hb dL_at_63 (by decide) ?_
        exact g_iret hC hP hS rfl (Nat.le_of_ble_eq_true rfl) (Nat.le_of_ble_eq_true rfl) dL_at_66
  · have h := ite_t u h
    refine lv_aload_n hx hb dL_at_4 rfl (lv_at hl 0 rfl) ?_
    refine lv_iload_n hx hb dL_at_5 rfl (lv_at hl 2 rfl) ?_
    refine lv_iload_n hx hb dL_at_6 rfl (lv_at hl 3 rfl) ?_
    rcases th2_el h with ⟨hT, rfl⟩ | ⟨hT, rfl⟩
    · refine g_VT (As := [.int x2, .int x3]) (rest := []) hC hv z.1 z.2 (tm_X6_faceAt l hfl G F S D _ a x2 x3 _ hT) (cwV 2 hts (gVA wa_189 wa_190 wa_191 (hWCA _ wc_66) (hWCA _ wc_168) (fun w h => h)) rfl rfl rfl (by decide +kernel) ⟨Nat.le_of_ble_eq_true rfl, Nat.le_of_ble_eq_true rfl⟩) rfl hl.1 rfl (Nat.le_of_ble_eq_true rfl) ⟨Nat.le_of_ble_eq_true rfl, Nat.le_of_ble_eq_true rfl⟩ dL_at_7 (fun ce9 q9 H1 locs1 hP hS hce hvm hcl => ?_)
      refine vx_catch (own := RL) (name := "java/lang/IllegalArgumentException") (E := "java/lang/IllegalArgumentException") (ce := ce9) hC.2.2.2.2.1 [] ⟨0, 54, 55, 15⟩ [⟨0, 54, 61, 59⟩] (by rw [htab]; rfl) (fun _ h => absurd h List.not_mem_nil) (by decide) (by decide) (hts _ (List.mem_cons_of_mem _ wa_142)) (va_Nw.use rfl (hv.1.2.2.2.2.1 "java/lang/IllegalArgumentException" (by decide +kernel))) hce hvm hcl ?_
      refine lv_astore (lv' := [(4, .ref q9), (0, .ref a), (1, .int x1), (2, .int x2), (3, .int x3)]) hx hb dL_at_55 hl (by decide) rfl (fun ls hl => ?_)
      refine lv_sipush (v := (-602)) hx hb dL_at_57 (by decide) ?_
      exact g_iret hC hP hS rfl (Nat.le_of_ble_eq_true rfl) (Nat.le_of_ble_eq_true rfl) dL_at_60
    · refine g_VT (As := [.int x2, .int x3]) (rest := []) hC hv z.1 z.2 (tm_X6_faceAt l hfl G F S D _ a x2 x3 _ hT) (cwV 2 hts (gVA wa_189 wa_190 wa_191 (hWCA _ wc_66) (hWCA _ wc_168) (fun w h => h)) rfl rfl rfl (by decide +kernel) ⟨Nat.le_of_ble_eq_true rfl, Nat.le_of_ble_eq_true rfl⟩) rfl hl.1 rfl (Nat.le_of_ble_eq_true rfl) ⟨Nat.le_of_ble_eq_true rfl, Nat.le_of_ble_eq_true rfl⟩ dL_at_7 (fun ce9 q9 H1 locs1 hP hS hce hvm hcl => ?_)
      refine vx_catch (own := RL) (name := "java/lang/IndexOutOfBoundsException") (E := "java/lang/IndexOutOfBoundsException") (ce := ce9) hC.2.2.2.2.1 [⟨0, 54, 55, 15⟩] ⟨0, 54, 61, 59⟩ [] (by rw [htab]; rfl) (fun w hw => by rw [List.mem_singleton.mp hw]; exact Or.inr ⟨by decide, _, hts _ (List.mem_cons_of_mem _ wa_142), hv.2.2⟩) (by decide) (by decide) (hts _ (List.mem_cons_of_mem _ wa_148)) (va_Nw.use rfl (hv.1.2.2.2.2.1 "java/lang/IndexOutOfBoundsException" (by decide +kernel))) hce hvm hcl ?_
      refine lv_astore (lv' := [(4, .ref q9), (0, .ref a), (1, .int x1), (2, .int x2), (3, .int x3)]) hx hb dL_at_61 hl (by decide) rfl (fun ls hl => ?_)
      refine lv_sipush (v := (-601)) hx hb dL_at_63 (by decide) ?_
      exact g_iret hC hP hS rfl (Nat.le_of_ble_eq_true rfl) (Nat.le_of_ble_eq_true rfl) dL_at_66
theorem dL_add_0 : decode cL_add 0 = .ok (.aload_n 0, 1) := by decide +kernel
theorem dL_add_1 : decode cL_add 1 = .ok (.iload_n 1, 1) := by decide +kernel
theorem dL_add_2 : decode cL_add 2 = .ok (.iload_n 2, 1) := by decide +kernel
theorem dL_add_3 : decode cL_add 3 = .ok (.iload_n 3, 1) := by decide +kernel
theorem dL_add_4 : decode cL_add 4 = .ok (.iload 4, 2) := by decide +kernel
theorem dL_add_6 : decode cL_add 6 = .ok (.invokevirtual 9, 3) := by decide +kernel
theorem dL_add_9 : decode cL_add 9 = .ok (.ireturn, 1) := by decide +kernel
theorem dL_add_10 : decode cL_add 10 = .ok (.astore 5, 2) := by decide +kernel
theorem dL_add_12 : decode cL_add 12 = .ok (.sipush (-602), 3) := by decide +kernel
theorem dL_add_15 : decode cL_add 15 = .ok (.ireturn, 1) := by decide +kernel
theorem dL_add_16 : decode cL_add 16 = .ok (.astore 5, 2) := by decide +kernel
theorem dL_add_18 : decode cL_add 18 = .ok (.sipush (-603), 3) := by decide +kernel
theorem dL_add_21 : decode cL_add 21 = .ok (.ireturn, 1) := by decide +kernel
def wL_add : List Cond := Cond.codeWith yL_add cL_add 6 (some .int) [(0, 9, 10, 15), (0, 9, 16, 17)] :: WA
def f_L_add (F : Nat) (S : CS) (D : CD) (a : Nat) (x1 : Int32) (x2 : Int32) (x3 : Int32) (x4 : Int32) : Option (CD × Int32) := ckK S a 6 <| th2 "java/lang/IllegalArgumentException" (-602) "java/lang/IllegalStateException" (-603) (t_X6_add F S D a x1 x2 x3 x4)
set_option maxRecDepth 100000 in
set_option maxHeartbeats 4000000 in
theorem m_L_add (l : Launch) (hfl : l.stackTraces = false) (G : cG) (F : Nat) (S : CS) (z9 : Nat × Nat) (D D2 : CD) (a : Nat) (x1 : Int32) (x2 : Int32) (x3 : Int32) (x4 : Int32) (r : Int32) (h : f_L_add F S D a x1 x2 x3 x4 = some (D2, r)) : lXI l yL_add wL_add lRm G S z9 [.ref a, .int x1, .int x2, .int x3, .int x4] D D2 r 1 6 := by
  unfold f_L_add at h
  obtain ⟨z, h⟩ := ckK_el h
  refine lBodyX (cc := cL_add) (maxL := 6) (ret := some .int) (by decide) rfl rfl ?_
  intro sz p e s m below meth c hC htab hv
  have hx := hC.1
  have hb := hC.2.1
  have hts := hC.2.2.2.1
  refine g_entry (Nat.le_of_ble_eq_true rfl) (fun ls hl => ?_)
  have hl : lv_has ls 6 [(0, .ref a), (1, .int x1), (2, .int x2), (3, .int x3), (4, .int x4)] := hl
  refine lv_aload_n hx hb dL_add_0 rfl (lv_at hl 0 rfl) ?_
  refine lv_iload_n hx hb dL_add_1 rfl (lv_at hl 1 rfl) ?_
  refine lv_iload_n hx hb dL_add_2 rfl (lv_at hl 2 rfl) ?_
  refine lv_iload_n hx hb dL_add_3 rfl (lv_at hl 3 rfl) ?_
  refine lv_iload hx hb dL_add_4 (lv_at hl 4 rfl) ?_
  rcases th2_el h with ⟨hT, rfl⟩ | ⟨hT, rfl⟩
  · refine g_VT (As := [.int x1, .int x2, .int x3, .int x4]) (rest := []) hC hv z.1 z.2 (tm_X6_add l hfl G F S D _ a x1 x2 x3 x4 _ hT) (cwV 4 hts (gVA wa_144 wa_145 wa_146 (hWCA _ wc_66) wa_69 (fun w h => h)) rfl rfl rfl (by decide +kernel) ⟨Nat.le_of_ble_eq_true rfl, Nat.le_of_ble_eq_true rfl⟩) rfl hl.1 rfl (Nat.le_of_ble_eq_true rfl) ⟨Nat.le_of_ble_eq_true rfl, Nat.le_of_ble_eq_true rfl⟩ dL_add_6 (fun ce9 q9 H1 locs1 hP hS hce hvm hcl => ?_)
    refine vx_catch (own := RL) (name := "java/lang/IllegalArgumentException") (E := "java/lang/IllegalArgumentException") (ce := ce9) hC.2.2.2.2.1 [] ⟨0, 9, 10, 15⟩ [⟨0, 9, 16, 17⟩] (by rw [htab]; rfl) (fun _ h => absurd h List.not_mem_nil) (by decide) (by decide) (hts _ (List.mem_cons_of_mem _ wa_142)) (va_Nw.use rfl (hv.1.2.2.2.2.1 "java/lang/IllegalArgumentException" (by decide +kernel))) hce hvm hcl ?_
    refine lv_astore (lv' := [(5, .ref q9), (0, .ref a), (1, .int x1), (2, .int x2), (3, .int x3), (4, .int x4)]) hx hb dL_add_10 hl (by decide) rfl (fun ls hl => ?_)
    refine lv_sipush (v := (-602)) hx hb dL_add_12 (by decide) ?_
    exact g_iret hC hP hS rfl (Nat.le_of_ble_eq_true rfl) (Nat.le_of_ble_eq_true rfl) dL_add_15
  · refine g_VT (As := [.int x1, .int x2, .int x3, .int x4]) (rest := []) hC hv z.1 z.2 (tm_X6_add l hfl G F S D _ a x1 x2 x3 x4 _ hT) (cwV 4 hts (gVA wa_144 wa_145 wa_146 (hWCA _ wc_66) wa_69 (fun w h => h)) rfl rfl rfl (by decide +kernel) ⟨Nat.le_of_ble_eq_true rfl, Nat.le_of_ble_eq_true rfl⟩) rfl hl.1 rfl (Nat.le_of_ble_eq_true rfl) ⟨Nat.le_of_ble_eq_true rfl, Nat.le_of_ble_eq_true rfl⟩ dL_add_6 (fun ce9 q9 H1 locs1 hP hS hce hvm hcl => ?_)
    refine vx_catch (own := RL) (name := "java/lang/IllegalStateException") (E := "java/lang/IllegalStateException") (ce := ce9) hC.2.2.2.2.1 [⟨0, 9, 10, 15⟩] ⟨0, 9, 16, 17⟩ [] (by rw [htab]; rfl) (fun w hw => by rw [List.mem_singleton.mp hw]; exact Or.inr ⟨by decide, _, hts _ (List.mem_cons_of_mem _ wa_142), hv.2.1⟩) (by decide) (by decide) (hts _ (List.mem_cons_of_mem _ wa_143)) (va_Nw.use rfl (hv.1.2.2.2.2.1 "java/lang/IllegalStateException" (by decide +kernel))) hce hvm hcl ?_
    refine lv_astore (lv' := [(5, .ref q9), (0, .ref a), (1, .int x1), (2, .int x2), (3, .int x3), (4, .int x4)]) hx hb dL_add_16 hl (by decide) rfl (fun ls hl => ?_)
    refine lv_sipush (v := (-603)) hx hb dL_add_18 (by decide) ?_
    exact g_iret hC hP hS rfl (Nat.le_of_ble_eq_true rfl) (Nat.le_of_ble_eq_true rfl) dL_add_21
