theorem dL_all_0 : decode cL_all 0 = .ok (.aload_n 0, 1) := by decide +kernel
theorem dL_all_1 : decode cL_all 1 = .ok (.invokevirtual 75, 3) := by decide +kernel
theorem dL_all_4 : decode cL_all 4 = .ok (.i2l, 1) := by decide +kernel
theorem dL_all_5 : decode cL_all 5 = .ok (.ldc2_w 79, 3) := by decide +kernel
theorem dL_all_8 : decode cL_all 8 = .ok (.aload_n 0, 1) := by decide +kernel
theorem dL_all_9 : decode cL_all 9 = .ok (.invokevirtual 81, 3) := by decide +kernel
theorem dL_all_12 : decode cL_all 12 = .ok (.i2l, 1) := by decide +kernel
theorem dL_all_13 : decode cL_all 13 = .ok (.lmul, 1) := by decide +kernel
theorem dL_all_14 : decode cL_all 14 = .ok (.ladd, 1) := by decide +kernel
theorem dL_all_15 : decode cL_all 15 = .ok (.ldc2_w 84, 3) := by decide +kernel
theorem dL_all_18 : decode cL_all 18 = .ok (.aload_n 0, 1) := by decide +kernel
theorem dL_all_19 : decode cL_all 19 = .ok (.invokevirtual 86, 3) := by decide +kernel
theorem dL_all_22 : decode cL_all 22 = .ok (.i2l, 1) := by decide +kernel
theorem dL_all_23 : decode cL_all 23 = .ok (.lmul, 1) := by decide +kernel
theorem dL_all_24 : decode cL_all 24 = .ok (.ladd, 1) := by decide +kernel
theorem dL_all_25 : decode cL_all 25 = .ok (.lstore_n 1, 1) := by decide +kernel
theorem dL_all_26 : decode cL_all 26 = .ok (.iconst 0, 1) := by decide +kernel
theorem dL_all_27 : decode cL_all 27 = .ok (.istore_n 3, 1) := by decide +kernel
theorem dL_all_28 : decode cL_all 28 = .ok (.iload_n 3, 1) := by decide +kernel
theorem dL_all_29 : decode cL_all 29 = .ok (.aload_n 0, 1) := by decide +kernel
theorem dL_all_30 : decode cL_all 30 = .ok (.invokevirtual 89, 3) := by decide +kernel
theorem dL_all_33 : decode cL_all 33 = .ok (.if_icmp .ge 55, 3) := by decide +kernel
theorem dL_all_36 : decode cL_all 36 = .ok (.ldc2_w 92, 3) := by decide +kernel
theorem dL_all_39 : decode cL_all 39 = .ok (.lload_n 1, 1) := by decide +kernel
theorem dL_all_40 : decode cL_all 40 = .ok (.lmul, 1) := by decide +kernel
theorem dL_all_41 : decode cL_all 41 = .ok (.aload_n 0, 1) := by decide +kernel
theorem dL_all_42 : decode cL_all 42 = .ok (.iload_n 3, 1) := by decide +kernel
theorem dL_all_43 : decode cL_all 43 = .ok (.invokevirtual 23, 3) := by decide +kernel
theorem dL_all_46 : decode cL_all 46 = .ok (.i2l, 1) := by decide +kernel
theorem dL_all_47 : decode cL_all 47 = .ok (.ladd, 1) := by decide +kernel
theorem dL_all_48 : decode cL_all 48 = .ok (.ldc2_w 94, 3) := by decide +kernel
theorem dL_all_51 : decode cL_all 51 = .ok (.aload_n 0, 1) := by decide +kernel
theorem dL_all_52 : decode cL_all 52 = .ok (.iload_n 3, 1) := by decide +kernel
theorem dL_all_53 : decode cL_all 53 = .ok (.invokevirtual 26, 3) := by decide +kernel
theorem dL_all_56 : decode cL_all 56 = .ok (.i2l, 1) := by decide +kernel
theorem dL_all_57 : decode cL_all 57 = .ok (.lmul, 1) := by decide +kernel
theorem dL_all_58 : decode cL_all 58 = .ok (.ladd, 1) := by decide +kernel
theorem dL_all_59 : decode cL_all 59 = .ok (.ldc2_w 96, 3) := by decide +kernel
theorem dL_all_62 : decode cL_all 62 = .ok (.aload_n 0, 1) := by decide +kernel
theorem dL_all_63 : decode cL_all 63 = .ok (.iload_n 3, 1) := by decide +kernel
theorem dL_all_64 : decode cL_all 64 = .ok (.invokevirtual 29, 3) := by decide +kernel
theorem dL_all_67 : decode cL_all 67 = .ok (.i2l, 1) := by decide +kernel
theorem dL_all_68 : decode cL_all 68 = .ok (.lmul, 1) := by decide +kernel
theorem dL_all_69 : decode cL_all 69 = .ok (.ladd, 1) := by decide +kernel
theorem dL_all_70 : decode cL_all 70 = .ok (.ldc2_w 98, 3) := by decide +kernel
theorem dL_all_73 : decode cL_all 73 = .ok (.aload_n 0, 1) := by decide +kernel
theorem dL_all_74 : decode cL_all 74 = .ok (.iload_n 3, 1) := by decide +kernel
theorem dL_all_75 : decode cL_all 75 = .ok (.invokevirtual 32, 3) := by decide +kernel
theorem dL_all_78 : decode cL_all 78 = .ok (.i2l, 1) := by decide +kernel
theorem dL_all_79 : decode cL_all 79 = .ok (.lmul, 1) := by decide +kernel
theorem dL_all_80 : decode cL_all 80 = .ok (.ladd, 1) := by decide +kernel
theorem dL_all_81 : decode cL_all 81 = .ok (.lstore_n 1, 1) := by decide +kernel
theorem dL_all_82 : decode cL_all 82 = .ok (.iinc 3 1, 3) := by decide +kernel
theorem dL_all_85 : decode cL_all 85 = .ok (.goto (-57), 3) := by decide +kernel
theorem dL_all_88 : decode cL_all 88 = .ok (.iconst 0, 1) := by decide +kernel
theorem dL_all_89 : decode cL_all 89 = .ok (.istore_n 3, 1) := by decide +kernel
theorem dL_all_90 : decode cL_all 90 = .ok (.iload_n 3, 1) := by decide +kernel
theorem dL_all_91 : decode cL_all 91 = .ok (.aload_n 0, 1) := by decide +kernel
theorem dL_all_92 : decode cL_all 92 = .ok (.invokevirtual 100, 3) := by decide +kernel
theorem dL_all_95 : decode cL_all 95 = .ok (.if_icmp .ge 66, 3) := by decide +kernel
theorem dL_all_98 : decode cL_all 98 = .ok (.ldc2_w 92, 3) := by decide +kernel
theorem dL_all_101 : decode cL_all 101 = .ok (.lload_n 1, 1) := by decide +kernel
theorem dL_all_102 : decode cL_all 102 = .ok (.lmul, 1) := by decide +kernel
theorem dL_all_103 : decode cL_all 103 = .ok (.aload_n 0, 1) := by decide +kernel
theorem dL_all_104 : decode cL_all 104 = .ok (.iload_n 3, 1) := by decide +kernel
theorem dL_all_105 : decode cL_all 105 = .ok (.invokevirtual 38, 3) := by decide +kernel
theorem dL_all_108 : decode cL_all 108 = .ok (.i2l, 1) := by decide +kernel
theorem dL_all_109 : decode cL_all 109 = .ok (.ladd, 1) := by decide +kernel
theorem dL_all_110 : decode cL_all 110 = .ok (.ldc2_w 103, 3) := by decide +kernel
theorem dL_all_113 : decode cL_all 113 = .ok (.aload_n 0, 1) := by decide +kernel
theorem dL_all_114 : decode cL_all 114 = .ok (.iload_n 3, 1) := by decide +kernel
theorem dL_all_115 : decode cL_all 115 = .ok (.invokevirtual 41, 3) := by decide +kernel
theorem dL_all_118 : decode cL_all 118 = .ok (.i2l, 1) := by decide +kernel
theorem dL_all_119 : decode cL_all 119 = .ok (.lmul, 1) := by decide +kernel
theorem dL_all_120 : decode cL_all 120 = .ok (.ladd, 1) := by decide +kernel
theorem dL_all_121 : decode cL_all 121 = .ok (.ldc2_w 105, 3) := by decide +kernel
theorem dL_all_124 : decode cL_all 124 = .ok (.aload_n 0, 1) := by decide +kernel
theorem dL_all_125 : decode cL_all 125 = .ok (.iload_n 3, 1) := by decide +kernel
theorem dL_all_126 : decode cL_all 126 = .ok (.invokevirtual 44, 3) := by decide +kernel
theorem dL_all_129 : decode cL_all 129 = .ok (.i2l, 1) := by decide +kernel
theorem dL_all_130 : decode cL_all 130 = .ok (.lmul, 1) := by decide +kernel
theorem dL_all_131 : decode cL_all 131 = .ok (.ladd, 1) := by decide +kernel
theorem dL_all_132 : decode cL_all 132 = .ok (.ldc2_w 107, 3) := by decide +kernel
theorem dL_all_135 : decode cL_all 135 = .ok (.aload_n 0, 1) := by decide +kernel
theorem dL_all_136 : decode cL_all 136 = .ok (.iload_n 3, 1) := by decide +kernel
theorem dL_all_137 : decode cL_all 137 = .ok (.invokevirtual 47, 3) := by decide +kernel
theorem dL_all_140 : decode cL_all 140 = .ok (.i2l, 1) := by decide +kernel
theorem dL_all_141 : decode cL_all 141 = .ok (.lmul, 1) := by decide +kernel
theorem dL_all_142 : decode cL_all 142 = .ok (.ladd, 1) := by decide +kernel
theorem dL_all_143 : decode cL_all 143 = .ok (.ldc2_w 109, 3) := by decide +kernel
theorem dL_all_146 : decode cL_all 146 = .ok (.aload_n 0, 1) := by decide +kernel
theorem dL_all_147 : decode cL_all 147 = .ok (.iload_n 3, 1) := by decide +kernel
theorem dL_all_148 : decode cL_all 148 = .ok (.invokevirtual 50, 3) := by decide +kernel
theorem dL_all_151 : decode cL_all 151 = .ok (.i2l, 1) := by decide +kernel
theorem dL_all_152 : decode cL_all 152 = .ok (.lmul, 1) := by decide +kernel
theorem dL_all_153 : decode cL_all 153 = .ok (.ladd, 1) := by decide +kernel
theorem dL_all_154 : decode cL_all 154 = .ok (.lstore_n 1, 1) := by decide +kernel
theorem dL_all_155 : decode cL_all 155 = .ok (.iinc 3 1, 3) := by decide +kernel
theorem dL_all_158 : decode cL_all 158 = .ok (.goto (-68), 3) := by decide +kernel
theorem dL_all_161 : decode cL_all 161 = .ok (.lload_n 1, 1) := by decide +kernel
theorem dL_all_162 : decode cL_all 162 = .ok (.lreturn, 1) := by decide +kernel
def wL_all : List Cond := Cond.code yL_all cL_all 4 (some .long) :: WA
def f_L_all_L90 (F : Nat) (S : CS) (D : CD) : Nat → Nat → Int64 → Int32 → Option Int64
  | 0, _, _, _ => none
  | n90 + 1, x0, x1, x3 => ckK S x0 6 <| cal (f_X6_edges F S D x0) fun t3 => (if t3 ≤ x3 then some x1 else cal (f_X6_segmentOf F S D x0 x3) fun t6 => cal (f_X6_from F S D x0 x3) fun t8 => cal (f_X6_to F S D x0 x3) fun t10 => cal (f_X6_leftOf F S D x0 x3) fun t12 => cal (f_X6_rightOf F S D x0 x3) fun t14 => (f_L_all_L90 F S D n90) x0 ((((((1000003 * x1) + t6.toInt64) + (17 * t8.toInt64)) + (257 * t10.toInt64)) + (4099 * t12.toInt64)) + (65537 * t14.toInt64)) (x3 + 1))
def f_L_all_L28 (F : Nat) (S : CS) (D : CD) : Nat → Nat → Int64 → Int32 → Option Int64
  | 0, _, _, _ => none
  | n28 + 1, x0, x1, x3 => ckK S x0 6 <| cal (f_X6_vertices F S D x0) fun t3 => (if t3 ≤ x3 then f_L_all_L90 F S D F x0 x1 0 else cal (f_X6_xNumerator F S D x0 x3) fun t6 => cal (f_X6_xDenominator F S D x0 x3) fun t8 => cal (f_X6_yNumerator F S D x0 x3) fun t10 => cal (f_X6_yDenominator F S D x0 x3) fun t12 => (f_L_all_L28 F S D n28) x0 (((((1000003 * x1) + t6.toInt64) + (101 * t8.toInt64)) + (10007 * t10.toInt64)) + (3 * t12.toInt64)) (x3 + 1))
def f_L_all (F : Nat) (S : CS) (D : CD) (a1 : Nat) : Option Int64 := ckK S a1 6 <| cal (f_X6_segments F S D a1) fun t3 => cal (f_X6_faces F S D a1) fun t5 => cal (f_X6_components F S D a1) fun t7 => f_L_all_L28 F S D F a1 ((t3.toInt64 + (31 * t5.toInt64)) + (7 * t7.toInt64)) 0
set_option maxRecDepth 100000 in
set_option maxHeartbeats 4000000 in
theorem m_L_all (l : Launch) (G : cG) (F : Nat) (S : CS) (D : CD) (a1 : Nat) (r : Int64) (h : f_L_all F S D a1 = some r) : cML l yL_all wL_all ({ frames := 2, cells := 0, slots := 0, locals := 42 }) G S [.ref a1] D D r := by
  refine cBodyL (cc := cL_all) (maxL := 4) (ret := (some .long)) (own := RL) (by decide) rfl rfl ?_
  intro sz p e s m below meth c hC hP
  skip
  have hC0 := hC
  obtain ⟨hx, hb, -, hts, hown, -, hml, -, -, -⟩ := hC0
  have hS : va_S (cA G S sz) s.heap s.heap [] := va_S.rf
  have L90 : ∀ (n90 : Nat) (H : Heap) (locs : List Loc) (ls : Array Slot) (x0 : Nat) (x1 : Int64) (x3 : Int32), va_P G.1 vwCl (cW G S D) H → va_S (cA G S sz) s.heap H locs → lv_has ls 4 [(0, .ref x0), (1, .long x1), (3, .int x3)] → f_L_all_L90 F S D n90 x0 x1 x3 = some r → W p l e (headSpec wL_all ({ frames := 2, cells := 0, slots := 0, locals := 42 })).room s m ([.ref a1] : List Value).toArray below meth c H locs 0 0 (cQL below G S D sz ([.ref a1] : List Value).toArray s r) (F0 m 90 ls []) := by
    intro n90
    induction n90 with
    | zero =>
      intro H locs ls x0 x1 x3 hP hS hl h
      rw [f_L_all_L90] at h; cases h
    | succ n90 ih90 =>
      intro H locs ls x0 x1 x3 hP hS hl h
      rw [f_L_all_L90] at h
      refine lv_iload_n hx hb dL_all_90 rfl (lv_at hl 2 rfl) ?_
      refine lv_aload_n hx hb dL_all_91 rfl (lv_at hl 0 rfl) ?_
      obtain ⟨z1, h⟩ := ckK_el h
      obtain ⟨t3, e2, h⟩ := cal_el h
      refine c_VI (As := []) (rest := [.int x3]) hC hP hS z1.1 (cE_6 z1.2) (C := RX6) (T := TX6) (N := 8) rfl (m_X6_edges l G F S D x0 t3 e2) (cwV 0 hts (gVA wa_226 wa_227 wa_228 (hWCA _ wc_66) (hWCA _ wc_75) hWCA) rfl rfl rfl (by decide +kernel) ⟨Nat.le_of_ble_eq_true rfl, Nat.le_of_ble_eq_true rfl⟩) rfl hl.1 rfl (Nat.le_of_ble_eq_true rfl) dL_all_92 (fun H locs hP hS => ?_)
      refine lv_icmp_ge (tgt := 161) hx hb dL_all_95 (by decide) (fun u4 => ?_) (fun u4 => ?_)
      · have h := ite_t u4 h
        refine lv_lload_n hx hb dL_all_161 rfl (lv_at hl 1 rfl) ?_
        cases h
        exact c_lret hC hP hS rfl dL_all_162
      · have h := ite_f u4 h
        refine lv_ldc2 (v := 1000003) hx hb hown (hts _ (List.mem_cons_of_mem _ wa_206)) dL_all_98 ?_
        refine lv_lload_n hx hb dL_all_101 rfl (lv_at hl 1 rfl) ?_
        refine lv_lmul hx hb dL_all_102 ?_
        refine lv_aload_n hx hb dL_all_103 rfl (lv_at hl 0 rfl) ?_
        refine lv_iload_n hx hb dL_all_104 rfl (lv_at hl 2 rfl) ?_
        obtain ⟨t6, e5, h⟩ := cal_el h
        refine c_VI (As := [.int x3]) (rest := [.long (1000003 * x1)]) hC hP hS z1.1 (cE_6 z1.2) (C := RX6) (T := TX6) (N := 8) rfl (m_X6_segmentOf l G F S D x0 x3 t6 e5) (cwV 1 hts (gVA wa_167 wa_168 wa_169 (hWCA _ wc_66) (hWCA _ wc_104) hWCA) rfl rfl rfl (by decide +kernel) ⟨Nat.le_of_ble_eq_true rfl, Nat.le_of_ble_eq_true rfl⟩) rfl hl.1 rfl (Nat.le_of_ble_eq_true rfl) dL_all_105 (fun H locs hP hS => ?_)
        refine lv_i2l (v := t6.toInt64) hx hb dL_all_108 rfl ?_
        refine lv_ladd hx hb dL_all_109 ?_
        refine lv_ldc2 (v := 17) hx hb hown (hts _ (List.mem_cons_of_mem _ wa_210)) dL_all_110 ?_
        refine lv_aload_n hx hb dL_all_113 rfl (lv_at hl 0 rfl) ?_
        refine lv_iload_n hx hb dL_all_114 rfl (lv_at hl 2 rfl) ?_
        obtain ⟨t8, e7, h⟩ := cal_el h
        refine c_VI (As := [.int x3]) (rest := [.long 17, .long ((1000003 * x1) + t6.toInt64)]) hC hP hS z1.1 (cE_6 z1.2) (C := RX6) (T := TX6) (N := 8) rfl (m_X6_from l G F S D x0 x3 t8 e7) (cwV 1 hts (gVA wa_170 wa_171 wa_172 (hWCA _ wc_66) (hWCA _ wc_108) hWCA) rfl rfl rfl (by decide +kernel) ⟨Nat.le_of_ble_eq_true rfl, Nat.le_of_ble_eq_true rfl⟩) rfl hl.1 rfl (Nat.le_of_ble_eq_true rfl) dL_all_115 (fun H locs hP hS => ?_)
        refine lv_i2l (v := t8.toInt64) hx hb dL_all_118 rfl ?_
        refine lv_lmul hx hb dL_all_119 ?_
        refine lv_ladd hx hb dL_all_120 ?_
        refine lv_ldc2 (v := 257) hx hb hown (hts _ (List.mem_cons_of_mem _ wa_211)) dL_all_121 ?_
        refine lv_aload_n hx hb dL_all_124 rfl (lv_at hl 0 rfl) ?_
        refine lv_iload_n hx hb dL_all_125 rfl (lv_at hl 2 rfl) ?_
        obtain ⟨t10, e9, h⟩ := cal_el h
        refine c_VI (As := [.int x3]) (rest := [.long 257, .long (((1000003 * x1) + t6.toInt64) + (17 * t8.toInt64))]) hC hP hS z1.1 (cE_6 z1.2) (C := RX6) (T := TX6) (N := 8) rfl (m_X6_to l G F S D x0 x3 t10 e9) (cwV 1 hts (gVA wa_173 wa_174 wa_175 (hWCA _ wc_66) (hWCA _ wc_109) hWCA) rfl rfl rfl (by decide +kernel) ⟨Nat.le_of_ble_eq_true rfl, Nat.le_of_ble_eq_true rfl⟩) rfl hl.1 rfl (Nat.le_of_ble_eq_true rfl) dL_all_126 (fun H locs hP hS => ?_)
        refine lv_i2l (v := t10.toInt64) hx hb dL_all_129 rfl ?_
        refine lv_lmul hx hb dL_all_130 ?_
        refine lv_ladd hx hb dL_all_131 ?_
        refine lv_ldc2 (v := 4099) hx hb hown (hts _ (List.mem_cons_of_mem _ wa_212)) dL_all_132 ?_
        refine lv_aload_n hx hb dL_all_135 rfl (lv_at hl 0 rfl) ?_
        refine lv_iload_n hx hb dL_all_136 rfl (lv_at hl 2 rfl) ?_
        obtain ⟨t12, e11, h⟩ := cal_el h
        refine c_VI (As := [.int x3]) (rest := [.long 4099, .long ((((1000003 * x1) + t6.toInt64) + (17 * t8.toInt64)) + (257 * t10.toInt64))]) hC hP hS z1.1 (cE_6 z1.2) (C := RX6) (T := TX6) (N := 8) rfl (m_X6_leftOf l G F S D x0 x3 t12 e11) (cwV 1 hts (gVA wa_176 wa_177 wa_178 (hWCA _ wc_66) (hWCA _ wc_110) hWCA) rfl rfl rfl (by decide +kernel) ⟨Nat.le_of_ble_eq_true rfl, Nat.le_of_ble_eq_true rfl⟩) rfl hl.1 rfl (Nat.le_of_ble_eq_true rfl) dL_all_137 (fun H locs hP hS => ?_)
        refine lv_i2l (v := t12.toInt64) hx hb dL_all_140 rfl ?_
        refine lv_lmul hx hb dL_all_141 ?_
        refine lv_ladd hx hb dL_all_142 ?_
        refine lv_ldc2 (v := 65537) hx hb hown (hts _ (List.mem_cons_of_mem _ wa_213)) dL_all_143 ?_
        refine lv_aload_n hx hb dL_all_146 rfl (lv_at hl 0 rfl) ?_
        refine lv_iload_n hx hb dL_all_147 rfl (lv_at hl 2 rfl) ?_
        obtain ⟨t14, e13, h⟩ := cal_el h
        refine c_VI (As := [.int x3]) (rest := [.long 65537, .long (((((1000003 * x1) + t6.toInt64) + (17 * t8.toInt64)) + (257 * t10.toInt64)) + (4099 * t12.toInt64))]) hC hP hS z1.1 (cE_6 z1.2) (C := RX6) (T := TX6) (N := 8) rfl (m_X6_rightOf l G F S D x0 x3 t14 e13) (cwV 1 hts (gVA wa_179 wa_180 wa_181 (hWCA _ wc_66) (hWCA _ wc_111) hWCA) rfl rfl rfl (by decide +kernel) ⟨Nat.le_of_ble_eq_true rfl, Nat.le_of_ble_eq_true rfl⟩) rfl hl.1 rfl (Nat.le_of_ble_eq_true rfl) dL_all_148 (fun H locs hP hS => ?_)
        refine lv_i2l (v := t14.toInt64) hx hb dL_all_151 rfl ?_
        refine lv_lmul hx hb dL_all_152 ?_
        refine lv_ladd hx hb dL_all_153 ?_
        refine lv_lstore_n (lv' := [(1, .long ((((((1000003 * x1) + t6.toInt64) + (17 * t8.toInt64)) + (257 * t10.toInt64)) + (4099 * t12.toInt64)) + (65537 * t14.toInt64))), (0, .ref x0), (3, .int x3)]) hx hb dL_all_154 rfl hl (by decide) rfl (fun ls hl => ?_)
        refine lv_iinc (v := x3 + 1) (lv' := [(3, .int (x3 + 1)), (1, .long ((((((1000003 * x1) + t6.toInt64) + (17 * t8.toInt64)) + (257 * t10.toInt64)) + (4099 * t12.toInt64)) + (65537 * t14.toInt64))), (0, .ref x0)]) hx hb dL_all_155 hl (k := 2) rfl rfl (by decide) rfl (fun ls hl => ?_)
        refine lv_goto (tgt := 90) hx hb dL_all_158 (by decide) ?_
        exact ih90 _ _ _ x0 ((((((1000003 * x1) + t6.toInt64) + (17 * t8.toInt64)) + (257 * t10.toInt64)) + (4099 * t12.toInt64)) + (65537 * t14.toInt64)) (x3 + 1) hP hS (lv_sub hl [2, 1, 0] rfl) h
  have L28 : ∀ (n28 : Nat) (H : Heap) (locs : List Loc) (ls : Array Slot) (x0 : Nat) (x1 : Int64) (x3 : Int32), va_P G.1 vwCl (cW G S D) H → va_S (cA G S sz) s.heap H locs → lv_has ls 4 [(0, .ref x0), (1, .long x1), (3, .int x3)] → f_L_all_L28 F S D n28 x0 x1 x3 = some r → W p l e (headSpec wL_all ({ frames := 2, cells := 0, slots := 0, locals := 42 })).room s m ([.ref a1] : List Value).toArray below meth c H locs 0 0 (cQL below G S D sz ([.ref a1] : List Value).toArray s r) (F0 m 28 ls []) := by
    intro n28
    induction n28 with
    | zero =>
      intro H locs ls x0 x1 x3 hP hS hl h
      rw [f_L_all_L28] at h; cases h
    | succ n28 ih28 =>
      intro H locs ls x0 x1 x3 hP hS hl h
      rw [f_L_all_L28] at h
      refine lv_iload_n hx hb dL_all_28 rfl (lv_at hl 2 rfl) ?_
      refine lv_aload_n hx hb dL_all_29 rfl (lv_at hl 0 rfl) ?_
      obtain ⟨z1, h⟩ := ckK_el h
      obtain ⟨t3, e2, h⟩ := cal_el h
      refine c_VI (As := []) (rest := [.int x3]) hC hP hS z1.1 (cE_6 z1.2) (C := RX6) (T := TX6) (N := 8) rfl (m_X6_vertices l G F S D x0 t3 e2) (cwV 0 hts (gVA wa_223 wa_224 wa_225 (hWCA _ wc_66) (hWCA _ wc_73) hWCA) rfl rfl rfl (by decide +kernel) ⟨Nat.le_of_ble_eq_true rfl, Nat.le_of_ble_eq_true rfl⟩) rfl hl.1 rfl (Nat.le_of_ble_eq_true rfl) dL_all_30 (fun H locs hP hS => ?_)
      refine lv_icmp_ge (tgt := 88) hx hb dL_all_33 (by decide) (fun u4 => ?_) (fun u4 => ?_)
      · have h := ite_t u4 h
        refine lv_iconst (v := 0) hx hb dL_all_88 (by decide) ?_
        refine lv_istore_n (lv' := [(3, .int 0), (0, .ref x0), (1, .long x1)]) hx hb dL_all_89 rfl hl (by decide) rfl (fun ls hl => ?_)
        exact L90 F _ _ _ x0 x1 0 hP hS (lv_sub hl [1, 2, 0] rfl) h
      · have h := ite_f u4 h
        refine lv_ldc2 (v := 1000003) hx hb hown (hts _ (List.mem_cons_of_mem _ wa_206)) dL_all_36 ?_
        refine lv_lload_n hx hb dL_all_39 rfl (lv_at hl 1 rfl) ?_
        refine lv_lmul hx hb dL_all_40 ?_
        refine lv_aload_n hx hb dL_all_41 rfl (lv_at hl 0 rfl) ?_
        refine lv_iload_n hx hb dL_all_42 rfl (lv_at hl 2 rfl) ?_
        obtain ⟨t6, e5, h⟩ := cal_el h
        refine c_VI (As := [.int x3]) (rest := [.long (1000003 * x1)]) hC hP hS z1.1 (cE_6 z1.2) (C := RX6) (T := TX6) (N := 8) rfl (m_X6_xNumerator l G F S D x0 x3 t6 e5) (cwV 1 hts (gVA wa_152 wa_153 wa_154 (hWCA _ wc_66) (hWCA _ wc_85) hWCA) rfl rfl rfl (by decide +kernel) ⟨Nat.le_of_ble_eq_true rfl, Nat.le_of_ble_eq_true rfl⟩) rfl hl.1 rfl (Nat.le_of_ble_eq_true rfl) dL_all_43 (fun H locs hP hS => ?_)
        refine lv_i2l (v := t6.toInt64) hx hb dL_all_46 rfl ?_
        refine lv_ladd hx hb dL_all_47 ?_
        refine lv_ldc2 (v := 101) hx hb hown (hts _ (List.mem_cons_of_mem _ wa_207)) dL_all_48 ?_
        refine lv_aload_n hx hb dL_all_51 rfl (lv_at hl 0 rfl) ?_
        refine lv_iload_n hx hb dL_all_52 rfl (lv_at hl 2 rfl) ?_
        obtain ⟨t8, e7, h⟩ := cal_el h
        refine c_VI (As := [.int x3]) (rest := [.long 101, .long ((1000003 * x1) + t6.toInt64)]) hC hP hS z1.1 (cE_6 z1.2) (C := RX6) (T := TX6) (N := 8) rfl (m_X6_xDenominator l G F S D x0 x3 t8 e7) (cwV 1 hts (gVA wa_155 wa_156 wa_157 (hWCA _ wc_66) (hWCA _ wc_93) hWCA) rfl rfl rfl (by decide +kernel) ⟨Nat.le_of_ble_eq_true rfl, Nat.le_of_ble_eq_true rfl⟩) rfl hl.1 rfl (Nat.le_of_ble_eq_true rfl) dL_all_53 (fun H locs hP hS => ?_)
        refine lv_i2l (v := t8.toInt64) hx hb dL_all_56 rfl ?_
        refine lv_lmul hx hb dL_all_57 ?_
        refine lv_ladd hx hb dL_all_58 ?_
        refine lv_ldc2 (v := 10007) hx hb hown (hts _ (List.mem_cons_of_mem _ wa_208)) dL_all_59 ?_
        refine lv_aload_n hx hb dL_all_62 rfl (lv_at hl 0 rfl) ?_
        refine lv_iload_n hx hb dL_all_63 rfl (lv_at hl 2 rfl) ?_
        obtain ⟨t10, e9, h⟩ := cal_el h
        refine c_VI (As := [.int x3]) (rest := [.long 10007, .long (((1000003 * x1) + t6.toInt64) + (101 * t8.toInt64))]) hC hP hS z1.1 (cE_6 z1.2) (C := RX6) (T := TX6) (N := 8) rfl (m_X6_yNumerator l G F S D x0 x3 t10 e9) (cwV 1 hts (gVA wa_158 wa_159 wa_160 (hWCA _ wc_66) (hWCA _ wc_94) hWCA) rfl rfl rfl (by decide +kernel) ⟨Nat.le_of_ble_eq_true rfl, Nat.le_of_ble_eq_true rfl⟩) rfl hl.1 rfl (Nat.le_of_ble_eq_true rfl) dL_all_64 (fun H locs hP hS => ?_)
        refine lv_i2l (v := t10.toInt64) hx hb dL_all_67 rfl ?_
        refine lv_lmul hx hb dL_all_68 ?_
        refine lv_ladd hx hb dL_all_69 ?_
        refine lv_ldc2 (v := 3) hx hb hown (hts _ (List.mem_cons_of_mem _ wa_209)) dL_all_70 ?_
        refine lv_aload_n hx hb dL_all_73 rfl (lv_at hl 0 rfl) ?_
        refine lv_iload_n hx hb dL_all_74 rfl (lv_at hl 2 rfl) ?_
        obtain ⟨t12, e11, h⟩ := cal_el h
        refine c_VI (As := [.int x3]) (rest := [.long 3, .long ((((1000003 * x1) + t6.toInt64) + (101 * t8.toInt64)) + (10007 * t10.toInt64))]) hC hP hS z1.1 (cE_6 z1.2) (C := RX6) (T := TX6) (N := 8) rfl (m_X6_yDenominator l G F S D x0 x3 t12 e11) (cwV 1 hts (gVA wa_161 wa_162 wa_163 (hWCA _ wc_66) (hWCA _ wc_95) hWCA) rfl rfl rfl (by decide +kernel) ⟨Nat.le_of_ble_eq_true rfl, Nat.le_of_ble_eq_true rfl⟩) rfl hl.1 rfl (Nat.le_of_ble_eq_true rfl) dL_all_75 (fun H locs hP hS => ?_)
        refine lv_i2l (v := t12.toInt64) hx hb dL_all_78 rfl ?_
        refine lv_lmul hx hb dL_all_79 ?_
        refine lv_ladd hx hb dL_all_80 ?_
        refine lv_lstore_n (lv' := [(1, .long (((((1000003 * x1) + t6.toInt64) + (101 * t8.toInt64)) + (10007 * t10.toInt64)) + (3 * t12.toInt64))), (0, .ref x0), (3, .int x3)]) hx hb dL_all_81 rfl hl (by decide) rfl (fun ls hl => ?_)
        refine lv_iinc (v := x3 + 1) (lv' := [(3, .int (x3 + 1)), (1, .long (((((1000003 * x1) + t6.toInt64) + (101 * t8.toInt64)) + (10007 * t10.toInt64)) + (3 * t12.toInt64))), (0, .ref x0)]) hx hb dL_all_82 hl (k := 2) rfl rfl (by decide) rfl (fun ls hl => ?_)
        refine lv_goto (tgt := 28) hx hb dL_all_85 (by decide) ?_
        exact ih28 _ _ _ x0 (((((1000003 * x1) + t6.toInt64) + (101 * t8.toInt64)) + (10007 * t10.toInt64)) + (3 * t12.toInt64)) (x3 + 1) hP hS (lv_sub hl [2, 1, 0] rfl) h
  refine m_entry (Nat.le_of_ble_eq_true rfl) (fun ls hl => ?_)
  have hl : lv_has ls 4 [(0, .ref a1)] := hl
  unfold f_L_all at h
  refine lv_aload_n hx hb dL_all_0 rfl (lv_at hl 0 rfl) ?_
  obtain ⟨z1, h⟩ := ckK_el h
  obtain ⟨t3, e2, h⟩ := cal_el h
  refine c_VI (As := []) (rest := []) hC hP hS z1.1 (cE_6 z1.2) (C := RX6) (T := TX6) (N := 8) rfl (m_X6_segments l G F S D a1 t3 e2) (cwV 0 hts (gVA wa_214 wa_215 wa_216 (hWCA _ wc_66) (hWCA _ wc_2) hWCA) rfl rfl rfl (by decide +kernel) ⟨Nat.le_of_ble_eq_true rfl, Nat.le_of_ble_eq_true rfl⟩) rfl hl.1 rfl (Nat.le_of_ble_eq_true rfl) dL_all_1 (fun H locs hP hS => ?_)
  refine lv_i2l (v := t3.toInt64) hx hb dL_all_4 rfl ?_
  refine lv_ldc2 (v := 31) hx hb hown (hts _ (List.mem_cons_of_mem _ wa_204)) dL_all_5 ?_
  refine lv_aload_n hx hb dL_all_8 rfl (lv_at hl 0 rfl) ?_
  obtain ⟨t5, e4, h⟩ := cal_el h
  refine c_VI (As := []) (rest := [.long 31, .long t3.toInt64]) hC hP hS z1.1 (cE_6 z1.2) (C := RX6) (T := TX6) (N := 8) rfl (m_X6_faces l G F S D a1 t5 e4) (cwV 0 hts (gVA wa_217 wa_218 wa_219 (hWCA _ wc_66) (hWCA _ wc_77) hWCA) rfl rfl rfl (by decide +kernel) ⟨Nat.le_of_ble_eq_true rfl, Nat.le_of_ble_eq_true rfl⟩) rfl hl.1 rfl (Nat.le_of_ble_eq_true rfl) dL_all_9 (fun H locs hP hS => ?_)
  refine lv_i2l (v := t5.toInt64) hx hb dL_all_12 rfl ?_
  refine lv_lmul hx hb dL_all_13 ?_
  refine lv_ladd hx hb dL_all_14 ?_
  refine lv_ldc2 (v := 7) hx hb hown (hts _ (List.mem_cons_of_mem _ wa_205)) dL_all_15 ?_
  refine lv_aload_n hx hb dL_all_18 rfl (lv_at hl 0 rfl) ?_
  obtain ⟨t7, e6, h⟩ := cal_el h
  refine c_VI (As := []) (rest := [.long 7, .long (t3.toInt64 + (31 * t5.toInt64))]) hC hP hS z1.1 (cE_6 z1.2) (C := RX6) (T := TX6) (N := 8) rfl (m_X6_components l G F S D a1 t7 e6) (cwV 0 hts (gVA wa_220 wa_221 wa_222 (hWCA _ wc_66) (hWCA _ wc_79) hWCA) rfl rfl rfl (by decide +kernel) ⟨Nat.le_of_ble_eq_true rfl, Nat.le_of_ble_eq_true rfl⟩) rfl hl.1 rfl (Nat.le_of_ble_eq_true rfl) dL_all_19 (fun H locs hP hS => ?_)
  refine lv_i2l (v := t7.toInt64) hx hb dL_all_22 rfl ?_
  refine lv_lmul hx hb dL_all_23 ?_
  refine lv_ladd hx hb dL_all_24 ?_
  refine lv_lstore_n (lv' := [(1, .long ((t3.toInt64 + (31 * t5.toInt64)) + (7 * t7.toInt64))), (0, .ref a1)]) hx hb dL_all_25 rfl hl (by decide) rfl (fun ls hl => ?_)
  refine lv_iconst (v := 0) hx hb dL_all_26 (by decide) ?_
  refine lv_istore_n (lv' := [(3, .int 0), (1, .long ((t3.toInt64 + (31 * t5.toInt64)) + (7 * t7.toInt64))), (0, .ref a1)]) hx hb dL_all_27 rfl hl (by decide) rfl (fun ls hl => ?_)
  exact L28 F _ _ _ a1 ((t3.toInt64 + (31 * t5.toInt64)) + (7 * t7.toInt64)) 0 hP hS (lv_sub hl [2, 1, 0] rfl) h

theorem dL_areMeeting_0 : decode cL_areMeeting 0 = .ok (.iload_n 3, 1) := by decide +kernel
theorem dL_areMeeting_1 : decode cL_areMeeting 1 = .ok (.iload 4, 2) := by decide +kernel
theorem dL_areMeeting_3 : decode cL_areMeeting 3 = .ok (.if_icmp .ne 7, 3) := by decide +kernel
theorem dL_areMeeting_6 : decode cL_areMeeting 6 = .ok (.iconst 1, 1) := by decide +kernel
theorem dL_areMeeting_7 : decode cL_areMeeting 7 = .ok (.goto 4, 3) := by decide +kernel
theorem dL_areMeeting_10 : decode cL_areMeeting 10 = .ok (.iconst 0, 1) := by decide +kernel
theorem dL_areMeeting_11 : decode cL_areMeeting 11 = .ok (.istore 5, 2) := by decide +kernel
theorem dL_areMeeting_13 : decode cL_areMeeting 13 = .ok (.iconst 0, 1) := by decide +kernel
theorem dL_areMeeting_14 : decode cL_areMeeting 14 = .ok (.istore 6, 2) := by decide +kernel
theorem dL_areMeeting_16 : decode cL_areMeeting 16 = .ok (.iload 6, 2) := by decide +kernel
theorem dL_areMeeting_18 : decode cL_areMeeting 18 = .ok (.aload_n 0, 1) := by decide +kernel
theorem dL_areMeeting_19 : decode cL_areMeeting 19 = .ok (.invokevirtual 89, 3) := by decide +kernel
theorem dL_areMeeting_22 : decode cL_areMeeting 22 = .ok (.if_icmp .ge 44, 3) := by decide +kernel
theorem dL_areMeeting_25 : decode cL_areMeeting 25 = .ok (.iload 5, 2) := by decide +kernel
theorem dL_areMeeting_27 : decode cL_areMeeting 27 = .ok (.ifCond .ne 26, 3) := by decide +kernel
theorem dL_areMeeting_30 : decode cL_areMeeting 30 = .ok (.aload_n 0, 1) := by decide +kernel
theorem dL_areMeeting_31 : decode cL_areMeeting 31 = .ok (.aload_n 1, 1) := by decide +kernel
theorem dL_areMeeting_32 : decode cL_areMeeting 32 = .ok (.iload_n 3, 1) := by decide +kernel
theorem dL_areMeeting_33 : decode cL_areMeeting 33 = .ok (.iload 6, 2) := by decide +kernel
theorem dL_areMeeting_35 : decode cL_areMeeting 35 = .ok (.invokestatic 124, 3) := by decide +kernel
theorem dL_areMeeting_38 : decode cL_areMeeting 38 = .ok (.ifCond .eq 19, 3) := by decide +kernel
theorem dL_areMeeting_41 : decode cL_areMeeting 41 = .ok (.aload_n 0, 1) := by decide +kernel
theorem dL_areMeeting_42 : decode cL_areMeeting 42 = .ok (.aload_n 1, 1) := by decide +kernel
theorem dL_areMeeting_43 : decode cL_areMeeting 43 = .ok (.iload 4, 2) := by decide +kernel
theorem dL_areMeeting_45 : decode cL_areMeeting 45 = .ok (.iload 6, 2) := by decide +kernel
theorem dL_areMeeting_47 : decode cL_areMeeting 47 = .ok (.invokestatic 124, 3) := by decide +kernel
theorem dL_areMeeting_50 : decode cL_areMeeting 50 = .ok (.ifCond .eq 7, 3) := by decide +kernel
theorem dL_areMeeting_53 : decode cL_areMeeting 53 = .ok (.iconst 1, 1) := by decide +kernel
theorem dL_areMeeting_54 : decode cL_areMeeting 54 = .ok (.goto 4, 3) := by decide +kernel
theorem dL_areMeeting_57 : decode cL_areMeeting 57 = .ok (.iconst 0, 1) := by decide +kernel
theorem dL_areMeeting_58 : decode cL_areMeeting 58 = .ok (.istore 5, 2) := by decide +kernel
theorem dL_areMeeting_60 : decode cL_areMeeting 60 = .ok (.iinc 6 1, 3) := by decide +kernel
theorem dL_areMeeting_63 : decode cL_areMeeting 63 = .ok (.goto (-47), 3) := by decide +kernel
theorem dL_areMeeting_66 : decode cL_areMeeting 66 = .ok (.aload_n 0, 1) := by decide +kernel
theorem dL_areMeeting_67 : decode cL_areMeeting 67 = .ok (.iload_n 3, 1) := by decide +kernel
theorem dL_areMeeting_68 : decode cL_areMeeting 68 = .ok (.iload 4, 2) := by decide +kernel
theorem dL_areMeeting_70 : decode cL_areMeeting 70 = .ok (.invokevirtual 71, 3) := by decide +kernel
theorem dL_areMeeting_73 : decode cL_areMeeting 73 = .ok (.iload 5, 2) := by decide +kernel
theorem dL_areMeeting_75 : decode cL_areMeeting 75 = .ok (.if_icmp .ne 35, 3) := by decide +kernel
theorem dL_areMeeting_78 : decode cL_areMeeting 78 = .ok (.aload_n 0, 1) := by decide +kernel
theorem dL_areMeeting_79 : decode cL_areMeeting 79 = .ok (.iload 4, 2) := by decide +kernel
theorem dL_areMeeting_81 : decode cL_areMeeting 81 = .ok (.iload_n 3, 1) := by decide +kernel
theorem dL_areMeeting_82 : decode cL_areMeeting 82 = .ok (.invokevirtual 71, 3) := by decide +kernel
theorem dL_areMeeting_85 : decode cL_areMeeting 85 = .ok (.iload 5, 2) := by decide +kernel
theorem dL_areMeeting_87 : decode cL_areMeeting 87 = .ok (.if_icmp .ne 23, 3) := by decide +kernel
theorem dL_areMeeting_90 : decode cL_areMeeting 90 = .ok (.iload_n 3, 1) := by decide +kernel
theorem dL_areMeeting_91 : decode cL_areMeeting 91 = .ok (.iload 4, 2) := by decide +kernel
theorem dL_areMeeting_93 : decode cL_areMeeting 93 = .ok (.if_icmp .eq 13, 3) := by decide +kernel
theorem dL_areMeeting_96 : decode cL_areMeeting 96 = .ok (.aload_n 1, 1) := by decide +kernel
theorem dL_areMeeting_97 : decode cL_areMeeting 97 = .ok (.iload_n 3, 1) := by decide +kernel
theorem dL_areMeeting_98 : decode cL_areMeeting 98 = .ok (.iload 4, 2) := by decide +kernel
theorem dL_areMeeting_100 : decode cL_areMeeting 100 = .ok (.invokestatic 147, 3) := by decide +kernel
theorem dL_areMeeting_103 : decode cL_areMeeting 103 = .ok (.ifCond .ne 7, 3) := by decide +kernel
theorem dL_areMeeting_106 : decode cL_areMeeting 106 = .ok (.iconst 1, 1) := by decide +kernel
theorem dL_areMeeting_107 : decode cL_areMeeting 107 = .ok (.goto 4, 3) := by decide +kernel
theorem dL_areMeeting_110 : decode cL_areMeeting 110 = .ok (.iconst 0, 1) := by decide +kernel
theorem dL_areMeeting_111 : decode cL_areMeeting 111 = .ok (.ireturn, 1) := by decide +kernel
def wL_areMeeting : List Cond := Cond.code yL_areMeeting cL_areMeeting 7 (some .boolean) :: WA
def f_L_areMeeting_b58 (F : Nat) (S : CS) (D : CD) (k16 : Nat → Nat → Int32 → Int32 → Int32 → Int32 → Option Int32) (x0 : Nat) (x1 : Nat) (x3 : Int32) (x4 : Int32) (x6 : Int32) (s0 : Int32) : Option Int32 := k16 x0 x1 x3 x4 s0 (x6 + 1)
def f_L_areMeeting_L16 (F : Nat) (S : CS) (D : CD) : Nat → Nat → Nat → Int32 → Int32 → Int32 → Int32 → Option Int32
  | 0, _, _, _, _, _, _ => none
  | n16 + 1, x0, x1, x3, x4, x5, x6 => ckK S x0 6 <| cal (f_X6_vertices F S D x0) fun t3 => (if t3 ≤ x6 then cal (f_X6_meet F S D x0 x3 x4) fun t6 => (if t6 = x5 then cal (f_X6_meet F S D x0 x4 x3) fun t10 => (if t10 = x5 then (if x3 = x4 then okB 1 (some 1) else cal (f_L_isCovering F S D x1 x3 x4) fun t16 => (if t16 = 0 then okB 1 (some 1) else okB 0 (some 0))) else okB 0 (some 0)) else okB 0 (some 0)) else (if x5 = 0 then cal (f_L_isOn F S D x0 x1 x3 x6) fun t22 => (if t22 = 0 then f_L_areMeeting_b58 F S D ((f_L_areMeeting_L16 F S D n16)) x0 x1 x3 x4 x6 0 else cal (f_L_isOn F S D x0 x1 x4 x6) fun t25 => (if t25 = 0 then f_L_areMeeting_b58 F S D ((f_L_areMeeting_L16 F S D n16)) x0 x1 x3 x4 x6 0 else f_L_areMeeting_b58 F S D ((f_L_areMeeting_L16 F S D n16)) x0 x1 x3 x4 x6 1)) else f_L_areMeeting_b58 F S D ((f_L_areMeeting_L16 F S D n16)) x0 x1 x3 x4 x6 1))
def f_L_areMeeting (F : Nat) (S : CS) (D : CD) (a1 : Nat) (a2 : Nat) (a3 : Nat) (a4 : Int32) (a5 : Int32) : Option Int32 := (if a4 = a5 then f_L_areMeeting_L16 F S D F a1 a2 a4 a5 1 0 else f_L_areMeeting_L16 F S D F a1 a2 a4 a5 0 0)
set_option maxRecDepth 100000 in
set_option maxHeartbeats 4000000 in
theorem m_L_areMeeting (l : Launch) (G : cG) (F : Nat) (S : CS) (D : CD) (a1 : Nat) (a2 : Nat) (a3 : Nat) (a4 : Int32) (a5 : Int32) (r : Int32) (h : f_L_areMeeting F S D a1 a2 a3 a4 a5 = some r) : cMI l yL_areMeeting wL_areMeeting ({ frames := 5, cells := 0, slots := 0, locals := 107 }) G S [.ref a1, .ref a2, .ref a3, .int a4, .int a5] D D r := by
  refine cBodyI (cc := cL_areMeeting) (maxL := 7) (ret := (some .boolean)) (own := RL) (by decide) rfl rfl ?_
  intro sz p e s m below meth c hC hP
  skip
  have hC0 := hC
  obtain ⟨hx, hb, -, hts, hown, -, hml, -, -, -⟩ := hC0
  have hS : va_S (cA G S sz) s.heap s.heap [] := va_S.rf
  have L16 : ∀ (n16 : Nat) (H : Heap) (locs : List Loc) (ls : Array Slot) (x0 : Nat) (x1 : Nat) (x3 : Int32) (x4 : Int32) (x5 : Int32) (x6 : Int32), va_P G.1 vwCl (cW G S D) H → va_S (cA G S sz) s.heap H locs → lv_has ls 7 [(0, .ref x0), (1, .ref x1), (3, .int x3), (4, .int x4), (5, .int x5), (6, .int x6)] → f_L_areMeeting_L16 F S D n16 x0 x1 x3 x4 x5 x6 = some r → W p l e (headSpec wL_areMeeting ({ frames := 5, cells := 0, slots := 0, locals := 107 })).room s m ([.ref a1, .ref a2, .ref a3, .int a4, .int a5] : List Value).toArray below meth c H locs 0 0 (cQI below G S D sz ([.ref a1, .ref a2, .ref a3, .int a4, .int a5] : List Value).toArray s r) (F0 m 16 ls []) := by
    intro n16
    induction n16 with
    | zero =>
      intro H locs ls x0 x1 x3 x4 x5 x6 hP hS hl h
      rw [f_L_areMeeting_L16] at h; cases h
    | succ n16 ih16 =>
      have b58 : ∀ (H : Heap) (locs : List Loc) (ls : Array Slot) (x0 : Nat) (x1 : Nat) (x3 : Int32) (x4 : Int32) (x6 : Int32) (s0 : Int32), va_P G.1 vwCl (cW G S D) H → va_S (cA G S sz) s.heap H locs → lv_has ls 7 [(0, .ref x0), (1, .ref x1), (3, .int x3), (4, .int x4), (6, .int x6)] → f_L_areMeeting_b58 F S D ((f_L_areMeeting_L16 F S D n16)) x0 x1 x3 x4 x6 s0 = some r → W p l e (headSpec wL_areMeeting ({ frames := 5, cells := 0, slots := 0, locals := 107 })).room s m ([.ref a1, .ref a2, .ref a3, .int a4, .int a5] : List Value).toArray below meth c H locs 0 0 (cQI below G S D sz ([.ref a1, .ref a2, .ref a3, .int a4, .int a5] : List Value).toArray s r) (F0 m 58 ls [.int s0]) := by
        intro H locs ls x0 x1 x3 x4 x6 s0 hP hS hl h
        unfold f_L_areMeeting_b58 at h
        refine lv_istore (lv' := [(5, .int s0), (0, .ref x0), (1, .ref x1), (3, .int x3), (4, .int x4), (6, .int x6)]) hx hb dL_areMeeting_58 hl (by decide) rfl (fun ls hl => ?_)
        refine lv_iinc (v := x6 + 1) (lv' := [(6, .int (x6 + 1)), (5, .int s0), (0, .ref x0), (1, .ref x1), (3, .int x3), (4, .int x4)]) hx hb dL_areMeeting_60 hl (k := 5) rfl rfl (by decide) rfl (fun ls hl => ?_)
        refine lv_goto (tgt := 16) hx hb dL_areMeeting_63 (by decide) ?_
        exact ih16 _ _ _ x0 x1 x3 x4 s0 (x6 + 1) hP hS (lv_sub hl [2, 3, 4, 5, 1, 0] rfl) h
      intro H locs ls x0 x1 x3 x4 x5 x6 hP hS hl h
      rw [f_L_areMeeting_L16] at h
      refine lv_iload hx hb dL_areMeeting_16 (lv_at hl 5 rfl) ?_
      refine lv_aload_n hx hb dL_areMeeting_18 rfl (lv_at hl 0 rfl) ?_
      obtain ⟨z1, h⟩ := ckK_el h
      obtain ⟨t3, e2, h⟩ := cal_el h
      refine c_VI (As := []) (rest := [.int x6]) hC hP hS z1.1 (cE_6 z1.2) (C := RX6) (T := TX6) (N := 8) rfl (m_X6_vertices l G F S D x0 t3 e2) (cwV 0 hts (gVA wa_223 wa_224 wa_225 (hWCA _ wc_66) (hWCA _ wc_73) hWCA) rfl rfl rfl (by decide +kernel) ⟨Nat.le_of_ble_eq_true rfl, Nat.le_of_ble_eq_true rfl⟩) rfl hl.1 rfl (Nat.le_of_ble_eq_true rfl) dL_areMeeting_19 (fun H locs hP hS => ?_)
      refine lv_icmp_ge (tgt := 66) hx hb dL_areMeeting_22 (by decide) (fun u4 => ?_) (fun u4 => ?_)
      · have h := ite_t u4 h
        refine lv_aload_n hx hb dL_areMeeting_66 rfl (lv_at hl 0 rfl) ?_
        refine lv_iload_n hx hb dL_areMeeting_67 rfl (lv_at hl 2 rfl) ?_
        refine lv_iload hx hb dL_areMeeting_68 (lv_at hl 3 rfl) ?_
        obtain ⟨t6, e5, h⟩ := cal_el h
        refine c_VI (As := [.int x3, .int x4]) (rest := []) hC hP hS z1.1 (cE_6 z1.2) (C := RX6) (T := TX6) (N := 8) rfl (m_X6_meet l G F S D x0 x3 x4 t6 e5) (cwV 2 hts (gVA wa_198 wa_199 wa_200 (hWCA _ wc_66) (hWCA _ wc_62) hWCA) rfl rfl rfl (by decide +kernel) ⟨Nat.le_of_ble_eq_true rfl, Nat.le_of_ble_eq_true rfl⟩) rfl hl.1 rfl (Nat.le_of_ble_eq_true rfl) dL_areMeeting_70 (fun H locs hP hS => ?_)
        refine lv_iload hx hb dL_areMeeting_73 (lv_at hl 4 rfl) ?_
        refine lv_icmp_ne (tgt := 110) hx hb dL_areMeeting_75 (by decide) (fun u7 => ?_) (fun u7 => ?_)
        · have h := ite_f u7 h
          refine lv_iconst (v := 0) hx hb dL_areMeeting_110 (by decide) ?_
          obtain ⟨z8, h⟩ := okB_el h
          cases h
          exact c_zret hC hP hS z8 rfl dL_areMeeting_111
        · have h := ite_t u7 h
          refine lv_aload_n hx hb dL_areMeeting_78 rfl (lv_at hl 0 rfl) ?_
          refine lv_iload hx hb dL_areMeeting_79 (lv_at hl 3 rfl) ?_
          refine lv_iload_n hx hb dL_areMeeting_81 rfl (lv_at hl 2 rfl) ?_
          obtain ⟨t10, e9, h⟩ := cal_el h
          refine c_VI (As := [.int x4, .int x3]) (rest := []) hC hP hS z1.1 (cE_6 z1.2) (C := RX6) (T := TX6) (N := 8) rfl (m_X6_meet l G F S D x0 x4 x3 t10 e9) (cwV 2 hts (gVA wa_198 wa_199 wa_200 (hWCA _ wc_66) (hWCA _ wc_62) hWCA) rfl rfl rfl (by decide +kernel) ⟨Nat.le_of_ble_eq_true rfl, Nat.le_of_ble_eq_true rfl⟩) rfl hl.1 rfl (Nat.le_of_ble_eq_true rfl) dL_areMeeting_82 (fun H locs hP hS => ?_)
          refine lv_iload hx hb dL_areMeeting_85 (lv_at hl 4 rfl) ?_
          refine lv_icmp_ne (tgt := 110) hx hb dL_areMeeting_87 (by decide) (fun u11 => ?_) (fun u11 => ?_)
          · have h := ite_f u11 h
            refine lv_iconst (v := 0) hx hb dL_areMeeting_110 (by decide) ?_
            obtain ⟨z12, h⟩ := okB_el h
            cases h
            exact c_zret hC hP hS z12 rfl dL_areMeeting_111
          · have h := ite_t u11 h
            refine lv_iload_n hx hb dL_areMeeting_90 rfl (lv_at hl 2 rfl) ?_
            refine lv_iload hx hb dL_areMeeting_91 (lv_at hl 3 rfl) ?_
            refine lv_icmp_eq (tgt := 106) hx hb dL_areMeeting_93 (by decide) (fun u13 => ?_) (fun u13 => ?_)
            · have h := ite_t u13 h
              refine lv_iconst (v := 1) hx hb dL_areMeeting_106 (by decide) ?_
              refine lv_goto (tgt := 111) hx hb dL_areMeeting_107 (by decide) ?_
              obtain ⟨z14, h⟩ := okB_el h
              cases h
              exact c_zret hC hP hS z14 rfl dL_areMeeting_111
            · have h := ite_f u13 h
              refine lv_aload_n hx hb dL_areMeeting_96 rfl (lv_at hl 1 rfl) ?_
              refine lv_iload_n hx hb dL_areMeeting_97 rfl (lv_at hl 2 rfl) ?_
              refine lv_iload hx hb dL_areMeeting_98 (lv_at hl 3 rfl) ?_
              obtain ⟨t16, e15, h⟩ := cal_el h
              refine c_SI (As := [.ref x1, .int x3, .int x4]) (rest := []) hC hP hS (m_L_isCovering l G F S D x1 x3 x4 t16 e15) (va_cwS 3 hts (gSA wa_260 wa_261 wa_233 wa_258 (fun w h => h)) rfl rfl rfl (by decide +kernel) ⟨Nat.le_of_ble_eq_true rfl, Nat.le_of_ble_eq_true rfl⟩) rfl hl.1 rfl (Nat.le_of_ble_eq_true rfl) dL_areMeeting_100 (fun H locs hP hS => ?_)
              refine lv_if_ne (tgt := 110) hx hb dL_areMeeting_103 (by decide) (fun u17 => ?_) (fun u17 => ?_)
              · have h := ite_f u17 h
                refine lv_iconst (v := 0) hx hb dL_areMeeting_110 (by decide) ?_
                obtain ⟨z18, h⟩ := okB_el h
                cases h
                exact c_zret hC hP hS z18 rfl dL_areMeeting_111
              · have h := ite_t u17 h
                refine lv_iconst (v := 1) hx hb dL_areMeeting_106 (by decide) ?_
                refine lv_goto (tgt := 111) hx hb dL_areMeeting_107 (by decide) ?_
                obtain ⟨z19, h⟩ := okB_el h
                cases h
                exact c_zret hC hP hS z19 rfl dL_areMeeting_111
      · have h := ite_f u4 h
        refine lv_iload hx hb dL_areMeeting_25 (lv_at hl 4 rfl) ?_
        refine lv_if_ne (tgt := 53) hx hb dL_areMeeting_27 (by decide) (fun u20 => ?_) (fun u20 => ?_)
        · have h := ite_f u20 h
          refine lv_iconst (v := 1) hx hb dL_areMeeting_53 (by decide) ?_
          refine lv_goto (tgt := 58) hx hb dL_areMeeting_54 (by decide) ?_
          exact b58 _ _ _ x0 x1 x3 x4 x6 1 hP hS (lv_sub hl [0, 1, 2, 3, 5] rfl) h
        · have h := ite_t u20 h
          refine lv_aload_n hx hb dL_areMeeting_30 rfl (lv_at hl 0 rfl) ?_
          refine lv_aload_n hx hb dL_areMeeting_31 rfl (lv_at hl 1 rfl) ?_
          refine lv_iload_n hx hb dL_areMeeting_32 rfl (lv_at hl 2 rfl) ?_
          refine lv_iload hx hb dL_areMeeting_33 (lv_at hl 5 rfl) ?_
          obtain ⟨t22, e21, h⟩ := cal_el h
          refine c_SI (As := [.ref x0, .ref x1, .int x3, .int x6]) (rest := []) hC hP hS (m_L_isOn l G F S D x0 x1 x3 x6 t22 e21) (va_cwS 4 hts (gSA wa_239 wa_240 wa_233 wa_230 (fun w h => h)) rfl rfl rfl (by decide +kernel) ⟨Nat.le_of_ble_eq_true rfl, Nat.le_of_ble_eq_true rfl⟩) rfl hl.1 rfl (Nat.le_of_ble_eq_true rfl) dL_areMeeting_35 (fun H locs hP hS => ?_)
          refine lv_if_eq (tgt := 57) hx hb dL_areMeeting_38 (by decide) (fun u23 => ?_) (fun u23 => ?_)
          · have h := ite_t u23 h
            refine lv_iconst (v := 0) hx hb dL_areMeeting_57 (by decide) ?_
            exact b58 _ _ _ x0 x1 x3 x4 x6 0 hP hS (lv_sub hl [0, 1, 2, 3, 5] rfl) h
          · have h := ite_f u23 h
            refine lv_aload_n hx hb dL_areMeeting_41 rfl (lv_at hl 0 rfl) ?_
            refine lv_aload_n hx hb dL_areMeeting_42 rfl (lv_at hl 1 rfl) ?_
            refine lv_iload hx hb dL_areMeeting_43 (lv_at hl 3 rfl) ?_
            refine lv_iload hx hb dL_areMeeting_45 (lv_at hl 5 rfl) ?_
            obtain ⟨t25, e24, h⟩ := cal_el h
            refine c_SI (As := [.ref x0, .ref x1, .int x4, .int x6]) (rest := []) hC hP hS (m_L_isOn l G F S D x0 x1 x4 x6 t25 e24) (va_cwS 4 hts (gSA wa_239 wa_240 wa_233 wa_230 (fun w h => h)) rfl rfl rfl (by decide +kernel) ⟨Nat.le_of_ble_eq_true rfl, Nat.le_of_ble_eq_true rfl⟩) rfl hl.1 rfl (Nat.le_of_ble_eq_true rfl) dL_areMeeting_47 (fun H locs hP hS => ?_)
            refine lv_if_eq (tgt := 57) hx hb dL_areMeeting_50 (by decide) (fun u26 => ?_) (fun u26 => ?_)
            · have h := ite_t u26 h
              refine lv_iconst (v := 0) hx hb dL_areMeeting_57 (by decide) ?_
              exact b58 _ _ _ x0 x1 x3 x4 x6 0 hP hS (lv_sub hl [0, 1, 2, 3, 5] rfl) h
            · have h := ite_f u26 h
              refine lv_iconst (v := 1) hx hb dL_areMeeting_53 (by decide) ?_
              refine lv_goto (tgt := 58) hx hb dL_areMeeting_54 (by decide) ?_
              exact b58 _ _ _ x0 x1 x3 x4 x6 1 hP hS (lv_sub hl [0, 1, 2, 3, 5] rfl) h
  refine m_entry (Nat.le_of_ble_eq_true rfl) (fun ls hl => ?_)
  have hl : lv_has ls 7 [(0, .ref a1), (1, .ref a2), (2, .ref a3), (3, .int a4), (4, .int a5)] := hl
  unfold f_L_areMeeting at h
  refine lv_iload_n hx hb dL_areMeeting_0 rfl (lv_at hl 3 rfl) ?_
  refine lv_iload hx hb dL_areMeeting_1 (lv_at hl 4 rfl) ?_
  refine lv_icmp_ne (tgt := 10) hx hb dL_areMeeting_3 (by decide) (fun u1 => ?_) (fun u1 => ?_)
  · have h := ite_f u1 h
    refine lv_iconst (v := 0) hx hb dL_areMeeting_10 (by decide) ?_
    refine lv_istore (lv' := [(5, .int 0), (0, .ref a1), (1, .ref a2), (2, .ref a3), (3, .int a4), (4, .int a5)]) hx hb dL_areMeeting_11 hl (by decide) rfl (fun ls hl => ?_)
    refine lv_iconst (v := 0) hx hb dL_areMeeting_13 (by decide) ?_
    refine lv_istore (lv' := [(6, .int 0), (5, .int 0), (0, .ref a1), (1, .ref a2), (2, .ref a3), (3, .int a4), (4, .int a5)]) hx hb dL_areMeeting_14 hl (by decide) rfl (fun ls hl => ?_)
    exact L16 F _ _ _ a1 a2 a4 a5 0 0 hP hS (lv_sub hl [2, 3, 5, 6, 1, 0] rfl) h
  · have h := ite_t u1 h
    refine lv_iconst (v := 1) hx hb dL_areMeeting_6 (by decide) ?_
    refine lv_goto (tgt := 11) hx hb dL_areMeeting_7 (by decide) ?_
    refine lv_istore (lv' := [(5, .int 1), (0, .ref a1), (1, .ref a2), (2, .ref a3), (3, .int a4), (4, .int a5)]) hx hb dL_areMeeting_11 hl (by decide) rfl (fun ls hl => ?_)
    refine lv_iconst (v := 0) hx hb dL_areMeeting_13 (by decide) ?_
    refine lv_istore (lv' := [(6, .int 0), (5, .int 1), (0, .ref a1), (1, .ref a2), (2, .ref a3), (3, .int a4), (4, .int a5)]) hx hb dL_areMeeting_14 hl (by decide) rfl (fun ls hl => ?_)
    exact L16 F _ _ _ a1 a2 a4 a5 1 0 hP hS (lv_sub hl [2, 3, 5, 6, 1, 0] rfl) h

theorem dL_isAt_0 : decode cL_isAt 0 = .ok (.aload_n 0, 1) := by decide +kernel
theorem dL_isAt_1 : decode cL_isAt 1 = .ok (.iload_n 3, 1) := by decide +kernel
theorem dL_isAt_2 : decode cL_isAt 2 = .ok (.iload 4, 2) := by decide +kernel
theorem dL_isAt_4 : decode cL_isAt 4 = .ok (.invokevirtual 61, 3) := by decide +kernel
theorem dL_isAt_7 : decode cL_isAt 7 = .ok (.istore 5, 2) := by decide +kernel
theorem dL_isAt_9 : decode cL_isAt 9 = .ok (.iconst 0, 1) := by decide +kernel
theorem dL_isAt_10 : decode cL_isAt 10 = .ok (.istore 6, 2) := by decide +kernel
theorem dL_isAt_12 : decode cL_isAt 12 = .ok (.iconst (-1), 1) := by decide +kernel
theorem dL_isAt_13 : decode cL_isAt 13 = .ok (.istore 7, 2) := by decide +kernel
theorem dL_isAt_15 : decode cL_isAt 15 = .ok (.iconst (-1), 1) := by decide +kernel
theorem dL_isAt_16 : decode cL_isAt 16 = .ok (.istore 8, 2) := by decide +kernel
theorem dL_isAt_18 : decode cL_isAt 18 = .ok (.iconst 0, 1) := by decide +kernel
theorem dL_isAt_19 : decode cL_isAt 19 = .ok (.istore 9, 2) := by decide +kernel
theorem dL_isAt_21 : decode cL_isAt 21 = .ok (.iload 9, 2) := by decide +kernel
theorem dL_isAt_23 : decode cL_isAt 23 = .ok (.aload_n 2, 1) := by decide +kernel
theorem dL_isAt_24 : decode cL_isAt 24 = .ok (.iconst 0, 1) := by decide +kernel
theorem dL_isAt_25 : decode cL_isAt 25 = .ok (.iaload, 1) := by decide +kernel
theorem dL_isAt_26 : decode cL_isAt 26 = .ok (.if_icmp .ge 271, 3) := by decide +kernel
theorem dL_isAt_29 : decode cL_isAt 29 = .ok (.aload_n 1, 1) := by decide +kernel
theorem dL_isAt_30 : decode cL_isAt 30 = .ok (.iload 9, 2) := by decide +kernel
theorem dL_isAt_32 : decode cL_isAt 32 = .ok (.invokestatic 111, 3) := by decide +kernel
theorem dL_isAt_35 : decode cL_isAt 35 = .ok (.lconst 0, 1) := by decide +kernel
theorem dL_isAt_36 : decode cL_isAt 36 = .ok (.lcmp, 1) := by decide +kernel
theorem dL_isAt_37 : decode cL_isAt 37 = .ok (.ifCond .ne 47, 3) := by decide +kernel
theorem dL_isAt_40 : decode cL_isAt 40 = .ok (.aload_n 1, 1) := by decide +kernel
theorem dL_isAt_41 : decode cL_isAt 41 = .ok (.iconst 4, 1) := by decide +kernel
theorem dL_isAt_42 : decode cL_isAt 42 = .ok (.iload 9, 2) := by decide +kernel
theorem dL_isAt_44 : decode cL_isAt 44 = .ok (.imul, 1) := by decide +kernel
theorem dL_isAt_45 : decode cL_isAt 45 = .ok (.iaload, 1) := by decide +kernel
theorem dL_isAt_46 : decode cL_isAt 46 = .ok (.iload_n 3, 1) := by decide +kernel
theorem dL_isAt_47 : decode cL_isAt 47 = .ok (.if_icmp .ne 33, 3) := by decide +kernel
theorem dL_isAt_50 : decode cL_isAt 50 = .ok (.aload_n 1, 1) := by decide +kernel
theorem dL_isAt_51 : decode cL_isAt 51 = .ok (.iconst 4, 1) := by decide +kernel
theorem dL_isAt_52 : decode cL_isAt 52 = .ok (.iload 9, 2) := by decide +kernel
theorem dL_isAt_54 : decode cL_isAt 54 = .ok (.imul, 1) := by decide +kernel
theorem dL_isAt_55 : decode cL_isAt 55 = .ok (.iconst 1, 1) := by decide +kernel
theorem dL_isAt_56 : decode cL_isAt 56 = .ok (.iadd, 1) := by decide +kernel
theorem dL_isAt_57 : decode cL_isAt 57 = .ok (.iaload, 1) := by decide +kernel
theorem dL_isAt_58 : decode cL_isAt 58 = .ok (.iload 4, 2) := by decide +kernel
theorem dL_isAt_60 : decode cL_isAt 60 = .ok (.if_icmp .gt 20, 3) := by decide +kernel
theorem dL_isAt_63 : decode cL_isAt 63 = .ok (.aload_n 1, 1) := by decide +kernel
theorem dL_isAt_64 : decode cL_isAt 64 = .ok (.iconst 4, 1) := by decide +kernel
theorem dL_isAt_65 : decode cL_isAt 65 = .ok (.iload 9, 2) := by decide +kernel
theorem dL_isAt_67 : decode cL_isAt 67 = .ok (.imul, 1) := by decide +kernel
theorem dL_isAt_68 : decode cL_isAt 68 = .ok (.iconst 3, 1) := by decide +kernel
theorem dL_isAt_69 : decode cL_isAt 69 = .ok (.iadd, 1) := by decide +kernel
theorem dL_isAt_70 : decode cL_isAt 70 = .ok (.iaload, 1) := by decide +kernel
theorem dL_isAt_71 : decode cL_isAt 71 = .ok (.iload 4, 2) := by decide +kernel
theorem dL_isAt_73 : decode cL_isAt 73 = .ok (.if_icmp .lt 7, 3) := by decide +kernel
theorem dL_isAt_76 : decode cL_isAt 76 = .ok (.iconst 1, 1) := by decide +kernel
theorem dL_isAt_77 : decode cL_isAt 77 = .ok (.goto 55, 3) := by decide +kernel
theorem dL_isAt_80 : decode cL_isAt 80 = .ok (.iconst 0, 1) := by decide +kernel
theorem dL_isAt_81 : decode cL_isAt 81 = .ok (.goto 51, 3) := by decide +kernel
theorem dL_isAt_84 : decode cL_isAt 84 = .ok (.aload_n 1, 1) := by decide +kernel
theorem dL_isAt_85 : decode cL_isAt 85 = .ok (.iconst 4, 1) := by decide +kernel
theorem dL_isAt_86 : decode cL_isAt 86 = .ok (.iload 9, 2) := by decide +kernel
theorem dL_isAt_88 : decode cL_isAt 88 = .ok (.imul, 1) := by decide +kernel
theorem dL_isAt_89 : decode cL_isAt 89 = .ok (.iaload, 1) := by decide +kernel
theorem dL_isAt_90 : decode cL_isAt 90 = .ok (.iload_n 3, 1) := by decide +kernel
theorem dL_isAt_91 : decode cL_isAt 91 = .ok (.if_icmp .gt 40, 3) := by decide +kernel
theorem dL_isAt_94 : decode cL_isAt 94 = .ok (.aload_n 1, 1) := by decide +kernel
theorem dL_isAt_95 : decode cL_isAt 95 = .ok (.iconst 4, 1) := by decide +kernel
theorem dL_isAt_96 : decode cL_isAt 96 = .ok (.iload 9, 2) := by decide +kernel
theorem dL_isAt_98 : decode cL_isAt 98 = .ok (.imul, 1) := by decide +kernel
theorem dL_isAt_99 : decode cL_isAt 99 = .ok (.iconst 2, 1) := by decide +kernel
theorem dL_isAt_100 : decode cL_isAt 100 = .ok (.iadd, 1) := by decide +kernel
theorem dL_isAt_101 : decode cL_isAt 101 = .ok (.iaload, 1) := by decide +kernel
theorem dL_isAt_102 : decode cL_isAt 102 = .ok (.iload_n 3, 1) := by decide +kernel
theorem dL_isAt_103 : decode cL_isAt 103 = .ok (.if_icmp .lt 28, 3) := by decide +kernel
theorem dL_isAt_106 : decode cL_isAt 106 = .ok (.aload_n 1, 1) := by decide +kernel
theorem dL_isAt_107 : decode cL_isAt 107 = .ok (.iload 9, 2) := by decide +kernel
theorem dL_isAt_109 : decode cL_isAt 109 = .ok (.iload_n 3, 1) := by decide +kernel
theorem dL_isAt_110 : decode cL_isAt 110 = .ok (.invokestatic 135, 3) := by decide +kernel
theorem dL_isAt_113 : decode cL_isAt 113 = .ok (.iload 4, 2) := by decide +kernel
theorem dL_isAt_115 : decode cL_isAt 115 = .ok (.i2l, 1) := by decide +kernel
theorem dL_isAt_116 : decode cL_isAt 116 = .ok (.aload_n 1, 1) := by decide +kernel
theorem dL_isAt_117 : decode cL_isAt 117 = .ok (.iload 9, 2) := by decide +kernel
theorem dL_isAt_119 : decode cL_isAt 119 = .ok (.invokestatic 111, 3) := by decide +kernel
theorem dL_isAt_122 : decode cL_isAt 122 = .ok (.lmul, 1) := by decide +kernel
theorem dL_isAt_123 : decode cL_isAt 123 = .ok (.lcmp, 1) := by decide +kernel
theorem dL_isAt_124 : decode cL_isAt 124 = .ok (.ifCond .ne 7, 3) := by decide +kernel
theorem dL_isAt_127 : decode cL_isAt 127 = .ok (.iconst 1, 1) := by decide +kernel
theorem dL_isAt_128 : decode cL_isAt 128 = .ok (.goto 4, 3) := by decide +kernel
theorem dL_isAt_131 : decode cL_isAt 131 = .ok (.iconst 0, 1) := by decide +kernel
theorem dL_isAt_132 : decode cL_isAt 132 = .ok (.istore 10, 2) := by decide +kernel
theorem dL_isAt_134 : decode cL_isAt 134 = .ok (.iload 6, 2) := by decide +kernel
theorem dL_isAt_136 : decode cL_isAt 136 = .ok (.ifCond .ne 8, 3) := by decide +kernel
theorem dL_isAt_139 : decode cL_isAt 139 = .ok (.iload 10, 2) := by decide +kernel
theorem dL_isAt_141 : decode cL_isAt 141 = .ok (.ifCond .eq 7, 3) := by decide +kernel
theorem dL_isAt_144 : decode cL_isAt 144 = .ok (.iconst 1, 1) := by decide +kernel
theorem dL_isAt_145 : decode cL_isAt 145 = .ok (.goto 4, 3) := by decide +kernel
theorem dL_isAt_148 : decode cL_isAt 148 = .ok (.iconst 0, 1) := by decide +kernel
theorem dL_isAt_149 : decode cL_isAt 149 = .ok (.istore 6, 2) := by decide +kernel
theorem dL_isAt_151 : decode cL_isAt 151 = .ok (.aload_n 1, 1) := by decide +kernel
theorem dL_isAt_152 : decode cL_isAt 152 = .ok (.iload 9, 2) := by decide +kernel
theorem dL_isAt_154 : decode cL_isAt 154 = .ok (.invokestatic 111, 3) := by decide +kernel
theorem dL_isAt_157 : decode cL_isAt 157 = .ok (.lconst 0, 1) := by decide +kernel
theorem dL_isAt_158 : decode cL_isAt 158 = .ok (.lcmp, 1) := by decide +kernel
theorem dL_isAt_159 : decode cL_isAt 159 = .ok (.ifCond .le 29, 3) := by decide +kernel
theorem dL_isAt_162 : decode cL_isAt 162 = .ok (.aload_n 1, 1) := by decide +kernel
theorem dL_isAt_163 : decode cL_isAt 163 = .ok (.iconst 4, 1) := by decide +kernel
theorem dL_isAt_164 : decode cL_isAt 164 = .ok (.iload 9, 2) := by decide +kernel
theorem dL_isAt_166 : decode cL_isAt 166 = .ok (.imul, 1) := by decide +kernel
theorem dL_isAt_167 : decode cL_isAt 167 = .ok (.iaload, 1) := by decide +kernel
theorem dL_isAt_168 : decode cL_isAt 168 = .ok (.iload_n 3, 1) := by decide +kernel
theorem dL_isAt_169 : decode cL_isAt 169 = .ok (.if_icmp .gt 19, 3) := by decide +kernel
theorem dL_isAt_172 : decode cL_isAt 172 = .ok (.aload_n 1, 1) := by decide +kernel
theorem dL_isAt_173 : decode cL_isAt 173 = .ok (.iconst 4, 1) := by decide +kernel
theorem dL_isAt_174 : decode cL_isAt 174 = .ok (.iload 9, 2) := by decide +kernel
theorem dL_isAt_176 : decode cL_isAt 176 = .ok (.imul, 1) := by decide +kernel
theorem dL_isAt_177 : decode cL_isAt 177 = .ok (.iconst 2, 1) := by decide +kernel
theorem dL_isAt_178 : decode cL_isAt 178 = .ok (.iadd, 1) := by decide +kernel
theorem dL_isAt_179 : decode cL_isAt 179 = .ok (.iaload, 1) := by decide +kernel
theorem dL_isAt_180 : decode cL_isAt 180 = .ok (.iload_n 3, 1) := by decide +kernel
theorem dL_isAt_181 : decode cL_isAt 181 = .ok (.if_icmp .le 7, 3) := by decide +kernel
theorem dL_isAt_184 : decode cL_isAt 184 = .ok (.iconst 1, 1) := by decide +kernel
theorem dL_isAt_185 : decode cL_isAt 185 = .ok (.goto 4, 3) := by decide +kernel
theorem dL_isAt_188 : decode cL_isAt 188 = .ok (.iconst 0, 1) := by decide +kernel
theorem dL_isAt_189 : decode cL_isAt 189 = .ok (.istore 11, 2) := by decide +kernel
theorem dL_isAt_191 : decode cL_isAt 191 = .ok (.iload 11, 2) := by decide +kernel
theorem dL_isAt_193 : decode cL_isAt 193 = .ok (.ifCond .eq 28, 3) := by decide +kernel
theorem dL_isAt_196 : decode cL_isAt 196 = .ok (.aload_n 1, 1) := by decide +kernel
theorem dL_isAt_197 : decode cL_isAt 197 = .ok (.iload 9, 2) := by decide +kernel
theorem dL_isAt_199 : decode cL_isAt 199 = .ok (.iload_n 3, 1) := by decide +kernel
theorem dL_isAt_200 : decode cL_isAt 200 = .ok (.invokestatic 135, 3) := by decide +kernel
theorem dL_isAt_203 : decode cL_isAt 203 = .ok (.iload 4, 2) := by decide +kernel
theorem dL_isAt_205 : decode cL_isAt 205 = .ok (.i2l, 1) := by decide +kernel
theorem dL_isAt_206 : decode cL_isAt 206 = .ok (.aload_n 1, 1) := by decide +kernel
theorem dL_isAt_207 : decode cL_isAt 207 = .ok (.iload 9, 2) := by decide +kernel
theorem dL_isAt_209 : decode cL_isAt 209 = .ok (.invokestatic 111, 3) := by decide +kernel
theorem dL_isAt_212 : decode cL_isAt 212 = .ok (.lmul, 1) := by decide +kernel
theorem dL_isAt_213 : decode cL_isAt 213 = .ok (.lcmp, 1) := by decide +kernel
theorem dL_isAt_214 : decode cL_isAt 214 = .ok (.ifCond .ge 7, 3) := by decide +kernel
theorem dL_isAt_217 : decode cL_isAt 217 = .ok (.iconst 1, 1) := by decide +kernel
theorem dL_isAt_218 : decode cL_isAt 218 = .ok (.goto 4, 3) := by decide +kernel
theorem dL_isAt_221 : decode cL_isAt 221 = .ok (.iconst 0, 1) := by decide +kernel
theorem dL_isAt_222 : decode cL_isAt 222 = .ok (.istore 12, 2) := by decide +kernel
theorem dL_isAt_224 : decode cL_isAt 224 = .ok (.iload 12, 2) := by decide +kernel
theorem dL_isAt_226 : decode cL_isAt 226 = .ok (.ifCond .eq 25, 3) := by decide +kernel
theorem dL_isAt_229 : decode cL_isAt 229 = .ok (.iload 7, 2) := by decide +kernel
theorem dL_isAt_231 : decode cL_isAt 231 = .ok (.ifCond .lt 15, 3) := by decide +kernel
theorem dL_isAt_234 : decode cL_isAt 234 = .ok (.aload_n 1, 1) := by decide +kernel
theorem dL_isAt_235 : decode cL_isAt 235 = .ok (.iload 9, 2) := by decide +kernel
theorem dL_isAt_237 : decode cL_isAt 237 = .ok (.iload 7, 2) := by decide +kernel
theorem dL_isAt_239 : decode cL_isAt 239 = .ok (.iload_n 3, 1) := by decide +kernel
theorem dL_isAt_240 : decode cL_isAt 240 = .ok (.invokestatic 139, 3) := by decide +kernel
theorem dL_isAt_243 : decode cL_isAt 243 = .ok (.ifCond .eq 8, 3) := by decide +kernel
theorem dL_isAt_246 : decode cL_isAt 246 = .ok (.iload 9, 2) := by decide +kernel
theorem dL_isAt_248 : decode cL_isAt 248 = .ok (.goto 5, 3) := by decide +kernel
theorem dL_isAt_251 : decode cL_isAt 251 = .ok (.iload 7, 2) := by decide +kernel
theorem dL_isAt_253 : decode cL_isAt 253 = .ok (.istore 7, 2) := by decide +kernel
theorem dL_isAt_255 : decode cL_isAt 255 = .ok (.iload 11, 2) := by decide +kernel
theorem dL_isAt_257 : decode cL_isAt 257 = .ok (.ifCond .eq 30, 3) := by decide +kernel
theorem dL_isAt_260 : decode cL_isAt 260 = .ok (.iload 12, 2) := by decide +kernel
theorem dL_isAt_262 : decode cL_isAt 262 = .ok (.ifCond .ne 25, 3) := by decide +kernel
theorem dL_isAt_265 : decode cL_isAt 265 = .ok (.iload 8, 2) := by decide +kernel
theorem dL_isAt_267 : decode cL_isAt 267 = .ok (.ifCond .lt 15, 3) := by decide +kernel
theorem dL_isAt_270 : decode cL_isAt 270 = .ok (.aload_n 1, 1) := by decide +kernel
theorem dL_isAt_271 : decode cL_isAt 271 = .ok (.iload 8, 2) := by decide +kernel
theorem dL_isAt_273 : decode cL_isAt 273 = .ok (.iload 9, 2) := by decide +kernel
theorem dL_isAt_275 : decode cL_isAt 275 = .ok (.iload_n 3, 1) := by decide +kernel
theorem dL_isAt_276 : decode cL_isAt 276 = .ok (.invokestatic 139, 3) := by decide +kernel
theorem dL_isAt_279 : decode cL_isAt 279 = .ok (.ifCond .eq 8, 3) := by decide +kernel
theorem dL_isAt_282 : decode cL_isAt 282 = .ok (.iload 9, 2) := by decide +kernel
theorem dL_isAt_284 : decode cL_isAt 284 = .ok (.goto 5, 3) := by decide +kernel
theorem dL_isAt_287 : decode cL_isAt 287 = .ok (.iload 8, 2) := by decide +kernel
theorem dL_isAt_289 : decode cL_isAt 289 = .ok (.istore 8, 2) := by decide +kernel
theorem dL_isAt_291 : decode cL_isAt 291 = .ok (.iinc 9 1, 3) := by decide +kernel
theorem dL_isAt_294 : decode cL_isAt 294 = .ok (.goto (-273), 3) := by decide +kernel
theorem dL_isAt_297 : decode cL_isAt 297 = .ok (.iload 6, 2) := by decide +kernel
theorem dL_isAt_299 : decode cL_isAt 299 = .ok (.ifCond .eq 15, 3) := by decide +kernel
theorem dL_isAt_302 : decode cL_isAt 302 = .ok (.iload 5, 2) := by decide +kernel
theorem dL_isAt_304 : decode cL_isAt 304 = .ok (.iconst (-1), 1) := by decide +kernel
theorem dL_isAt_305 : decode cL_isAt 305 = .ok (.if_icmp .ne 7, 3) := by decide +kernel
theorem dL_isAt_308 : decode cL_isAt 308 = .ok (.iconst 1, 1) := by decide +kernel
theorem dL_isAt_309 : decode cL_isAt 309 = .ok (.goto 4, 3) := by decide +kernel
theorem dL_isAt_312 : decode cL_isAt 312 = .ok (.iconst 0, 1) := by decide +kernel
theorem dL_isAt_313 : decode cL_isAt 313 = .ok (.ireturn, 1) := by decide +kernel
theorem dL_isAt_314 : decode cL_isAt 314 = .ok (.iload 5, 2) := by decide +kernel
theorem dL_isAt_316 : decode cL_isAt 316 = .ok (.ifCond .lt 31, 3) := by decide +kernel
theorem dL_isAt_319 : decode cL_isAt 319 = .ok (.iload 5, 2) := by decide +kernel
theorem dL_isAt_321 : decode cL_isAt 321 = .ok (.aload_n 0, 1) := by decide +kernel
theorem dL_isAt_322 : decode cL_isAt 322 = .ok (.invokevirtual 81, 3) := by decide +kernel
theorem dL_isAt_325 : decode cL_isAt 325 = .ok (.if_icmp .ge 22, 3) := by decide +kernel
theorem dL_isAt_328 : decode cL_isAt 328 = .ok (.iload 5, 2) := by decide +kernel
theorem dL_isAt_330 : decode cL_isAt 330 = .ok (.ifCond .eq 13, 3) := by decide +kernel
theorem dL_isAt_333 : decode cL_isAt 333 = .ok (.iload 7, 2) := by decide +kernel
theorem dL_isAt_335 : decode cL_isAt 335 = .ok (.ifCond .lt 12, 3) := by decide +kernel
theorem dL_isAt_338 : decode cL_isAt 338 = .ok (.iload 8, 2) := by decide +kernel
theorem dL_isAt_340 : decode cL_isAt 340 = .ok (.ifCond .lt 7, 3) := by decide +kernel
theorem dL_isAt_343 : decode cL_isAt 343 = .ok (.iconst 1, 1) := by decide +kernel
theorem dL_isAt_344 : decode cL_isAt 344 = .ok (.goto 4, 3) := by decide +kernel
theorem dL_isAt_347 : decode cL_isAt 347 = .ok (.iconst 0, 1) := by decide +kernel
theorem dL_isAt_348 : decode cL_isAt 348 = .ok (.istore 9, 2) := by decide +kernel
theorem dL_isAt_350 : decode cL_isAt 350 = .ok (.iconst 0, 1) := by decide +kernel
theorem dL_isAt_351 : decode cL_isAt 351 = .ok (.istore 10, 2) := by decide +kernel
theorem dL_isAt_353 : decode cL_isAt 353 = .ok (.iload 10, 2) := by decide +kernel
theorem dL_isAt_355 : decode cL_isAt 355 = .ok (.aload_n 0, 1) := by decide +kernel
theorem dL_isAt_356 : decode cL_isAt 356 = .ok (.invokevirtual 100, 3) := by decide +kernel
theorem dL_isAt_359 : decode cL_isAt 359 = .ok (.if_icmp .ge 140, 3) := by decide +kernel
theorem dL_isAt_362 : decode cL_isAt 362 = .ok (.iload 9, 2) := by decide +kernel
theorem dL_isAt_364 : decode cL_isAt 364 = .ok (.ifCond .eq 135, 3) := by decide +kernel
theorem dL_isAt_367 : decode cL_isAt 367 = .ok (.aload_n 0, 1) := by decide +kernel
theorem dL_isAt_368 : decode cL_isAt 368 = .ok (.iload 10, 2) := by decide +kernel
theorem dL_isAt_370 : decode cL_isAt 370 = .ok (.invokevirtual 38, 3) := by decide +kernel
theorem dL_isAt_373 : decode cL_isAt 373 = .ok (.istore 11, 2) := by decide +kernel
theorem dL_isAt_375 : decode cL_isAt 375 = .ok (.aload_n 0, 1) := by decide +kernel
theorem dL_isAt_376 : decode cL_isAt 376 = .ok (.aload_n 0, 1) := by decide +kernel
theorem dL_isAt_377 : decode cL_isAt 377 = .ok (.iload 10, 2) := by decide +kernel
theorem dL_isAt_379 : decode cL_isAt 379 = .ok (.invokevirtual 41, 3) := by decide +kernel
theorem dL_isAt_382 : decode cL_isAt 382 = .ok (.invokevirtual 23, 3) := by decide +kernel
theorem dL_isAt_385 : decode cL_isAt 385 = .ok (.i2l, 1) := by decide +kernel
theorem dL_isAt_386 : decode cL_isAt 386 = .ok (.iload_n 3, 1) := by decide +kernel
theorem dL_isAt_387 : decode cL_isAt 387 = .ok (.i2l, 1) := by decide +kernel
theorem dL_isAt_388 : decode cL_isAt 388 = .ok (.aload_n 0, 1) := by decide +kernel
theorem dL_isAt_389 : decode cL_isAt 389 = .ok (.aload_n 0, 1) := by decide +kernel
theorem dL_isAt_390 : decode cL_isAt 390 = .ok (.iload 10, 2) := by decide +kernel
theorem dL_isAt_392 : decode cL_isAt 392 = .ok (.invokevirtual 41, 3) := by decide +kernel
theorem dL_isAt_395 : decode cL_isAt 395 = .ok (.invokevirtual 26, 3) := by decide +kernel
theorem dL_isAt_398 : decode cL_isAt 398 = .ok (.i2l, 1) := by decide +kernel
theorem dL_isAt_399 : decode cL_isAt 399 = .ok (.lmul, 1) := by decide +kernel
theorem dL_isAt_400 : decode cL_isAt 400 = .ok (.lcmp, 1) := by decide +kernel
theorem dL_isAt_401 : decode cL_isAt 401 = .ok (.ifCond .gt 36, 3) := by decide +kernel
theorem dL_isAt_404 : decode cL_isAt 404 = .ok (.aload_n 0, 1) := by decide +kernel
theorem dL_isAt_405 : decode cL_isAt 405 = .ok (.aload_n 0, 1) := by decide +kernel
theorem dL_isAt_406 : decode cL_isAt 406 = .ok (.iload 10, 2) := by decide +kernel
theorem dL_isAt_408 : decode cL_isAt 408 = .ok (.invokevirtual 44, 3) := by decide +kernel
theorem dL_isAt_411 : decode cL_isAt 411 = .ok (.invokevirtual 23, 3) := by decide +kernel
theorem dL_isAt_414 : decode cL_isAt 414 = .ok (.i2l, 1) := by decide +kernel
theorem dL_isAt_415 : decode cL_isAt 415 = .ok (.iload_n 3, 1) := by decide +kernel
theorem dL_isAt_416 : decode cL_isAt 416 = .ok (.i2l, 1) := by decide +kernel
theorem dL_isAt_417 : decode cL_isAt 417 = .ok (.aload_n 0, 1) := by decide +kernel
theorem dL_isAt_418 : decode cL_isAt 418 = .ok (.aload_n 0, 1) := by decide +kernel
theorem dL_isAt_419 : decode cL_isAt 419 = .ok (.iload 10, 2) := by decide +kernel
theorem dL_isAt_421 : decode cL_isAt 421 = .ok (.invokevirtual 44, 3) := by decide +kernel
theorem dL_isAt_424 : decode cL_isAt 424 = .ok (.invokevirtual 26, 3) := by decide +kernel
theorem dL_isAt_427 : decode cL_isAt 427 = .ok (.i2l, 1) := by decide +kernel
theorem dL_isAt_428 : decode cL_isAt 428 = .ok (.lmul, 1) := by decide +kernel
theorem dL_isAt_429 : decode cL_isAt 429 = .ok (.lcmp, 1) := by decide +kernel
theorem dL_isAt_430 : decode cL_isAt 430 = .ok (.ifCond .le 7, 3) := by decide +kernel
theorem dL_isAt_433 : decode cL_isAt 433 = .ok (.iconst 1, 1) := by decide +kernel
theorem dL_isAt_434 : decode cL_isAt 434 = .ok (.goto 4, 3) := by decide +kernel
theorem dL_isAt_437 : decode cL_isAt 437 = .ok (.iconst 0, 1) := by decide +kernel
theorem dL_isAt_438 : decode cL_isAt 438 = .ok (.istore 12, 2) := by decide +kernel
theorem dL_isAt_440 : decode cL_isAt 440 = .ok (.iload 11, 2) := by decide +kernel
theorem dL_isAt_442 : decode cL_isAt 442 = .ok (.iload 7, 2) := by decide +kernel
theorem dL_isAt_444 : decode cL_isAt 444 = .ok (.if_icmp .ne 19, 3) := by decide +kernel
theorem dL_isAt_447 : decode cL_isAt 447 = .ok (.iload 12, 2) := by decide +kernel
theorem dL_isAt_449 : decode cL_isAt 449 = .ok (.ifCond .eq 14, 3) := by decide +kernel
theorem dL_isAt_452 : decode cL_isAt 452 = .ok (.aload_n 0, 1) := by decide +kernel
theorem dL_isAt_453 : decode cL_isAt 453 = .ok (.iload 10, 2) := by decide +kernel
theorem dL_isAt_455 : decode cL_isAt 455 = .ok (.invokevirtual 47, 3) := by decide +kernel
theorem dL_isAt_458 : decode cL_isAt 458 = .ok (.iload 5, 2) := by decide +kernel
theorem dL_isAt_460 : decode cL_isAt 460 = .ok (.if_icmp .ne 30, 3) := by decide +kernel
theorem dL_isAt_463 : decode cL_isAt 463 = .ok (.iload 11, 2) := by decide +kernel
theorem dL_isAt_465 : decode cL_isAt 465 = .ok (.iload 8, 2) := by decide +kernel
theorem dL_isAt_467 : decode cL_isAt 467 = .ok (.if_icmp .ne 19, 3) := by decide +kernel
theorem dL_isAt_470 : decode cL_isAt 470 = .ok (.iload 12, 2) := by decide +kernel
theorem dL_isAt_472 : decode cL_isAt 472 = .ok (.ifCond .eq 14, 3) := by decide +kernel
theorem dL_isAt_475 : decode cL_isAt 475 = .ok (.aload_n 0, 1) := by decide +kernel
theorem dL_isAt_476 : decode cL_isAt 476 = .ok (.iload 10, 2) := by decide +kernel
theorem dL_isAt_478 : decode cL_isAt 478 = .ok (.invokevirtual 50, 3) := by decide +kernel
theorem dL_isAt_481 : decode cL_isAt 481 = .ok (.iload 5, 2) := by decide +kernel
theorem dL_isAt_483 : decode cL_isAt 483 = .ok (.if_icmp .ne 7, 3) := by decide +kernel
theorem dL_isAt_486 : decode cL_isAt 486 = .ok (.iconst 1, 1) := by decide +kernel
theorem dL_isAt_487 : decode cL_isAt 487 = .ok (.goto 4, 3) := by decide +kernel
theorem dL_isAt_490 : decode cL_isAt 490 = .ok (.iconst 0, 1) := by decide +kernel
theorem dL_isAt_491 : decode cL_isAt 491 = .ok (.istore 9, 2) := by decide +kernel
theorem dL_isAt_493 : decode cL_isAt 493 = .ok (.iinc 10 1, 3) := by decide +kernel
theorem dL_isAt_496 : decode cL_isAt 496 = .ok (.goto (-143), 3) := by decide +kernel
theorem dL_isAt_499 : decode cL_isAt 499 = .ok (.iload 9, 2) := by decide +kernel
theorem dL_isAt_501 : decode cL_isAt 501 = .ok (.ireturn, 1) := by decide +kernel
def wL_isAt : List Cond := Cond.code yL_isAt cL_isAt 13 (some .boolean) :: WA
def f_L_isAt_b491 (F : Nat) (S : CS) (k353 : CD → Nat → Int32 → Int32 → Int32 → Int32 → Int32 → Int32 → Option (CD × Int32)) (D : CD) (x0 : Nat) (x3 : Int32) (x5 : Int32) (x7 : Int32) (x8 : Int32) (x10 : Int32) (s0 : Int32) : Option (CD × Int32) := k353 D x0 x3 x5 x7 x8 s0 (x10 + 1)
def f_L_isAt_b463 (F : Nat) (S : CS) (k353 : CD → Nat → Int32 → Int32 → Int32 → Int32 → Int32 → Int32 → Option (CD × Int32)) (D : CD) (x0 : Nat) (x3 : Int32) (x5 : Int32) (x7 : Int32) (x8 : Int32) (x10 : Int32) (x11 : Int32) (x12 : Int32) : Option (CD × Int32) := (if x11 = x8 then (if x12 = 0 then f_L_isAt_b491 F S k353 D x0 x3 x5 x7 x8 x10 1 else ckK S x0 6 <| cal (f_X6_rightOf F S D x0 x10) fun t5 => (if t5 = x5 then f_L_isAt_b491 F S k353 D x0 x3 x5 x7 x8 x10 1 else f_L_isAt_b491 F S k353 D x0 x3 x5 x7 x8 x10 0)) else f_L_isAt_b491 F S k353 D x0 x3 x5 x7 x8 x10 1)
def f_L_isAt_b438 (F : Nat) (S : CS) (k353 : CD → Nat → Int32 → Int32 → Int32 → Int32 → Int32 → Int32 → Option (CD × Int32)) (D : CD) (x0 : Nat) (x3 : Int32) (x5 : Int32) (x7 : Int32) (x8 : Int32) (x10 : Int32) (x11 : Int32) (s0 : Int32) : Option (CD × Int32) := (if x11 = x7 then (if s0 = 0 then f_L_isAt_b463 F S k353 D x0 x3 x5 x7 x8 x10 x11 s0 else ckK S x0 6 <| cal (f_X6_leftOf F S D x0 x10) fun t5 => (if t5 = x5 then f_L_isAt_b463 F S k353 D x0 x3 x5 x7 x8 x10 x11 s0 else f_L_isAt_b491 F S k353 D x0 x3 x5 x7 x8 x10 0)) else f_L_isAt_b463 F S k353 D x0 x3 x5 x7 x8 x10 x11 s0)
def f_L_isAt_L353 (F : Nat) (S : CS) : Nat → CD → Nat → Int32 → Int32 → Int32 → Int32 → Int32 → Int32 → Option (CD × Int32)
  | 0, _, _, _, _, _, _, _, _ => none
  | n353 + 1, D, x0, x3, x5, x7, x8, x9, x10 => ckK S x0 6 <| cal (f_X6_edges F S D x0) fun t3 => (if t3 ≤ x10 then okB x9 (some (D, x9)) else (if x9 = 0 then okB x9 (some (D, x9)) else cal (f_X6_segmentOf F S D x0 x10) fun t9 => cal (f_X6_from F S D x0 x10) fun t11 => cal (f_X6_xNumerator F S D x0 t11) fun t13 => cal (f_X6_from F S D x0 x10) fun t15 => cal (f_X6_xDenominator F S D x0 t15) fun t17 => (if 0 < (lg_cmp t13.toInt64 (x3.toInt64 * t17.toInt64)) then f_L_isAt_b438 F S ((f_L_isAt_L353 F S n353)) D x0 x3 x5 x7 x8 x10 t9 0 else cal (f_X6_to F S D x0 x10) fun t20 => cal (f_X6_xNumerator F S D x0 t20) fun t22 => cal (f_X6_to F S D x0 x10) fun t24 => cal (f_X6_xDenominator F S D x0 t24) fun t26 => (if (lg_cmp t22.toInt64 (x3.toInt64 * t26.toInt64)) ≤ 0 then f_L_isAt_b438 F S ((f_L_isAt_L353 F S n353)) D x0 x3 x5 x7 x8 x10 t9 0 else f_L_isAt_b438 F S ((f_L_isAt_L353 F S n353)) D x0 x3 x5 x7 x8 x10 t9 1))))
def f_L_isAt_b289 (F : Nat) (S : CS) (k21 : CD → Nat → Nat → Nat → Int32 → Int32 → Int32 → Int32 → Int32 → Int32 → Int32 → Option (CD × Int32)) (D : CD) (x0 : Nat) (x1 : Nat) (x2 : Nat) (x3 : Int32) (x4 : Int32) (x5 : Int32) (x6 : Int32) (x7 : Int32) (x9 : Int32) (s0 : Int32) : Option (CD × Int32) := k21 D x0 x1 x2 x3 x4 x5 x6 x7 s0 (x9 + 1)
def f_L_isAt_b253 (F : Nat) (S : CS) (k21 : CD → Nat → Nat → Nat → Int32 → Int32 → Int32 → Int32 → Int32 → Int32 → Int32 → Option (CD × Int32)) (D : CD) (x0 : Nat) (x1 : Nat) (x2 : Nat) (x3 : Int32) (x4 : Int32) (x5 : Int32) (x6 : Int32) (x8 : Int32) (x9 : Int32) (x11 : Int32) (x12 : Int32) (s0 : Int32) : Option (CD × Int32) := (if x11 = 0 then f_L_isAt_b289 F S k21 D x0 x1 x2 x3 x4 x5 x6 s0 x9 x8 else (if x12 = 0 then (if x8 < 0 then f_L_isAt_b289 F S k21 D x0 x1 x2 x3 x4 x5 x6 s0 x9 x9 else cal (f_L_isAbove F S D x1 x8 x9 x3) fun t5 => (if t5 = 0 then f_L_isAt_b289 F S k21 D x0 x1 x2 x3 x4 x5 x6 s0 x9 x8 else f_L_isAt_b289 F S k21 D x0 x1 x2 x3 x4 x5 x6 s0 x9 x9)) else f_L_isAt_b289 F S k21 D x0 x1 x2 x3 x4 x5 x6 s0 x9 x8))
def f_L_isAt_b222 (F : Nat) (S : CS) (k21 : CD → Nat → Nat → Nat → Int32 → Int32 → Int32 → Int32 → Int32 → Int32 → Int32 → Option (CD × Int32)) (D : CD) (x0 : Nat) (x1 : Nat) (x2 : Nat) (x3 : Int32) (x4 : Int32) (x5 : Int32) (x6 : Int32) (x7 : Int32) (x8 : Int32) (x9 : Int32) (x11 : Int32) (s0 : Int32) : Option (CD × Int32) := (if s0 = 0 then f_L_isAt_b253 F S k21 D x0 x1 x2 x3 x4 x5 x6 x8 x9 x11 s0 x7 else (if x7 < 0 then f_L_isAt_b253 F S k21 D x0 x1 x2 x3 x4 x5 x6 x8 x9 x11 s0 x9 else cal (f_L_isAbove F S D x1 x9 x7 x3) fun t4 => (if t4 = 0 then f_L_isAt_b253 F S k21 D x0 x1 x2 x3 x4 x5 x6 x8 x9 x11 s0 x7 else f_L_isAt_b253 F S k21 D x0 x1 x2 x3 x4 x5 x6 x8 x9 x11 s0 x9)))
def f_L_isAt_b189 (F : Nat) (S : CS) (k21 : CD → Nat → Nat → Nat → Int32 → Int32 → Int32 → Int32 → Int32 → Int32 → Int32 → Option (CD × Int32)) (D : CD) (x0 : Nat) (x1 : Nat) (x2 : Nat) (x3 : Int32) (x4 : Int32) (x5 : Int32) (x6 : Int32) (x7 : Int32) (x8 : Int32) (x9 : Int32) (s0 : Int32) : Option (CD × Int32) := (if s0 = 0 then f_L_isAt_b222 F S k21 D x0 x1 x2 x3 x4 x5 x6 x7 x8 x9 s0 0 else cal (f_L_height F S D x1 x9 x3) fun t3 => cal (f_L_dx F S D x1 x9) fun t5 => (if 0 ≤ (lg_cmp t3 (x4.toInt64 * t5)) then f_L_isAt_b222 F S k21 D x0 x1 x2 x3 x4 x5 x6 x7 x8 x9 s0 0 else f_L_isAt_b222 F S k21 D x0 x1 x2 x3 x4 x5 x6 x7 x8 x9 s0 1))
def f_L_isAt_b149 (F : Nat) (S : CS) (k21 : CD → Nat → Nat → Nat → Int32 → Int32 → Int32 → Int32 → Int32 → Int32 → Int32 → Option (CD × Int32)) (D : CD) (x0 : Nat) (x1 : Nat) (x2 : Nat) (x3 : Int32) (x4 : Int32) (x5 : Int32) (x7 : Int32) (x8 : Int32) (x9 : Int32) (s0 : Int32) : Option (CD × Int32) := cal (f_L_dx F S D x1 x9) fun t2 => (if (lg_cmp t2 0) ≤ 0 then f_L_isAt_b189 F S k21 D x0 x1 x2 x3 x4 x5 s0 x7 x8 x9 0 else ckK S x1 8 <| rdI (S.2.2.2 x1) (D.2.2.1 x1) (4 * x9) fun t5 => (if x3 < t5 then f_L_isAt_b189 F S k21 D x0 x1 x2 x3 x4 x5 s0 x7 x8 x9 0 else rdI (S.2.2.2 x1) (D.2.2.1 x1) ((4 * x9) + 2) fun t9 => (if t9 ≤ x3 then f_L_isAt_b189 F S k21 D x0 x1 x2 x3 x4 x5 s0 x7 x8 x9 0 else f_L_isAt_b189 F S k21 D x0 x1 x2 x3 x4 x5 s0 x7 x8 x9 1)))
def f_L_isAt_b132 (F : Nat) (S : CS) (k21 : CD → Nat → Nat → Nat → Int32 → Int32 → Int32 → Int32 → Int32 → Int32 → Int32 → Option (CD × Int32)) (D : CD) (x0 : Nat) (x1 : Nat) (x2 : Nat) (x3 : Int32) (x4 : Int32) (x5 : Int32) (x6 : Int32) (x7 : Int32) (x8 : Int32) (x9 : Int32) (s0 : Int32) : Option (CD × Int32) := (if x6 = 0 then (if s0 = 0 then f_L_isAt_b149 F S k21 D x0 x1 x2 x3 x4 x5 x7 x8 x9 0 else f_L_isAt_b149 F S k21 D x0 x1 x2 x3 x4 x5 x7 x8 x9 1) else f_L_isAt_b149 F S k21 D x0 x1 x2 x3 x4 x5 x7 x8 x9 1)
def f_L_isAt_L21 (F : Nat) (S : CS) : Nat → CD → Nat → Nat → Nat → Int32 → Int32 → Int32 → Int32 → Int32 → Int32 → Int32 → Option (CD × Int32)
  | 0, _, _, _, _, _, _, _, _, _, _, _ => none
  | n21 + 1, D, x0, x1, x2, x3, x4, x5, x6, x7, x8, x9 => ckK S x2 8 <| rdI (S.2.2.2 x2) (D.2.2.1 x2) 0 fun t2 => (if t2 ≤ x9 then (if x6 = 0 then (if x5 < 0 then f_L_isAt_L353 F S F D x0 x3 x5 x7 x8 0 0 else ckK S x0 6 <| cal (f_X6_faces F S D x0) fun t10 => (if t10 ≤ x5 then f_L_isAt_L353 F S F D x0 x3 x5 x7 x8 0 0 else (if x5 = 0 then f_L_isAt_L353 F S F D x0 x3 x5 x7 x8 1 0 else (if x7 < 0 then f_L_isAt_L353 F S F D x0 x3 x5 x7 x8 0 0 else (if x8 < 0 then f_L_isAt_L353 F S F D x0 x3 x5 x7 x8 0 0 else f_L_isAt_L353 F S F D x0 x3 x5 x7 x8 1 0))))) else (if x5 = ((-1)) then okB 1 (some (D, 1)) else okB 0 (some (D, 0)))) else cal (f_L_dx F S D x1 x9) fun t19 => (if (lg_cmp t19 0) = 0 then ckK S x1 8 <| rdI (S.2.2.2 x1) (D.2.2.1 x1) (4 * x9) fun t36 => (if t36 = x3 then rdI (S.2.2.2 x1) (D.2.2.1 x1) ((4 * x9) + 1) fun t40 => (if x4 < t40 then f_L_isAt_b132 F S ((f_L_isAt_L21 F S n21)) D x0 x1 x2 x3 x4 x5 x6 x7 x8 x9 0 else rdI (S.2.2.2 x1) (D.2.2.1 x1) ((4 * x9) + 3) fun t44 => (if t44 < x4 then f_L_isAt_b132 F S ((f_L_isAt_L21 F S n21)) D x0 x1 x2 x3 x4 x5 x6 x7 x8 x9 0 else f_L_isAt_b132 F S ((f_L_isAt_L21 F S n21)) D x0 x1 x2 x3 x4 x5 x6 x7 x8 x9 1)) else f_L_isAt_b132 F S ((f_L_isAt_L21 F S n21)) D x0 x1 x2 x3 x4 x5 x6 x7 x8 x9 0) else ckK S x1 8 <| rdI (S.2.2.2 x1) (D.2.2.1 x1) (4 * x9) fun t22 => (if x3 < t22 then f_L_isAt_b132 F S ((f_L_isAt_L21 F S n21)) D x0 x1 x2 x3 x4 x5 x6 x7 x8 x9 0 else rdI (S.2.2.2 x1) (D.2.2.1 x1) ((4 * x9) + 2) fun t26 => (if t26 < x3 then f_L_isAt_b132 F S ((f_L_isAt_L21 F S n21)) D x0 x1 x2 x3 x4 x5 x6 x7 x8 x9 0 else cal (f_L_height F S D x1 x9 x3) fun t31 => cal (f_L_dx F S D x1 x9) fun t33 => (if (lg_cmp t31 (x4.toInt64 * t33)) = 0 then f_L_isAt_b132 F S ((f_L_isAt_L21 F S n21)) D x0 x1 x2 x3 x4 x5 x6 x7 x8 x9 1 else f_L_isAt_b132 F S ((f_L_isAt_L21 F S n21)) D x0 x1 x2 x3 x4 x5 x6 x7 x8 x9 0)))))
def f_L_isAt (F : Nat) (S : CS) (D : CD) (a1 : Nat) (a2 : Nat) (a3 : Nat) (a4 : Int32) (a5 : Int32) : Option (CD × Int32) := ckK S a1 6 <| caM (f_X6_faceAt F S D a1 a4 a5) fun D3 t4 => f_L_isAt_L21 F S F D3 a1 a2 a3 a4 a5 t4 0 ((-1)) ((-1)) 0
set_option maxRecDepth 100000 in
set_option maxHeartbeats 4000000 in
theorem m_L_isAt (l : Launch) (G : cG) (F : Nat) (S : CS) (D D2 : CD) (a1 : Nat) (a2 : Nat) (a3 : Nat) (a4 : Int32) (a5 : Int32) (r : Int32) (h : f_L_isAt F S D a1 a2 a3 a4 a5 = some (D2, r)) : cMI l yL_isAt wL_isAt ({ frames := 7, cells := 0, slots := 0, locals := 157 }) G S [.ref a1, .ref a2, .ref a3, .int a4, .int a5] D D2 r := by
  refine cBodyI (cc := cL_isAt) (maxL := 13) (ret := (some .boolean)) (own := RL) (by decide) rfl rfl ?_
  intro sz p e s m below meth c hC hP
  skip
  have hC0 := hC
  obtain ⟨hx, hb, -, hts, hown, -, hml, -, -, -⟩ := hC0
  have hS : va_S (cA G S sz) s.heap s.heap [] := va_S.rf
  have L353 : ∀ (n353 : Nat) (H : Heap) (locs : List Loc) (ls : Array Slot) (D : CD) (x0 : Nat) (x3 : Int32) (x5 : Int32) (x7 : Int32) (x8 : Int32) (x9 : Int32) (x10 : Int32), va_P G.1 vwCl (cW G S D) H → va_S (cA G S sz) s.heap H locs → lv_has ls 13 [(0, .ref x0), (3, .int x3), (5, .int x5), (7, .int x7), (8, .int x8), (9, .int x9), (10, .int x10)] → f_L_isAt_L353 F S n353 D x0 x3 x5 x7 x8 x9 x10 = some (D2, r) → W p l e (headSpec wL_isAt ({ frames := 7, cells := 0, slots := 0, locals := 157 })).room s m ([.ref a1, .ref a2, .ref a3, .int a4, .int a5] : List Value).toArray below meth c H locs 0 0 (cQI below G S D2 sz ([.ref a1, .ref a2, .ref a3, .int a4, .int a5] : List Value).toArray s r) (F0 m 353 ls []) := by
    intro n353
    induction n353 with
    | zero =>
      intro H locs ls D x0 x3 x5 x7 x8 x9 x10 hP hS hl h
      rw [f_L_isAt_L353] at h; cases h
    | succ n353 ih353 =>
      have b491 : ∀ (H : Heap) (locs : List Loc) (ls : Array Slot) (D : CD) (x0 : Nat) (x3 : Int32) (x5 : Int32) (x7 : Int32) (x8 : Int32) (x10 : Int32) (s0 : Int32), va_P G.1 vwCl (cW G S D) H → va_S (cA G S sz) s.heap H locs → lv_has ls 13 [(0, .ref x0), (3, .int x3), (5, .int x5), (7, .int x7), (8, .int x8), (10, .int x10)] → f_L_isAt_b491 F S ((f_L_isAt_L353 F S n353)) D x0 x3 x5 x7 x8 x10 s0 = some (D2, r) → W p l e (headSpec wL_isAt ({ frames := 7, cells := 0, slots := 0, locals := 157 })).room s m ([.ref a1, .ref a2, .ref a3, .int a4, .int a5] : List Value).toArray below meth c H locs 0 0 (cQI below G S D2 sz ([.ref a1, .ref a2, .ref a3, .int a4, .int a5] : List Value).toArray s r) (F0 m 491 ls [.int s0]) := by
        intro H locs ls D x0 x3 x5 x7 x8 x10 s0 hP hS hl h
        unfold f_L_isAt_b491 at h
        refine lv_istore (lv' := [(9, .int s0), (0, .ref x0), (3, .int x3), (5, .int x5), (7, .int x7), (8, .int x8), (10, .int x10)]) hx hb dL_isAt_491 hl (by decide) rfl (fun ls hl => ?_)
        refine lv_iinc (v := x10 + 1) (lv' := [(10, .int (x10 + 1)), (9, .int s0), (0, .ref x0), (3, .int x3), (5, .int x5), (7, .int x7), (8, .int x8)]) hx hb dL_isAt_493 hl (k := 6) rfl rfl (by decide) rfl (fun ls hl => ?_)
        refine lv_goto (tgt := 353) hx hb dL_isAt_496 (by decide) ?_
        exact ih353 _ _ _ D x0 x3 x5 x7 x8 s0 (x10 + 1) hP hS (lv_sub hl [2, 3, 4, 5, 6, 1, 0] rfl) h
      have b463 : ∀ (H : Heap) (locs : List Loc) (ls : Array Slot) (D : CD) (x0 : Nat) (x3 : Int32) (x5 : Int32) (x7 : Int32) (x8 : Int32) (x10 : Int32) (x11 : Int32) (x12 : Int32), va_P G.1 vwCl (cW G S D) H → va_S (cA G S sz) s.heap H locs → lv_has ls 13 [(0, .ref x0), (3, .int x3), (5, .int x5), (7, .int x7), (8, .int x8), (10, .int x10), (11, .int x11), (12, .int x12)] → f_L_isAt_b463 F S ((f_L_isAt_L353 F S n353)) D x0 x3 x5 x7 x8 x10 x11 x12 = some (D2, r) → W p l e (headSpec wL_isAt ({ frames := 7, cells := 0, slots := 0, locals := 157 })).room s m ([.ref a1, .ref a2, .ref a3, .int a4, .int a5] : List Value).toArray below meth c H locs 0 0 (cQI below G S D2 sz ([.ref a1, .ref a2, .ref a3, .int a4, .int a5] : List Value).toArray s r) (F0 m 463 ls []) := by
        intro H locs ls D x0 x3 x5 x7 x8 x10 x11 x12 hP hS hl h
        unfold f_L_isAt_b463 at h
        refine lv_iload hx hb dL_isAt_463 (lv_at hl 6 rfl) ?_
        refine lv_iload hx hb dL_isAt_465 (lv_at hl 4 rfl) ?_
        refine lv_icmp_ne (tgt := 486) hx hb dL_isAt_467 (by decide) (fun u1 => ?_) (fun u1 => ?_)
        · have h := ite_f u1 h
          refine lv_iconst (v := 1) hx hb dL_isAt_486 (by decide) ?_
          refine lv_goto (tgt := 491) hx hb dL_isAt_487 (by decide) ?_
          exact b491 _ _ _ D x0 x3 x5 x7 x8 x10 1 hP hS (lv_sub hl [0, 1, 2, 3, 4, 5] rfl) h
        · have h := ite_t u1 h
          refine lv_iload hx hb dL_isAt_470 (lv_at hl 7 rfl) ?_
          refine lv_if_eq (tgt := 486) hx hb dL_isAt_472 (by decide) (fun u2 => ?_) (fun u2 => ?_)
          · have h := ite_t u2 h
            refine lv_iconst (v := 1) hx hb dL_isAt_486 (by decide) ?_
            refine lv_goto (tgt := 491) hx hb dL_isAt_487 (by decide) ?_
            exact b491 _ _ _ D x0 x3 x5 x7 x8 x10 1 hP hS (lv_sub hl [0, 1, 2, 3, 4, 5] rfl) h
          · have h := ite_f u2 h
            refine lv_aload_n hx hb dL_isAt_475 rfl (lv_at hl 0 rfl) ?_
            refine lv_iload hx hb dL_isAt_476 (lv_at hl 5 rfl) ?_
            obtain ⟨z3, h⟩ := ckK_el h
            obtain ⟨t5, e4, h⟩ := cal_el h
            refine c_VI (As := [.int x10]) (rest := []) hC hP hS z3.1 (cE_6 z3.2) (C := RX6) (T := TX6) (N := 8) rfl (m_X6_rightOf l G F S D x0 x10 t5 e4) (cwV 1 hts (gVA wa_179 wa_180 wa_181 (hWCA _ wc_66) (hWCA _ wc_111) hWCA) rfl rfl rfl (by decide +kernel) ⟨Nat.le_of_ble_eq_true rfl, Nat.le_of_ble_eq_true rfl⟩) rfl hl.1 rfl (Nat.le_of_ble_eq_true rfl) dL_isAt_478 (fun H locs hP hS => ?_)
            refine lv_iload hx hb dL_isAt_481 (lv_at hl 2 rfl) ?_
            refine lv_icmp_ne (tgt := 490) hx hb dL_isAt_483 (by decide) (fun u6 => ?_) (fun u6 => ?_)
            · have h := ite_f u6 h
              refine lv_iconst (v := 0) hx hb dL_isAt_490 (by decide) ?_
              exact b491 _ _ _ D x0 x3 x5 x7 x8 x10 0 hP hS (lv_sub hl [0, 1, 2, 3, 4, 5] rfl) h
            · have h := ite_t u6 h
              refine lv_iconst (v := 1) hx hb dL_isAt_486 (by decide) ?_
              refine lv_goto (tgt := 491) hx hb dL_isAt_487 (by decide) ?_
              exact b491 _ _ _ D x0 x3 x5 x7 x8 x10 1 hP hS (lv_sub hl [0, 1, 2, 3, 4, 5] rfl) h
      have b438 : ∀ (H : Heap) (locs : List Loc) (ls : Array Slot) (D : CD) (x0 : Nat) (x3 : Int32) (x5 : Int32) (x7 : Int32) (x8 : Int32) (x10 : Int32) (x11 : Int32) (s0 : Int32), va_P G.1 vwCl (cW G S D) H → va_S (cA G S sz) s.heap H locs → lv_has ls 13 [(0, .ref x0), (3, .int x3), (5, .int x5), (7, .int x7), (8, .int x8), (10, .int x10), (11, .int x11)] → f_L_isAt_b438 F S ((f_L_isAt_L353 F S n353)) D x0 x3 x5 x7 x8 x10 x11 s0 = some (D2, r) → W p l e (headSpec wL_isAt ({ frames := 7, cells := 0, slots := 0, locals := 157 })).room s m ([.ref a1, .ref a2, .ref a3, .int a4, .int a5] : List Value).toArray below meth c H locs 0 0 (cQI below G S D2 sz ([.ref a1, .ref a2, .ref a3, .int a4, .int a5] : List Value).toArray s r) (F0 m 438 ls [.int s0]) := by
        intro H locs ls D x0 x3 x5 x7 x8 x10 x11 s0 hP hS hl h
        unfold f_L_isAt_b438 at h
        refine lv_istore (lv' := [(12, .int s0), (0, .ref x0), (3, .int x3), (5, .int x5), (7, .int x7), (8, .int x8), (10, .int x10), (11, .int x11)]) hx hb dL_isAt_438 hl (by decide) rfl (fun ls hl => ?_)
        refine lv_iload hx hb dL_isAt_440 (lv_at hl 7 rfl) ?_
        refine lv_iload hx hb dL_isAt_442 (lv_at hl 4 rfl) ?_
        refine lv_icmp_ne (tgt := 463) hx hb dL_isAt_444 (by decide) (fun u1 => ?_) (fun u1 => ?_)
        · have h := ite_f u1 h
          exact b463 _ _ _ D x0 x3 x5 x7 x8 x10 x11 s0 hP hS (lv_sub hl [1, 2, 3, 4, 5, 6, 7, 0] rfl) h
        · have h := ite_t u1 h
          refine lv_iload hx hb dL_isAt_447 (lv_at hl 0 rfl) ?_
          refine lv_if_eq (tgt := 463) hx hb dL_isAt_449 (by decide) (fun u2 => ?_) (fun u2 => ?_)
          · have h := ite_t u2 h
            exact b463 _ _ _ D x0 x3 x5 x7 x8 x10 x11 s0 hP hS (lv_sub hl [1, 2, 3, 4, 5, 6, 7, 0] rfl) h
          · have h := ite_f u2 h
            refine lv_aload_n hx hb dL_isAt_452 rfl (lv_at hl 1 rfl) ?_
            refine lv_iload hx hb dL_isAt_453 (lv_at hl 6 rfl) ?_
            obtain ⟨z3, h⟩ := ckK_el h
            obtain ⟨t5, e4, h⟩ := cal_el h
            refine c_VI (As := [.int x10]) (rest := []) hC hP hS z3.1 (cE_6 z3.2) (C := RX6) (T := TX6) (N := 8) rfl (m_X6_leftOf l G F S D x0 x10 t5 e4) (cwV 1 hts (gVA wa_176 wa_177 wa_178 (hWCA _ wc_66) (hWCA _ wc_110) hWCA) rfl rfl rfl (by decide +kernel) ⟨Nat.le_of_ble_eq_true rfl, Nat.le_of_ble_eq_true rfl⟩) rfl hl.1 rfl (Nat.le_of_ble_eq_true rfl) dL_isAt_455 (fun H locs hP hS => ?_)
            refine lv_iload hx hb dL_isAt_458 (lv_at hl 3 rfl) ?_
            refine lv_icmp_ne (tgt := 490) hx hb dL_isAt_460 (by decide) (fun u6 => ?_) (fun u6 => ?_)
            · have h := ite_f u6 h
              refine lv_iconst (v := 0) hx hb dL_isAt_490 (by decide) ?_
              exact b491 _ _ _ D x0 x3 x5 x7 x8 x10 0 hP hS (lv_sub hl [1, 2, 3, 4, 5, 6] rfl) h
            · have h := ite_t u6 h
              exact b463 _ _ _ D x0 x3 x5 x7 x8 x10 x11 s0 hP hS (lv_sub hl [1, 2, 3, 4, 5, 6, 7, 0] rfl) h
      intro H locs ls D x0 x3 x5 x7 x8 x9 x10 hP hS hl h
      rw [f_L_isAt_L353] at h
      refine lv_iload hx hb dL_isAt_353 (lv_at hl 6 rfl) ?_
      refine lv_aload_n hx hb dL_isAt_355 rfl (lv_at hl 0 rfl) ?_
      obtain ⟨z1, h⟩ := ckK_el h
      obtain ⟨t3, e2, h⟩ := cal_el h
      refine c_VI (As := []) (rest := [.int x10]) hC hP hS z1.1 (cE_6 z1.2) (C := RX6) (T := TX6) (N := 8) rfl (m_X6_edges l G F S D x0 t3 e2) (cwV 0 hts (gVA wa_226 wa_227 wa_228 (hWCA _ wc_66) (hWCA _ wc_75) hWCA) rfl rfl rfl (by decide +kernel) ⟨Nat.le_of_ble_eq_true rfl, Nat.le_of_ble_eq_true rfl⟩) rfl hl.1 rfl (Nat.le_of_ble_eq_true rfl) dL_isAt_356 (fun H locs hP hS => ?_)
      refine lv_icmp_ge (tgt := 499) hx hb dL_isAt_359 (by decide) (fun u4 => ?_) (fun u4 => ?_)
      · have h := ite_t u4 h
        refine lv_iload hx hb dL_isAt_499 (lv_at hl 5 rfl) ?_
        obtain ⟨z5, h⟩ := okB_el h
        cases h
        exact c_zret hC hP hS z5 rfl dL_isAt_501
      · have h := ite_f u4 h
        refine lv_iload hx hb dL_isAt_362 (lv_at hl 5 rfl) ?_
        refine lv_if_eq (tgt := 499) hx hb dL_isAt_364 (by decide) (fun u6 => ?_) (fun u6 => ?_)
        · have h := ite_t u6 h
          refine lv_iload hx hb dL_isAt_499 (lv_at hl 5 rfl) ?_
          obtain ⟨z7, h⟩ := okB_el h
          cases h
          exact c_zret hC hP hS z7 rfl dL_isAt_501
        · have h := ite_f u6 h
          refine lv_aload_n hx hb dL_isAt_367 rfl (lv_at hl 0 rfl) ?_
          refine lv_iload hx hb dL_isAt_368 (lv_at hl 6 rfl) ?_
          obtain ⟨t9, e8, h⟩ := cal_el h
          refine c_VI (As := [.int x10]) (rest := []) hC hP hS z1.1 (cE_6 z1.2) (C := RX6) (T := TX6) (N := 8) rfl (m_X6_segmentOf l G F S D x0 x10 t9 e8) (cwV 1 hts (gVA wa_167 wa_168 wa_169 (hWCA _ wc_66) (hWCA _ wc_104) hWCA) rfl rfl rfl (by decide +kernel) ⟨Nat.le_of_ble_eq_true rfl, Nat.le_of_ble_eq_true rfl⟩) rfl hl.1 rfl (Nat.le_of_ble_eq_true rfl) dL_isAt_370 (fun H locs hP hS => ?_)
          refine lv_istore (lv' := [(11, .int t9), (0, .ref x0), (3, .int x3), (5, .int x5), (7, .int x7), (8, .int x8), (9, .int x9), (10, .int x10)]) hx hb dL_isAt_373 hl (by decide) rfl (fun ls hl => ?_)
          refine lv_aload_n hx hb dL_isAt_375 rfl (lv_at hl 1 rfl) ?_
          refine lv_aload_n hx hb dL_isAt_376 rfl (lv_at hl 1 rfl) ?_
          refine lv_iload hx hb dL_isAt_377 (lv_at hl 7 rfl) ?_
          obtain ⟨t11, e10, h⟩ := cal_el h
          refine c_VI (As := [.int x10]) (rest := [.ref x0]) hC hP hS z1.1 (cE_6 z1.2) (C := RX6) (T := TX6) (N := 8) rfl (m_X6_from l G F S D x0 x10 t11 e10) (cwV 1 hts (gVA wa_170 wa_171 wa_172 (hWCA _ wc_66) (hWCA _ wc_108) hWCA) rfl rfl rfl (by decide +kernel) ⟨Nat.le_of_ble_eq_true rfl, Nat.le_of_ble_eq_true rfl⟩) rfl hl.1 rfl (Nat.le_of_ble_eq_true rfl) dL_isAt_379 (fun H locs hP hS => ?_)
          obtain ⟨t13, e12, h⟩ := cal_el h
          refine c_VI (As := [.int t11]) (rest := []) hC hP hS z1.1 (cE_6 z1.2) (C := RX6) (T := TX6) (N := 8) rfl (m_X6_xNumerator l G F S D x0 t11 t13 e12) (cwV 1 hts (gVA wa_152 wa_153 wa_154 (hWCA _ wc_66) (hWCA _ wc_85) hWCA) rfl rfl rfl (by decide +kernel) ⟨Nat.le_of_ble_eq_true rfl, Nat.le_of_ble_eq_true rfl⟩) rfl hl.1 rfl (Nat.le_of_ble_eq_true rfl) dL_isAt_382 (fun H locs hP hS => ?_)
          refine lv_i2l (v := t13.toInt64) hx hb dL_isAt_385 rfl ?_
          refine lv_iload_n hx hb dL_isAt_386 rfl (lv_at hl 2 rfl) ?_
          refine lv_i2l (v := x3.toInt64) hx hb dL_isAt_387 rfl ?_
          refine lv_aload_n hx hb dL_isAt_388 rfl (lv_at hl 1 rfl) ?_
          refine lv_aload_n hx hb dL_isAt_389 rfl (lv_at hl 1 rfl) ?_
          refine lv_iload hx hb dL_isAt_390 (lv_at hl 7 rfl) ?_
          obtain ⟨t15, e14, h⟩ := cal_el h
          refine c_VI (As := [.int x10]) (rest := [.ref x0, .long x3.toInt64, .long t13.toInt64]) hC hP hS z1.1 (cE_6 z1.2) (C := RX6) (T := TX6) (N := 8) rfl (m_X6_from l G F S D x0 x10 t15 e14) (cwV 1 hts (gVA wa_170 wa_171 wa_172 (hWCA _ wc_66) (hWCA _ wc_108) hWCA) rfl rfl rfl (by decide +kernel) ⟨Nat.le_of_ble_eq_true rfl, Nat.le_of_ble_eq_true rfl⟩) rfl hl.1 rfl (Nat.le_of_ble_eq_true rfl) dL_isAt_392 (fun H locs hP hS => ?_)
          obtain ⟨t17, e16, h⟩ := cal_el h
          refine c_VI (As := [.int t15]) (rest := [.long x3.toInt64, .long t13.toInt64]) hC hP hS z1.1 (cE_6 z1.2) (C := RX6) (T := TX6) (N := 8) rfl (m_X6_xDenominator l G F S D x0 t15 t17 e16) (cwV 1 hts (gVA wa_155 wa_156 wa_157 (hWCA _ wc_66) (hWCA _ wc_93) hWCA) rfl rfl rfl (by decide +kernel) ⟨Nat.le_of_ble_eq_true rfl, Nat.le_of_ble_eq_true rfl⟩) rfl hl.1 rfl (Nat.le_of_ble_eq_true rfl) dL_isAt_395 (fun H locs hP hS => ?_)
          refine lv_i2l (v := t17.toInt64) hx hb dL_isAt_398 rfl ?_
          refine lv_lmul hx hb dL_isAt_399 ?_
          refine W.lcmp hx hb dL_isAt_400 ?_
          refine lv_if_gt (tgt := 437) hx hb dL_isAt_401 (by decide) (fun u18 => ?_) (fun u18 => ?_)
          · have h := ite_t u18 h
            refine lv_iconst (v := 0) hx hb dL_isAt_437 (by decide) ?_
            exact b438 _ _ _ D x0 x3 x5 x7 x8 x10 t9 0 hP hS (lv_sub hl [1, 2, 3, 4, 5, 7, 0] rfl) h
          · have h := ite_f u18 h
            refine lv_aload_n hx hb dL_isAt_404 rfl (lv_at hl 1 rfl) ?_
            refine lv_aload_n hx hb dL_isAt_405 rfl (lv_at hl 1 rfl) ?_
            refine lv_iload hx hb dL_isAt_406 (lv_at hl 7 rfl) ?_
            obtain ⟨t20, e19, h⟩ := cal_el h
            refine c_VI (As := [.int x10]) (rest := [.ref x0]) hC hP hS z1.1 (cE_6 z1.2) (C := RX6) (T := TX6) (N := 8) rfl (m_X6_to l G F S D x0 x10 t20 e19) (cwV 1 hts (gVA wa_173 wa_174 wa_175 (hWCA _ wc_66) (hWCA _ wc_109) hWCA) rfl rfl rfl (by decide +kernel) ⟨Nat.le_of_ble_eq_true rfl, Nat.le_of_ble_eq_true rfl⟩) rfl hl.1 rfl (Nat.le_of_ble_eq_true rfl) dL_isAt_408 (fun H locs hP hS => ?_)
            obtain ⟨t22, e21, h⟩ := cal_el h
            refine c_VI (As := [.int t20]) (rest := []) hC hP hS z1.1 (cE_6 z1.2) (C := RX6) (T := TX6) (N := 8) rfl (m_X6_xNumerator l G F S D x0 t20 t22 e21) (cwV 1 hts (gVA wa_152 wa_153 wa_154 (hWCA _ wc_66) (hWCA _ wc_85) hWCA) rfl rfl rfl (by decide +kernel) ⟨Nat.le_of_ble_eq_true rfl, Nat.le_of_ble_eq_true rfl⟩) rfl hl.1 rfl (Nat.le_of_ble_eq_true rfl) dL_isAt_411 (fun H locs hP hS => ?_)
            refine lv_i2l (v := t22.toInt64) hx hb dL_isAt_414 rfl ?_
            refine lv_iload_n hx hb dL_isAt_415 rfl (lv_at hl 2 rfl) ?_
            refine lv_i2l (v := x3.toInt64) hx hb dL_isAt_416 rfl ?_
            refine lv_aload_n hx hb dL_isAt_417 rfl (lv_at hl 1 rfl) ?_
            refine lv_aload_n hx hb dL_isAt_418 rfl (lv_at hl 1 rfl) ?_
            refine lv_iload hx hb dL_isAt_419 (lv_at hl 7 rfl) ?_
            obtain ⟨t24, e23, h⟩ := cal_el h
            refine c_VI (As := [.int x10]) (rest := [.ref x0, .long x3.toInt64, .long t22.toInt64]) hC hP hS z1.1 (cE_6 z1.2) (C := RX6) (T := TX6) (N := 8) rfl (m_X6_to l G F S D x0 x10 t24 e23) (cwV 1 hts (gVA wa_173 wa_174 wa_175 (hWCA _ wc_66) (hWCA _ wc_109) hWCA) rfl rfl rfl (by decide +kernel) ⟨Nat.le_of_ble_eq_true rfl, Nat.le_of_ble_eq_true rfl⟩) rfl hl.1 rfl (Nat.le_of_ble_eq_true rfl) dL_isAt_421 (fun H locs hP hS => ?_)
            obtain ⟨t26, e25, h⟩ := cal_el h
            refine c_VI (As := [.int t24]) (rest := [.long x3.toInt64, .long t22.toInt64]) hC hP hS z1.1 (cE_6 z1.2) (C := RX6) (T := TX6) (N := 8) rfl (m_X6_xDenominator l G F S D x0 t24 t26 e25) (cwV 1 hts (gVA wa_155 wa_156 wa_157 (hWCA _ wc_66) (hWCA _ wc_93) hWCA) rfl rfl rfl (by decide +kernel) ⟨Nat.le_of_ble_eq_true rfl, Nat.le_of_ble_eq_true rfl⟩) rfl hl.1 rfl (Nat.le_of_ble_eq_true rfl) dL_isAt_424 (fun H locs hP hS => ?_)
            refine lv_i2l (v := t26.toInt64) hx hb dL_isAt_427 rfl ?_
            refine lv_lmul hx hb dL_isAt_428 ?_
            refine W.lcmp hx hb dL_isAt_429 ?_
            refine lv_if_le (tgt := 437) hx hb dL_isAt_430 (by decide) (fun u27 => ?_) (fun u27 => ?_)
            · have h := ite_t u27 h
              refine lv_iconst (v := 0) hx hb dL_isAt_437 (by decide) ?_
              exact b438 _ _ _ D x0 x3 x5 x7 x8 x10 t9 0 hP hS (lv_sub hl [1, 2, 3, 4, 5, 7, 0] rfl) h
            · have h := ite_f u27 h
              refine lv_iconst (v := 1) hx hb dL_isAt_433 (by decide) ?_
              refine lv_goto (tgt := 438) hx hb dL_isAt_434 (by decide) ?_
              exact b438 _ _ _ D x0 x3 x5 x7 x8 x10 t9 1 hP hS (lv_sub hl [1, 2, 3, 4, 5, 7, 0] rfl) h
  have L21 : ∀ (n21 : Nat) (H : Heap) (locs : List Loc) (ls : Array Slot) (D : CD) (x0 : Nat) (x1 : Nat) (x2 : Nat) (x3 : Int32) (x4 : Int32) (x5 : Int32) (x6 : Int32) (x7 : Int32) (x8 : Int32) (x9 : Int32), va_P G.1 vwCl (cW G S D) H → va_S (cA G S sz) s.heap H locs → lv_has ls 13 [(0, .ref x0), (1, .ref x1), (2, .ref x2), (3, .int x3), (4, .int x4), (5, .int x5), (6, .int x6), (7, .int x7), (8, .int x8), (9, .int x9)] → f_L_isAt_L21 F S n21 D x0 x1 x2 x3 x4 x5 x6 x7 x8 x9 = some (D2, r) → W p l e (headSpec wL_isAt ({ frames := 7, cells := 0, slots := 0, locals := 157 })).room s m ([.ref a1, .ref a2, .ref a3, .int a4, .int a5] : List Value).toArray below meth c H locs 0 0 (cQI below G S D2 sz ([.ref a1, .ref a2, .ref a3, .int a4, .int a5] : List Value).toArray s r) (F0 m 21 ls []) := by
    intro n21
    induction n21 with
    | zero =>
      intro H locs ls D x0 x1 x2 x3 x4 x5 x6 x7 x8 x9 hP hS hl h
      rw [f_L_isAt_L21] at h; cases h
    | succ n21 ih21 =>
      have b289 : ∀ (H : Heap) (locs : List Loc) (ls : Array Slot) (D : CD) (x0 : Nat) (x1 : Nat) (x2 : Nat) (x3 : Int32) (x4 : Int32) (x5 : Int32) (x6 : Int32) (x7 : Int32) (x9 : Int32) (s0 : Int32), va_P G.1 vwCl (cW G S D) H → va_S (cA G S sz) s.heap H locs → lv_has ls 13 [(0, .ref x0), (1, .ref x1), (2, .ref x2), (3, .int x3), (4, .int x4), (5, .int x5), (6, .int x6), (7, .int x7), (9, .int x9)] → f_L_isAt_b289 F S ((f_L_isAt_L21 F S n21)) D x0 x1 x2 x3 x4 x5 x6 x7 x9 s0 = some (D2, r) → W p l e (headSpec wL_isAt ({ frames := 7, cells := 0, slots := 0, locals := 157 })).room s m ([.ref a1, .ref a2, .ref a3, .int a4, .int a5] : List Value).toArray below meth c H locs 0 0 (cQI below G S D2 sz ([.ref a1, .ref a2, .ref a3, .int a4, .int a5] : List Value).toArray s r) (F0 m 289 ls [.int s0]) := by
        intro H locs ls D x0 x1 x2 x3 x4 x5 x6 x7 x9 s0 hP hS hl h
        unfold f_L_isAt_b289 at h
        refine lv_istore (lv' := [(8, .int s0), (0, .ref x0), (1, .ref x1), (2, .ref x2), (3, .int x3), (4, .int x4), (5, .int x5), (6, .int x6), (7, .int x7), (9, .int x9)]) hx hb dL_isAt_289 hl (by decide) rfl (fun ls hl => ?_)
        refine lv_iinc (v := x9 + 1) (lv' := [(9, .int (x9 + 1)), (8, .int s0), (0, .ref x0), (1, .ref x1), (2, .ref x2), (3, .int x3), (4, .int x4), (5, .int x5), (6, .int x6), (7, .int x7)]) hx hb dL_isAt_291 hl (k := 9) rfl rfl (by decide) rfl (fun ls hl => ?_)
        refine lv_goto (tgt := 21) hx hb dL_isAt_294 (by decide) ?_
        exact ih21 _ _ _ D x0 x1 x2 x3 x4 x5 x6 x7 s0 (x9 + 1) hP hS (lv_sub hl [2, 3, 4, 5, 6, 7, 8, 9, 1, 0] rfl) h
      have b253 : ∀ (H : Heap) (locs : List Loc) (ls : Array Slot) (D : CD) (x0 : Nat) (x1 : Nat) (x2 : Nat) (x3 : Int32) (x4 : Int32) (x5 : Int32) (x6 : Int32) (x8 : Int32) (x9 : Int32) (x11 : Int32) (x12 : Int32) (s0 : Int32), va_P G.1 vwCl (cW G S D) H → va_S (cA G S sz) s.heap H locs → lv_has ls 13 [(0, .ref x0), (1, .ref x1), (2, .ref x2), (3, .int x3), (4, .int x4), (5, .int x5), (6, .int x6), (8, .int x8), (9, .int x9), (11, .int x11), (12, .int x12)] → f_L_isAt_b253 F S ((f_L_isAt_L21 F S n21)) D x0 x1 x2 x3 x4 x5 x6 x8 x9 x11 x12 s0 = some (D2, r) → W p l e (headSpec wL_isAt ({ frames := 7, cells := 0, slots := 0, locals := 157 })).room s m ([.ref a1, .ref a2, .ref a3, .int a4, .int a5] : List Value).toArray below meth c H locs 0 0 (cQI below G S D2 sz ([.ref a1, .ref a2, .ref a3, .int a4, .int a5] : List Value).toArray s r) (F0 m 253 ls [.int s0]) := by
        intro H locs ls D x0 x1 x2 x3 x4 x5 x6 x8 x9 x11 x12 s0 hP hS hl h
        unfold f_L_isAt_b253 at h
        refine lv_istore (lv' := [(7, .int s0), (0, .ref x0), (1, .ref x1), (2, .ref x2), (3, .int x3), (4, .int x4), (5, .int x5), (6, .int x6), (8, .int x8), (9, .int x9), (11, .int x11), (12, .int x12)]) hx hb dL_isAt_253 hl (by decide) rfl (fun ls hl => ?_)
        refine lv_iload hx hb dL_isAt_255 (lv_at hl 10 rfl) ?_
        refine lv_if_eq (tgt := 287) hx hb dL_isAt_257 (by decide) (fun u1 => ?_) (fun u1 => ?_)
        · have h := ite_t u1 h
          refine lv_iload hx hb dL_isAt_287 (lv_at hl 8 rfl) ?_
          exact b289 _ _ _ D x0 x1 x2 x3 x4 x5 x6 s0 x9 x8 hP hS (lv_sub hl [1, 2, 3, 4, 5, 6, 7, 0, 9] rfl) h
        · have h := ite_f u1 h
          refine lv_iload hx hb dL_isAt_260 (lv_at hl 11 rfl) ?_
          refine lv_if_ne (tgt := 287) hx hb dL_isAt_262 (by decide) (fun u2 => ?_) (fun u2 => ?_)
          · have h := ite_f u2 h
            refine lv_iload hx hb dL_isAt_287 (lv_at hl 8 rfl) ?_
            exact b289 _ _ _ D x0 x1 x2 x3 x4 x5 x6 s0 x9 x8 hP hS (lv_sub hl [1, 2, 3, 4, 5, 6, 7, 0, 9] rfl) h
          · have h := ite_t u2 h
            refine lv_iload hx hb dL_isAt_265 (lv_at hl 8 rfl) ?_
            refine lv_if_lt (tgt := 282) hx hb dL_isAt_267 (by decide) (fun u3 => ?_) (fun u3 => ?_)
            · have h := ite_t u3 h
              refine lv_iload hx hb dL_isAt_282 (lv_at hl 9 rfl) ?_
              refine lv_goto (tgt := 289) hx hb dL_isAt_284 (by decide) ?_
              exact b289 _ _ _ D x0 x1 x2 x3 x4 x5 x6 s0 x9 x9 hP hS (lv_sub hl [1, 2, 3, 4, 5, 6, 7, 0, 9] rfl) h
            · have h := ite_f u3 h
              refine lv_aload_n hx hb dL_isAt_270 rfl (lv_at hl 2 rfl) ?_
              refine lv_iload hx hb dL_isAt_271 (lv_at hl 8 rfl) ?_
              refine lv_iload hx hb dL_isAt_273 (lv_at hl 9 rfl) ?_
              refine lv_iload_n hx hb dL_isAt_275 rfl (lv_at hl 4 rfl) ?_
              obtain ⟨t5, e4, h⟩ := cal_el h
              refine c_SI (As := [.ref x1, .int x8, .int x9, .int x3]) (rest := []) hC hP hS (m_L_isAbove l G F S D x1 x8 x9 x3 t5 e4) (va_cwS 4 hts (gSA wa_253 wa_254 wa_233 wa_249 (fun w h => h)) rfl rfl rfl (by decide +kernel) ⟨Nat.le_of_ble_eq_true rfl, Nat.le_of_ble_eq_true rfl⟩) rfl hl.1 rfl (Nat.le_of_ble_eq_true rfl) dL_isAt_276 (fun H locs hP hS => ?_)
              refine lv_if_eq (tgt := 287) hx hb dL_isAt_279 (by decide) (fun u6 => ?_) (fun u6 => ?_)
              · have h := ite_t u6 h
                refine lv_iload hx hb dL_isAt_287 (lv_at hl 8 rfl) ?_
                exact b289 _ _ _ D x0 x1 x2 x3 x4 x5 x6 s0 x9 x8 hP hS (lv_sub hl [1, 2, 3, 4, 5, 6, 7, 0, 9] rfl) h
              · have h := ite_f u6 h
                refine lv_iload hx hb dL_isAt_282 (lv_at hl 9 rfl) ?_
                refine lv_goto (tgt := 289) hx hb dL_isAt_284 (by decide) ?_
                exact b289 _ _ _ D x0 x1 x2 x3 x4 x5 x6 s0 x9 x9 hP hS (lv_sub hl [1, 2, 3, 4, 5, 6, 7, 0, 9] rfl) h
      have b222 : ∀ (H : Heap) (locs : List Loc) (ls : Array Slot) (D : CD) (x0 : Nat) (x1 : Nat) (x2 : Nat) (x3 : Int32) (x4 : Int32) (x5 : Int32) (x6 : Int32) (x7 : Int32) (x8 : Int32) (x9 : Int32) (x11 : Int32) (s0 : Int32), va_P G.1 vwCl (cW G S D) H → va_S (cA G S sz) s.heap H locs → lv_has ls 13 [(0, .ref x0), (1, .ref x1), (2, .ref x2), (3, .int x3), (4, .int x4), (5, .int x5), (6, .int x6), (7, .int x7), (8, .int x8), (9, .int x9), (11, .int x11)] → f_L_isAt_b222 F S ((f_L_isAt_L21 F S n21)) D x0 x1 x2 x3 x4 x5 x6 x7 x8 x9 x11 s0 = some (D2, r) → W p l e (headSpec wL_isAt ({ frames := 7, cells := 0, slots := 0, locals := 157 })).room s m ([.ref a1, .ref a2, .ref a3, .int a4, .int a5] : List Value).toArray below meth c H locs 0 0 (cQI below G S D2 sz ([.ref a1, .ref a2, .ref a3, .int a4, .int a5] : List Value).toArray s r) (F0 m 222 ls [.int s0]) := by
        intro H locs ls D x0 x1 x2 x3 x4 x5 x6 x7 x8 x9 x11 s0 hP hS hl h
        unfold f_L_isAt_b222 at h
        refine lv_istore (lv' := [(12, .int s0), (0, .ref x0), (1, .ref x1), (2, .ref x2), (3, .int x3), (4, .int x4), (5, .int x5), (6, .int x6), (7, .int x7), (8, .int x8), (9, .int x9), (11, .int x11)]) hx hb dL_isAt_222 hl (by decide) rfl (fun ls hl => ?_)
        refine lv_iload hx hb dL_isAt_224 (lv_at hl 0 rfl) ?_
        refine lv_if_eq (tgt := 251) hx hb dL_isAt_226 (by decide) (fun u1 => ?_) (fun u1 => ?_)
        · have h := ite_t u1 h
          refine lv_iload hx hb dL_isAt_251 (lv_at hl 8 rfl) ?_
          exact b253 _ _ _ D x0 x1 x2 x3 x4 x5 x6 x8 x9 x11 s0 x7 hP hS (lv_sub hl [1, 2, 3, 4, 5, 6, 7, 9, 10, 11, 0] rfl) h
        · have h := ite_f u1 h
          refine lv_iload hx hb dL_isAt_229 (lv_at hl 8 rfl) ?_
          refine lv_if_lt (tgt := 246) hx hb dL_isAt_231 (by decide) (fun u2 => ?_) (fun u2 => ?_)
          · have h := ite_t u2 h
            refine lv_iload hx hb dL_isAt_246 (lv_at hl 10 rfl) ?_
            refine lv_goto (tgt := 253) hx hb dL_isAt_248 (by decide) ?_
            exact b253 _ _ _ D x0 x1 x2 x3 x4 x5 x6 x8 x9 x11 s0 x9 hP hS (lv_sub hl [1, 2, 3, 4, 5, 6, 7, 9, 10, 11, 0] rfl) h
          · have h := ite_f u2 h
            refine lv_aload_n hx hb dL_isAt_234 rfl (lv_at hl 2 rfl) ?_
            refine lv_iload hx hb dL_isAt_235 (lv_at hl 10 rfl) ?_
            refine lv_iload hx hb dL_isAt_237 (lv_at hl 8 rfl) ?_
            refine lv_iload_n hx hb dL_isAt_239 rfl (lv_at hl 4 rfl) ?_
            obtain ⟨t4, e3, h⟩ := cal_el h
            refine c_SI (As := [.ref x1, .int x9, .int x7, .int x3]) (rest := []) hC hP hS (m_L_isAbove l G F S D x1 x9 x7 x3 t4 e3) (va_cwS 4 hts (gSA wa_253 wa_254 wa_233 wa_249 (fun w h => h)) rfl rfl rfl (by decide +kernel) ⟨Nat.le_of_ble_eq_true rfl, Nat.le_of_ble_eq_true rfl⟩) rfl hl.1 rfl (Nat.le_of_ble_eq_true rfl) dL_isAt_240 (fun H locs hP hS => ?_)
            refine lv_if_eq (tgt := 251) hx hb dL_isAt_243 (by decide) (fun u5 => ?_) (fun u5 => ?_)
            · have h := ite_t u5 h
              refine lv_iload hx hb dL_isAt_251 (lv_at hl 8 rfl) ?_
              exact b253 _ _ _ D x0 x1 x2 x3 x4 x5 x6 x8 x9 x11 s0 x7 hP hS (lv_sub hl [1, 2, 3, 4, 5, 6, 7, 9, 10, 11, 0] rfl) h
            · have h := ite_f u5 h
              refine lv_iload hx hb dL_isAt_246 (lv_at hl 10 rfl) ?_
              refine lv_goto (tgt := 253) hx hb dL_isAt_248 (by decide) ?_
              exact b253 _ _ _ D x0 x1 x2 x3 x4 x5 x6 x8 x9 x11 s0 x9 hP hS (lv_sub hl [1, 2, 3, 4, 5, 6, 7, 9, 10, 11, 0] rfl) h
      have b189 : ∀ (H : Heap) (locs : List Loc) (ls : Array Slot) (D : CD) (x0 : Nat) (x1 : Nat) (x2 : Nat) (x3 : Int32) (x4 : Int32) (x5 : Int32) (x6 : Int32) (x7 : Int32) (x8 : Int32) (x9 : Int32) (s0 : Int32), va_P G.1 vwCl (cW G S D) H → va_S (cA G S sz) s.heap H locs → lv_has ls 13 [(0, .ref x0), (1, .ref x1), (2, .ref x2), (3, .int x3), (4, .int x4), (5, .int x5), (6, .int x6), (7, .int x7), (8, .int x8), (9, .int x9)] → f_L_isAt_b189 F S ((f_L_isAt_L21 F S n21)) D x0 x1 x2 x3 x4 x5 x6 x7 x8 x9 s0 = some (D2, r) → W p l e (headSpec wL_isAt ({ frames := 7, cells := 0, slots := 0, locals := 157 })).room s m ([.ref a1, .ref a2, .ref a3, .int a4, .int a5] : List Value).toArray below meth c H locs 0 0 (cQI below G S D2 sz ([.ref a1, .ref a2, .ref a3, .int a4, .int a5] : List Value).toArray s r) (F0 m 189 ls [.int s0]) := by
        intro H locs ls D x0 x1 x2 x3 x4 x5 x6 x7 x8 x9 s0 hP hS hl h
        unfold f_L_isAt_b189 at h
        refine lv_istore (lv' := [(11, .int s0), (0, .ref x0), (1, .ref x1), (2, .ref x2), (3, .int x3), (4, .int x4), (5, .int x5), (6, .int x6), (7, .int x7), (8, .int x8), (9, .int x9)]) hx hb dL_isAt_189 hl (by decide) rfl (fun ls hl => ?_)
        refine lv_iload hx hb dL_isAt_191 (lv_at hl 0 rfl) ?_
        refine lv_if_eq (tgt := 221) hx hb dL_isAt_193 (by decide) (fun u1 => ?_) (fun u1 => ?_)
        · have h := ite_t u1 h
          refine lv_iconst (v := 0) hx hb dL_isAt_221 (by decide) ?_
          exact b222 _ _ _ D x0 x1 x2 x3 x4 x5 x6 x7 x8 x9 s0 0 hP hS (lv_sub hl [1, 2, 3, 4, 5, 6, 7, 8, 9, 10, 0] rfl) h
        · have h := ite_f u1 h
          refine lv_aload_n hx hb dL_isAt_196 rfl (lv_at hl 2 rfl) ?_
          refine lv_iload hx hb dL_isAt_197 (lv_at hl 10 rfl) ?_
          refine lv_iload_n hx hb dL_isAt_199 rfl (lv_at hl 4 rfl) ?_
          obtain ⟨t3, e2, h⟩ := cal_el h
          refine c_SL (As := [.ref x1, .int x9, .int x3]) (rest := []) hC hP hS (m_L_height l G F S D x1 x9 x3 t3 e2) (va_cwS 3 hts (gSA wa_250 wa_251 wa_233 wa_248 (fun w h => h)) rfl rfl rfl (by decide +kernel) ⟨Nat.le_of_ble_eq_true rfl, Nat.le_of_ble_eq_true rfl⟩) rfl hl.1 rfl (Nat.le_of_ble_eq_true rfl) dL_isAt_200 (fun H locs hP hS => ?_)
          refine lv_iload hx hb dL_isAt_203 (lv_at hl 5 rfl) ?_
          refine lv_i2l (v := x4.toInt64) hx hb dL_isAt_205 rfl ?_
          refine lv_aload_n hx hb dL_isAt_206 rfl (lv_at hl 2 rfl) ?_
          refine lv_iload hx hb dL_isAt_207 (lv_at hl 10 rfl) ?_
          obtain ⟨t5, e4, h⟩ := cal_el h
          refine c_SL (As := [.ref x1, .int x9]) (rest := [.long x4.toInt64, .long t3]) hC hP hS (m_L_dx l G F S D x1 x9 t5 e4) (va_cwS 2 hts (gSA wa_231 wa_232 wa_233 wa_201 (fun w h => h)) rfl rfl rfl (by decide +kernel) ⟨Nat.le_of_ble_eq_true rfl, Nat.le_of_ble_eq_true rfl⟩) rfl hl.1 rfl (Nat.le_of_ble_eq_true rfl) dL_isAt_209 (fun H locs hP hS => ?_)
          refine lv_lmul hx hb dL_isAt_212 ?_
          refine W.lcmp hx hb dL_isAt_213 ?_
          refine lv_if_ge (tgt := 221) hx hb dL_isAt_214 (by decide) (fun u6 => ?_) (fun u6 => ?_)
          · have h := ite_t u6 h
            refine lv_iconst (v := 0) hx hb dL_isAt_221 (by decide) ?_
            exact b222 _ _ _ D x0 x1 x2 x3 x4 x5 x6 x7 x8 x9 s0 0 hP hS (lv_sub hl [1, 2, 3, 4, 5, 6, 7, 8, 9, 10, 0] rfl) h
          · have h := ite_f u6 h
            refine lv_iconst (v := 1) hx hb dL_isAt_217 (by decide) ?_
            refine lv_goto (tgt := 222) hx hb dL_isAt_218 (by decide) ?_
            exact b222 _ _ _ D x0 x1 x2 x3 x4 x5 x6 x7 x8 x9 s0 1 hP hS (lv_sub hl [1, 2, 3, 4, 5, 6, 7, 8, 9, 10, 0] rfl) h
      have b149 : ∀ (H : Heap) (locs : List Loc) (ls : Array Slot) (D : CD) (x0 : Nat) (x1 : Nat) (x2 : Nat) (x3 : Int32) (x4 : Int32) (x5 : Int32) (x7 : Int32) (x8 : Int32) (x9 : Int32) (s0 : Int32), va_P G.1 vwCl (cW G S D) H → va_S (cA G S sz) s.heap H locs → lv_has ls 13 [(0, .ref x0), (1, .ref x1), (2, .ref x2), (3, .int x3), (4, .int x4), (5, .int x5), (7, .int x7), (8, .int x8), (9, .int x9)] → f_L_isAt_b149 F S ((f_L_isAt_L21 F S n21)) D x0 x1 x2 x3 x4 x5 x7 x8 x9 s0 = some (D2, r) → W p l e (headSpec wL_isAt ({ frames := 7, cells := 0, slots := 0, locals := 157 })).room s m ([.ref a1, .ref a2, .ref a3, .int a4, .int a5] : List Value).toArray below meth c H locs 0 0 (cQI below G S D2 sz ([.ref a1, .ref a2, .ref a3, .int a4, .int a5] : List Value).toArray s r) (F0 m 149 ls [.int s0]) := by
        intro H locs ls D x0 x1 x2 x3 x4 x5 x7 x8 x9 s0 hP hS hl h
        unfold f_L_isAt_b149 at h
        refine lv_istore (lv' := [(6, .int s0), (0, .ref x0), (1, .ref x1), (2, .ref x2), (3, .int x3), (4, .int x4), (5, .int x5), (7, .int x7), (8, .int x8), (9, .int x9)]) hx hb dL_isAt_149 hl (by decide) rfl (fun ls hl => ?_)
        refine lv_aload_n hx hb dL_isAt_151 rfl (lv_at hl 2 rfl) ?_
        refine lv_iload hx hb dL_isAt_152 (lv_at hl 9 rfl) ?_
        obtain ⟨t2, e1, h⟩ := cal_el h
        refine c_SL (As := [.ref x1, .int x9]) (rest := []) hC hP hS (m_L_dx l G F S D x1 x9 t2 e1) (va_cwS 2 hts (gSA wa_231 wa_232 wa_233 wa_201 (fun w h => h)) rfl rfl rfl (by decide +kernel) ⟨Nat.le_of_ble_eq_true rfl, Nat.le_of_ble_eq_true rfl⟩) rfl hl.1 rfl (Nat.le_of_ble_eq_true rfl) dL_isAt_154 (fun H locs hP hS => ?_)
        refine lv_lconst (v := 0) hx hb dL_isAt_157 (by decide) ?_
        refine W.lcmp hx hb dL_isAt_158 ?_
        refine lv_if_le (tgt := 188) hx hb dL_isAt_159 (by decide) (fun u3 => ?_) (fun u3 => ?_)
        · have h := ite_t u3 h
          refine lv_iconst (v := 0) hx hb dL_isAt_188 (by decide) ?_
          exact b189 _ _ _ D x0 x1 x2 x3 x4 x5 s0 x7 x8 x9 0 hP hS (lv_sub hl [1, 2, 3, 4, 5, 6, 0, 7, 8, 9] rfl) h
        · have h := ite_f u3 h
          refine lv_aload_n hx hb dL_isAt_162 rfl (lv_at hl 2 rfl) ?_
          refine lv_iconst (v := 4) hx hb dL_isAt_163 (by decide) ?_
          refine lv_iload hx hb dL_isAt_164 (lv_at hl 9 rfl) ?_
          refine lv_imul hx hb dL_isAt_166 ?_
          obtain ⟨z4, h⟩ := ckK_el h
          obtain ⟨y6, t5, e7, h⟩ := rdI_el h
          refine c_ild hC hP z4.1 z4.2 y6 e7 dL_isAt_167 ?_
          refine lv_iload_n hx hb dL_isAt_168 rfl (lv_at hl 4 rfl) ?_
          refine lv_icmp_gt (tgt := 188) hx hb dL_isAt_169 (by decide) (fun u8 => ?_) (fun u8 => ?_)
          · have h := ite_t u8 h
            refine lv_iconst (v := 0) hx hb dL_isAt_188 (by decide) ?_
            exact b189 _ _ _ D x0 x1 x2 x3 x4 x5 s0 x7 x8 x9 0 hP hS (lv_sub hl [1, 2, 3, 4, 5, 6, 0, 7, 8, 9] rfl) h
          · have h := ite_f u8 h
            refine lv_aload_n hx hb dL_isAt_172 rfl (lv_at hl 2 rfl) ?_
            refine lv_iconst (v := 4) hx hb dL_isAt_173 (by decide) ?_
            refine lv_iload hx hb dL_isAt_174 (lv_at hl 9 rfl) ?_
            refine lv_imul hx hb dL_isAt_176 ?_
            refine lv_iconst (v := 2) hx hb dL_isAt_177 (by decide) ?_
            refine lv_iadd hx hb dL_isAt_178 ?_
            obtain ⟨y10, t9, e11, h⟩ := rdI_el h
            refine c_ild hC hP z4.1 z4.2 y10 e11 dL_isAt_179 ?_
            refine lv_iload_n hx hb dL_isAt_180 rfl (lv_at hl 4 rfl) ?_
            refine lv_icmp_le (tgt := 188) hx hb dL_isAt_181 (by decide) (fun u12 => ?_) (fun u12 => ?_)
            · have h := ite_t u12 h
              refine lv_iconst (v := 0) hx hb dL_isAt_188 (by decide) ?_
              exact b189 _ _ _ D x0 x1 x2 x3 x4 x5 s0 x7 x8 x9 0 hP hS (lv_sub hl [1, 2, 3, 4, 5, 6, 0, 7, 8, 9] rfl) h
            · have h := ite_f u12 h
              refine lv_iconst (v := 1) hx hb dL_isAt_184 (by decide) ?_
              refine lv_goto (tgt := 189) hx hb dL_isAt_185 (by decide) ?_
              exact b189 _ _ _ D x0 x1 x2 x3 x4 x5 s0 x7 x8 x9 1 hP hS (lv_sub hl [1, 2, 3, 4, 5, 6, 0, 7, 8, 9] rfl) h
      have b132 : ∀ (H : Heap) (locs : List Loc) (ls : Array Slot) (D : CD) (x0 : Nat) (x1 : Nat) (x2 : Nat) (x3 : Int32) (x4 : Int32) (x5 : Int32) (x6 : Int32) (x7 : Int32) (x8 : Int32) (x9 : Int32) (s0 : Int32), va_P G.1 vwCl (cW G S D) H → va_S (cA G S sz) s.heap H locs → lv_has ls 13 [(0, .ref x0), (1, .ref x1), (2, .ref x2), (3, .int x3), (4, .int x4), (5, .int x5), (6, .int x6), (7, .int x7), (8, .int x8), (9, .int x9)] → f_L_isAt_b132 F S ((f_L_isAt_L21 F S n21)) D x0 x1 x2 x3 x4 x5 x6 x7 x8 x9 s0 = some (D2, r) → W p l e (headSpec wL_isAt ({ frames := 7, cells := 0, slots := 0, locals := 157 })).room s m ([.ref a1, .ref a2, .ref a3, .int a4, .int a5] : List Value).toArray below meth c H locs 0 0 (cQI below G S D2 sz ([.ref a1, .ref a2, .ref a3, .int a4, .int a5] : List Value).toArray s r) (F0 m 132 ls [.int s0]) := by
        intro H locs ls D x0 x1 x2 x3 x4 x5 x6 x7 x8 x9 s0 hP hS hl h
        unfold f_L_isAt_b132 at h
        refine lv_istore (lv' := [(10, .int s0), (0, .ref x0), (1, .ref x1), (2, .ref x2), (3, .int x3), (4, .int x4), (5, .int x5), (6, .int x6), (7, .int x7), (8, .int x8), (9, .int x9)]) hx hb dL_isAt_132 hl (by decide) rfl (fun ls hl => ?_)
        refine lv_iload hx hb dL_isAt_134 (lv_at hl 7 rfl) ?_
        refine lv_if_ne (tgt := 144) hx hb dL_isAt_136 (by decide) (fun u1 => ?_) (fun u1 => ?_)
        · have h := ite_f u1 h
          refine lv_iconst (v := 1) hx hb dL_isAt_144 (by decide) ?_
          refine lv_goto (tgt := 149) hx hb dL_isAt_145 (by decide) ?_
          exact b149 _ _ _ D x0 x1 x2 x3 x4 x5 x7 x8 x9 1 hP hS (lv_sub hl [1, 2, 3, 4, 5, 6, 8, 9, 10] rfl) h
        · have h := ite_t u1 h
          refine lv_iload hx hb dL_isAt_139 (lv_at hl 0 rfl) ?_
          refine lv_if_eq (tgt := 148) hx hb dL_isAt_141 (by decide) (fun u2 => ?_) (fun u2 => ?_)
          · have h := ite_t u2 h
            refine lv_iconst (v := 0) hx hb dL_isAt_148 (by decide) ?_
            exact b149 _ _ _ D x0 x1 x2 x3 x4 x5 x7 x8 x9 0 hP hS (lv_sub hl [1, 2, 3, 4, 5, 6, 8, 9, 10] rfl) h
          · have h := ite_f u2 h
            refine lv_iconst (v := 1) hx hb dL_isAt_144 (by decide) ?_
            refine lv_goto (tgt := 149) hx hb dL_isAt_145 (by decide) ?_
            exact b149 _ _ _ D x0 x1 x2 x3 x4 x5 x7 x8 x9 1 hP hS (lv_sub hl [1, 2, 3, 4, 5, 6, 8, 9, 10] rfl) h
      intro H locs ls D x0 x1 x2 x3 x4 x5 x6 x7 x8 x9 hP hS hl h
      rw [f_L_isAt_L21] at h
      refine lv_iload hx hb dL_isAt_21 (lv_at hl 9 rfl) ?_
      refine lv_aload_n hx hb dL_isAt_23 rfl (lv_at hl 2 rfl) ?_
      refine lv_iconst (v := 0) hx hb dL_isAt_24 (by decide) ?_
      obtain ⟨z1, h⟩ := ckK_el h
      obtain ⟨y3, t2, e4, h⟩ := rdI_el h
      refine c_ild hC hP z1.1 z1.2 y3 e4 dL_isAt_25 ?_
      refine lv_icmp_ge (tgt := 297) hx hb dL_isAt_26 (by decide) (fun u5 => ?_) (fun u5 => ?_)
      · have h := ite_t u5 h
        refine lv_iload hx hb dL_isAt_297 (lv_at hl 6 rfl) ?_
        refine lv_if_eq (tgt := 314) hx hb dL_isAt_299 (by decide) (fun u6 => ?_) (fun u6 => ?_)
        · have h := ite_t u6 h
          refine lv_iload hx hb dL_isAt_314 (lv_at hl 5 rfl) ?_
          refine lv_if_lt (tgt := 347) hx hb dL_isAt_316 (by decide) (fun u7 => ?_) (fun u7 => ?_)
          · have h := ite_t u7 h
            refine lv_iconst (v := 0) hx hb dL_isAt_347 (by decide) ?_
            refine lv_istore (lv' := [(9, .int 0), (0, .ref x0), (1, .ref x1), (2, .ref x2), (3, .int x3), (4, .int x4), (5, .int x5), (6, .int x6), (7, .int x7), (8, .int x8)]) hx hb dL_isAt_348 hl (by decide) rfl (fun ls hl => ?_)
            refine lv_iconst (v := 0) hx hb dL_isAt_350 (by decide) ?_
            refine lv_istore (lv' := [(10, .int 0), (9, .int 0), (0, .ref x0), (1, .ref x1), (2, .ref x2), (3, .int x3), (4, .int x4), (5, .int x5), (6, .int x6), (7, .int x7), (8, .int x8)]) hx hb dL_isAt_351 hl (by decide) rfl (fun ls hl => ?_)
            exact L353 F _ _ _ D x0 x3 x5 x7 x8 0 0 hP hS (lv_sub hl [2, 5, 7, 9, 10, 1, 0] rfl) h
          · have h := ite_f u7 h
            refine lv_iload hx hb dL_isAt_319 (lv_at hl 5 rfl) ?_
            refine lv_aload_n hx hb dL_isAt_321 rfl (lv_at hl 0 rfl) ?_
            obtain ⟨z8, h⟩ := ckK_el h
            obtain ⟨t10, e9, h⟩ := cal_el h
            refine c_VI (As := []) (rest := [.int x5]) hC hP hS z8.1 (cE_6 z8.2) (C := RX6) (T := TX6) (N := 8) rfl (m_X6_faces l G F S D x0 t10 e9) (cwV 0 hts (gVA wa_217 wa_218 wa_219 (hWCA _ wc_66) (hWCA _ wc_77) hWCA) rfl rfl rfl (by decide +kernel) ⟨Nat.le_of_ble_eq_true rfl, Nat.le_of_ble_eq_true rfl⟩) rfl hl.1 rfl (Nat.le_of_ble_eq_true rfl) dL_isAt_322 (fun H locs hP hS => ?_)
            refine lv_icmp_ge (tgt := 347) hx hb dL_isAt_325 (by decide) (fun u11 => ?_) (fun u11 => ?_)
            · have h := ite_t u11 h
              refine lv_iconst (v := 0) hx hb dL_isAt_347 (by decide) ?_
              refine lv_istore (lv' := [(9, .int 0), (0, .ref x0), (1, .ref x1), (2, .ref x2), (3, .int x3), (4, .int x4), (5, .int x5), (6, .int x6), (7, .int x7), (8, .int x8)]) hx hb dL_isAt_348 hl (by decide) rfl (fun ls hl => ?_)
              refine lv_iconst (v := 0) hx hb dL_isAt_350 (by decide) ?_
              refine lv_istore (lv' := [(10, .int 0), (9, .int 0), (0, .ref x0), (1, .ref x1), (2, .ref x2), (3, .int x3), (4, .int x4), (5, .int x5), (6, .int x6), (7, .int x7), (8, .int x8)]) hx hb dL_isAt_351 hl (by decide) rfl (fun ls hl => ?_)
              exact L353 F _ _ _ D x0 x3 x5 x7 x8 0 0 hP hS (lv_sub hl [2, 5, 7, 9, 10, 1, 0] rfl) h
            · have h := ite_f u11 h
              refine lv_iload hx hb dL_isAt_328 (lv_at hl 5 rfl) ?_
              refine lv_if_eq (tgt := 343) hx hb dL_isAt_330 (by decide) (fun u12 => ?_) (fun u12 => ?_)
              · have h := ite_t u12 h
                refine lv_iconst (v := 1) hx hb dL_isAt_343 (by decide) ?_
                refine lv_goto (tgt := 348) hx hb dL_isAt_344 (by decide) ?_
                refine lv_istore (lv' := [(9, .int 1), (0, .ref x0), (1, .ref x1), (2, .ref x2), (3, .int x3), (4, .int x4), (5, .int x5), (6, .int x6), (7, .int x7), (8, .int x8)]) hx hb dL_isAt_348 hl (by decide) rfl (fun ls hl => ?_)
                refine lv_iconst (v := 0) hx hb dL_isAt_350 (by decide) ?_
                refine lv_istore (lv' := [(10, .int 0), (9, .int 1), (0, .ref x0), (1, .ref x1), (2, .ref x2), (3, .int x3), (4, .int x4), (5, .int x5), (6, .int x6), (7, .int x7), (8, .int x8)]) hx hb dL_isAt_351 hl (by decide) rfl (fun ls hl => ?_)
                exact L353 F _ _ _ D x0 x3 x5 x7 x8 1 0 hP hS (lv_sub hl [2, 5, 7, 9, 10, 1, 0] rfl) h
              · have h := ite_f u12 h
                refine lv_iload hx hb dL_isAt_333 (lv_at hl 7 rfl) ?_
                refine lv_if_lt (tgt := 347) hx hb dL_isAt_335 (by decide) (fun u13 => ?_) (fun u13 => ?_)
                · have h := ite_t u13 h
                  refine lv_iconst (v := 0) hx hb dL_isAt_347 (by decide) ?_
                  refine lv_istore (lv' := [(9, .int 0), (0, .ref x0), (1, .ref x1), (2, .ref x2), (3, .int x3), (4, .int x4), (5, .int x5), (6, .int x6), (7, .int x7), (8, .int x8)]) hx hb dL_isAt_348 hl (by decide) rfl (fun ls hl => ?_)
                  refine lv_iconst (v := 0) hx hb dL_isAt_350 (by decide) ?_
                  refine lv_istore (lv' := [(10, .int 0), (9, .int 0), (0, .ref x0), (1, .ref x1), (2, .ref x2), (3, .int x3), (4, .int x4), (5, .int x5), (6, .int x6), (7, .int x7), (8, .int x8)]) hx hb dL_isAt_351 hl (by decide) rfl (fun ls hl => ?_)
                  exact L353 F _ _ _ D x0 x3 x5 x7 x8 0 0 hP hS (lv_sub hl [2, 5, 7, 9, 10, 1, 0] rfl) h
                · have h := ite_f u13 h
                  refine lv_iload hx hb dL_isAt_338 (lv_at hl 8 rfl) ?_
                  refine lv_if_lt (tgt := 347) hx hb dL_isAt_340 (by decide) (fun u14 => ?_) (fun u14 => ?_)
                  · have h := ite_t u14 h
                    refine lv_iconst (v := 0) hx hb dL_isAt_347 (by decide) ?_
                    refine lv_istore (lv' := [(9, .int 0), (0, .ref x0), (1, .ref x1), (2, .ref x2), (3, .int x3), (4, .int x4), (5, .int x5), (6, .int x6), (7, .int x7), (8, .int x8)]) hx hb dL_isAt_348 hl (by decide) rfl (fun ls hl => ?_)
                    refine lv_iconst (v := 0) hx hb dL_isAt_350 (by decide) ?_
                    refine lv_istore (lv' := [(10, .int 0), (9, .int 0), (0, .ref x0), (1, .ref x1), (2, .ref x2), (3, .int x3), (4, .int x4), (5, .int x5), (6, .int x6), (7, .int x7), (8, .int x8)]) hx hb dL_isAt_351 hl (by decide) rfl (fun ls hl => ?_)
                    exact L353 F _ _ _ D x0 x3 x5 x7 x8 0 0 hP hS (lv_sub hl [2, 5, 7, 9, 10, 1, 0] rfl) h
                  · have h := ite_f u14 h
                    refine lv_iconst (v := 1) hx hb dL_isAt_343 (by decide) ?_
                    refine lv_goto (tgt := 348) hx hb dL_isAt_344 (by decide) ?_
                    refine lv_istore (lv' := [(9, .int 1), (0, .ref x0), (1, .ref x1), (2, .ref x2), (3, .int x3), (4, .int x4), (5, .int x5), (6, .int x6), (7, .int x7), (8, .int x8)]) hx hb dL_isAt_348 hl (by decide) rfl (fun ls hl => ?_)
                    refine lv_iconst (v := 0) hx hb dL_isAt_350 (by decide) ?_
                    refine lv_istore (lv' := [(10, .int 0), (9, .int 1), (0, .ref x0), (1, .ref x1), (2, .ref x2), (3, .int x3), (4, .int x4), (5, .int x5), (6, .int x6), (7, .int x7), (8, .int x8)]) hx hb dL_isAt_351 hl (by decide) rfl (fun ls hl => ?_)
                    exact L353 F _ _ _ D x0 x3 x5 x7 x8 1 0 hP hS (lv_sub hl [2, 5, 7, 9, 10, 1, 0] rfl) h
        · have h := ite_f u6 h
          refine lv_iload hx hb dL_isAt_302 (lv_at hl 5 rfl) ?_
          refine lv_iconst (v := (-1)) hx hb dL_isAt_304 (by decide) ?_
          refine lv_icmp_ne (tgt := 312) hx hb dL_isAt_305 (by decide) (fun u15 => ?_) (fun u15 => ?_)
          · have h := ite_f u15 h
            refine lv_iconst (v := 0) hx hb dL_isAt_312 (by decide) ?_
            obtain ⟨z16, h⟩ := okB_el h
            cases h
            exact c_zret hC hP hS z16 rfl dL_isAt_313
          · have h := ite_t u15 h
            refine lv_iconst (v := 1) hx hb dL_isAt_308 (by decide) ?_
            refine lv_goto (tgt := 313) hx hb dL_isAt_309 (by decide) ?_
            obtain ⟨z17, h⟩ := okB_el h
            cases h
            exact c_zret hC hP hS z17 rfl dL_isAt_313
      · have h := ite_f u5 h
        refine lv_aload_n hx hb dL_isAt_29 rfl (lv_at hl 1 rfl) ?_
        refine lv_iload hx hb dL_isAt_30 (lv_at hl 9 rfl) ?_
        obtain ⟨t19, e18, h⟩ := cal_el h
        refine c_SL (As := [.ref x1, .int x9]) (rest := []) hC hP hS (m_L_dx l G F S D x1 x9 t19 e18) (va_cwS 2 hts (gSA wa_231 wa_232 wa_233 wa_201 (fun w h => h)) rfl rfl rfl (by decide +kernel) ⟨Nat.le_of_ble_eq_true rfl, Nat.le_of_ble_eq_true rfl⟩) rfl hl.1 rfl (Nat.le_of_ble_eq_true rfl) dL_isAt_32 (fun H locs hP hS => ?_)
        refine lv_lconst (v := 0) hx hb dL_isAt_35 (by decide) ?_
        refine W.lcmp hx hb dL_isAt_36 ?_
        refine lv_if_ne (tgt := 84) hx hb dL_isAt_37 (by decide) (fun u20 => ?_) (fun u20 => ?_)
        · have h := ite_f u20 h
          refine lv_aload_n hx hb dL_isAt_84 rfl (lv_at hl 1 rfl) ?_
          refine lv_iconst (v := 4) hx hb dL_isAt_85 (by decide) ?_
          refine lv_iload hx hb dL_isAt_86 (lv_at hl 9 rfl) ?_
          refine lv_imul hx hb dL_isAt_88 ?_
          obtain ⟨z21, h⟩ := ckK_el h
          obtain ⟨y23, t22, e24, h⟩ := rdI_el h
          refine c_ild hC hP z21.1 z21.2 y23 e24 dL_isAt_89 ?_
          refine lv_iload_n hx hb dL_isAt_90 rfl (lv_at hl 3 rfl) ?_
          refine lv_icmp_gt (tgt := 131) hx hb dL_isAt_91 (by decide) (fun u25 => ?_) (fun u25 => ?_)
          · have h := ite_t u25 h
            refine lv_iconst (v := 0) hx hb dL_isAt_131 (by decide) ?_
            exact b132 _ _ _ D x0 x1 x2 x3 x4 x5 x6 x7 x8 x9 0 hP hS (lv_sub hl [0, 1, 2, 3, 4, 5, 6, 7, 8, 9] rfl) h
          · have h := ite_f u25 h
            refine lv_aload_n hx hb dL_isAt_94 rfl (lv_at hl 1 rfl) ?_
            refine lv_iconst (v := 4) hx hb dL_isAt_95 (by decide) ?_
            refine lv_iload hx hb dL_isAt_96 (lv_at hl 9 rfl) ?_
            refine lv_imul hx hb dL_isAt_98 ?_
            refine lv_iconst (v := 2) hx hb dL_isAt_99 (by decide) ?_
            refine lv_iadd hx hb dL_isAt_100 ?_
            obtain ⟨y27, t26, e28, h⟩ := rdI_el h
            refine c_ild hC hP z21.1 z21.2 y27 e28 dL_isAt_101 ?_
            refine lv_iload_n hx hb dL_isAt_102 rfl (lv_at hl 3 rfl) ?_
            refine lv_icmp_lt (tgt := 131) hx hb dL_isAt_103 (by decide) (fun u29 => ?_) (fun u29 => ?_)
            · have h := ite_t u29 h
              refine lv_iconst (v := 0) hx hb dL_isAt_131 (by decide) ?_
              exact b132 _ _ _ D x0 x1 x2 x3 x4 x5 x6 x7 x8 x9 0 hP hS (lv_sub hl [0, 1, 2, 3, 4, 5, 6, 7, 8, 9] rfl) h
            · have h := ite_f u29 h
              refine lv_aload_n hx hb dL_isAt_106 rfl (lv_at hl 1 rfl) ?_
              refine lv_iload hx hb dL_isAt_107 (lv_at hl 9 rfl) ?_
              refine lv_iload_n hx hb dL_isAt_109 rfl (lv_at hl 3 rfl) ?_
              obtain ⟨t31, e30, h⟩ := cal_el h
              refine c_SL (As := [.ref x1, .int x9, .int x3]) (rest := []) hC hP hS (m_L_height l G F S D x1 x9 x3 t31 e30) (va_cwS 3 hts (gSA wa_250 wa_251 wa_233 wa_248 (fun w h => h)) rfl rfl rfl (by decide +kernel) ⟨Nat.le_of_ble_eq_true rfl, Nat.le_of_ble_eq_true rfl⟩) rfl hl.1 rfl (Nat.le_of_ble_eq_true rfl) dL_isAt_110 (fun H locs hP hS => ?_)
              refine lv_iload hx hb dL_isAt_113 (lv_at hl 4 rfl) ?_
              refine lv_i2l (v := x4.toInt64) hx hb dL_isAt_115 rfl ?_
              refine lv_aload_n hx hb dL_isAt_116 rfl (lv_at hl 1 rfl) ?_
              refine lv_iload hx hb dL_isAt_117 (lv_at hl 9 rfl) ?_
              obtain ⟨t33, e32, h⟩ := cal_el h
              refine c_SL (As := [.ref x1, .int x9]) (rest := [.long x4.toInt64, .long t31]) hC hP hS (m_L_dx l G F S D x1 x9 t33 e32) (va_cwS 2 hts (gSA wa_231 wa_232 wa_233 wa_201 (fun w h => h)) rfl rfl rfl (by decide +kernel) ⟨Nat.le_of_ble_eq_true rfl, Nat.le_of_ble_eq_true rfl⟩) rfl hl.1 rfl (Nat.le_of_ble_eq_true rfl) dL_isAt_119 (fun H locs hP hS => ?_)
              refine lv_lmul hx hb dL_isAt_122 ?_
              refine W.lcmp hx hb dL_isAt_123 ?_
              refine lv_if_ne (tgt := 131) hx hb dL_isAt_124 (by decide) (fun u34 => ?_) (fun u34 => ?_)
              · have h := ite_f u34 h
                refine lv_iconst (v := 0) hx hb dL_isAt_131 (by decide) ?_
                exact b132 _ _ _ D x0 x1 x2 x3 x4 x5 x6 x7 x8 x9 0 hP hS (lv_sub hl [0, 1, 2, 3, 4, 5, 6, 7, 8, 9] rfl) h
              · have h := ite_t u34 h
                refine lv_iconst (v := 1) hx hb dL_isAt_127 (by decide) ?_
                refine lv_goto (tgt := 132) hx hb dL_isAt_128 (by decide) ?_
                exact b132 _ _ _ D x0 x1 x2 x3 x4 x5 x6 x7 x8 x9 1 hP hS (lv_sub hl [0, 1, 2, 3, 4, 5, 6, 7, 8, 9] rfl) h
        · have h := ite_t u20 h
          refine lv_aload_n hx hb dL_isAt_40 rfl (lv_at hl 1 rfl) ?_
          refine lv_iconst (v := 4) hx hb dL_isAt_41 (by decide) ?_
          refine lv_iload hx hb dL_isAt_42 (lv_at hl 9 rfl) ?_
          refine lv_imul hx hb dL_isAt_44 ?_
          obtain ⟨z35, h⟩ := ckK_el h
          obtain ⟨y37, t36, e38, h⟩ := rdI_el h
          refine c_ild hC hP z35.1 z35.2 y37 e38 dL_isAt_45 ?_
          refine lv_iload_n hx hb dL_isAt_46 rfl (lv_at hl 3 rfl) ?_
          refine lv_icmp_ne (tgt := 80) hx hb dL_isAt_47 (by decide) (fun u39 => ?_) (fun u39 => ?_)
          · have h := ite_f u39 h
            refine lv_iconst (v := 0) hx hb dL_isAt_80 (by decide) ?_
            refine lv_goto (tgt := 132) hx hb dL_isAt_81 (by decide) ?_
            exact b132 _ _ _ D x0 x1 x2 x3 x4 x5 x6 x7 x8 x9 0 hP hS (lv_sub hl [0, 1, 2, 3, 4, 5, 6, 7, 8, 9] rfl) h
          · have h := ite_t u39 h
            refine lv_aload_n hx hb dL_isAt_50 rfl (lv_at hl 1 rfl) ?_
            refine lv_iconst (v := 4) hx hb dL_isAt_51 (by decide) ?_
            refine lv_iload hx hb dL_isAt_52 (lv_at hl 9 rfl) ?_
            refine lv_imul hx hb dL_isAt_54 ?_
            refine lv_iconst (v := 1) hx hb dL_isAt_55 (by decide) ?_
            refine lv_iadd hx hb dL_isAt_56 ?_
            obtain ⟨y41, t40, e42, h⟩ := rdI_el h
            refine c_ild hC hP z35.1 z35.2 y41 e42 dL_isAt_57 ?_
            refine lv_iload hx hb dL_isAt_58 (lv_at hl 4 rfl) ?_
            refine lv_icmp_gt (tgt := 80) hx hb dL_isAt_60 (by decide) (fun u43 => ?_) (fun u43 => ?_)
            · have h := ite_t u43 h
              refine lv_iconst (v := 0) hx hb dL_isAt_80 (by decide) ?_
              refine lv_goto (tgt := 132) hx hb dL_isAt_81 (by decide) ?_
              exact b132 _ _ _ D x0 x1 x2 x3 x4 x5 x6 x7 x8 x9 0 hP hS (lv_sub hl [0, 1, 2, 3, 4, 5, 6, 7, 8, 9] rfl) h
            · have h := ite_f u43 h
              refine lv_aload_n hx hb dL_isAt_63 rfl (lv_at hl 1 rfl) ?_
              refine lv_iconst (v := 4) hx hb dL_isAt_64 (by decide) ?_
              refine lv_iload hx hb dL_isAt_65 (lv_at hl 9 rfl) ?_
              refine lv_imul hx hb dL_isAt_67 ?_
              refine lv_iconst (v := 3) hx hb dL_isAt_68 (by decide) ?_
              refine lv_iadd hx hb dL_isAt_69 ?_
              obtain ⟨y45, t44, e46, h⟩ := rdI_el h
              refine c_ild hC hP z35.1 z35.2 y45 e46 dL_isAt_70 ?_
              refine lv_iload hx hb dL_isAt_71 (lv_at hl 4 rfl) ?_
              refine lv_icmp_lt (tgt := 80) hx hb dL_isAt_73 (by decide) (fun u47 => ?_) (fun u47 => ?_)
              · have h := ite_t u47 h
                refine lv_iconst (v := 0) hx hb dL_isAt_80 (by decide) ?_
                refine lv_goto (tgt := 132) hx hb dL_isAt_81 (by decide) ?_
                exact b132 _ _ _ D x0 x1 x2 x3 x4 x5 x6 x7 x8 x9 0 hP hS (lv_sub hl [0, 1, 2, 3, 4, 5, 6, 7, 8, 9] rfl) h
              · have h := ite_f u47 h
                refine lv_iconst (v := 1) hx hb dL_isAt_76 (by decide) ?_
                refine lv_goto (tgt := 132) hx hb dL_isAt_77 (by decide) ?_
                exact b132 _ _ _ D x0 x1 x2 x3 x4 x5 x6 x7 x8 x9 1 hP hS (lv_sub hl [0, 1, 2, 3, 4, 5, 6, 7, 8, 9] rfl) h
  refine m_entry (Nat.le_of_ble_eq_true rfl) (fun ls hl => ?_)
  have hl : lv_has ls 13 [(0, .ref a1), (1, .ref a2), (2, .ref a3), (3, .int a4), (4, .int a5)] := hl
  unfold f_L_isAt at h
  refine lv_aload_n hx hb dL_isAt_0 rfl (lv_at hl 0 rfl) ?_
  refine lv_iload_n hx hb dL_isAt_1 rfl (lv_at hl 3 rfl) ?_
  refine lv_iload hx hb dL_isAt_2 (lv_at hl 4 rfl) ?_
  obtain ⟨z1, h⟩ := ckK_el h
  obtain ⟨D3, t4, e2, h⟩ := caM_el h
  refine c_VI (As := [.int a4, .int a5]) (rest := []) hC hP hS z1.1 (cE_6 z1.2) (C := RX6) (T := TX6) (N := 8) rfl (m_X6_faceAt l G F S D D3 a1 a4 a5 t4 e2) (cwV 2 hts (gVA wa_189 wa_190 wa_191 (hWCA _ wc_66) (hWCA _ wc_168) hWCA) rfl rfl rfl (by decide +kernel) ⟨Nat.le_of_ble_eq_true rfl, Nat.le_of_ble_eq_true rfl⟩) rfl hl.1 rfl (Nat.le_of_ble_eq_true rfl) dL_isAt_4 (fun H locs hP hS => ?_)
  refine lv_istore (lv' := [(5, .int t4), (0, .ref a1), (1, .ref a2), (2, .ref a3), (3, .int a4), (4, .int a5)]) hx hb dL_isAt_7 hl (by decide) rfl (fun ls hl => ?_)
  refine lv_iconst (v := 0) hx hb dL_isAt_9 (by decide) ?_
  refine lv_istore (lv' := [(6, .int 0), (5, .int t4), (0, .ref a1), (1, .ref a2), (2, .ref a3), (3, .int a4), (4, .int a5)]) hx hb dL_isAt_10 hl (by decide) rfl (fun ls hl => ?_)
  refine lv_iconst (v := (-1)) hx hb dL_isAt_12 (by decide) ?_
  refine lv_istore (lv' := [(7, .int ((-1))), (6, .int 0), (5, .int t4), (0, .ref a1), (1, .ref a2), (2, .ref a3), (3, .int a4), (4, .int a5)]) hx hb dL_isAt_13 hl (by decide) rfl (fun ls hl => ?_)
  refine lv_iconst (v := (-1)) hx hb dL_isAt_15 (by decide) ?_
  refine lv_istore (lv' := [(8, .int ((-1))), (7, .int ((-1))), (6, .int 0), (5, .int t4), (0, .ref a1), (1, .ref a2), (2, .ref a3), (3, .int a4), (4, .int a5)]) hx hb dL_isAt_16 hl (by decide) rfl (fun ls hl => ?_)
  refine lv_iconst (v := 0) hx hb dL_isAt_18 (by decide) ?_
  refine lv_istore (lv' := [(9, .int 0), (8, .int ((-1))), (7, .int ((-1))), (6, .int 0), (5, .int t4), (0, .ref a1), (1, .ref a2), (2, .ref a3), (3, .int a4), (4, .int a5)]) hx hb dL_isAt_19 hl (by decide) rfl (fun ls hl => ?_)
  exact L21 F _ _ _ D3 a1 a2 a3 a4 a5 t4 0 ((-1)) ((-1)) 0 hP hS (lv_sub hl [5, 6, 7, 8, 9, 4, 3, 2, 1, 0] rfl) h
