/-! The law, case by case. -/
theorem dlw_936 : decode code 936 = .ok (.aload_n 1, 1) := by decide +kernel
theorem dlw_937 : decode code 937 = .ok (.aload_n 0, 1) := by decide +kernel
theorem dlw_938 : decode code 938 = .ok (.iload 4, 2) := by decide +kernel
theorem dlw_940 : decode code 940 = .ok (.iconst 1, 1) := by decide +kernel
theorem dlw_941 : decode code 941 = .ok (.iadd, 1) := by decide +kernel
theorem dlw_942 : decode code 942 = .ok (.iaload, 1) := by decide +kernel
theorem dlw_943 : decode code 943 = .ok (.aload_n 3, 1) := by decide +kernel
theorem dlw_944 : decode code 944 = .ok (.invokestatic 142, 3) := by decide +kernel
theorem dlw_947 : decode code 947 = .ok (.istore 5, 2) := by decide +kernel
theorem dlw_949 : decode code 949 = .ok (.aload_n 2, 1) := by decide +kernel
theorem dlw_950 : decode code 950 = .ok (.aload_n 0, 1) := by decide +kernel
theorem dlw_951 : decode code 951 = .ok (.iload 4, 2) := by decide +kernel
theorem dlw_953 : decode code 953 = .ok (.iconst 1, 1) := by decide +kernel
theorem dlw_954 : decode code 954 = .ok (.iadd, 1) := by decide +kernel
theorem dlw_955 : decode code 955 = .ok (.iaload, 1) := by decide +kernel
theorem dlw_956 : decode code 956 = .ok (.invokevirtual 144, 3) := by decide +kernel
theorem dlw_959 : decode code 959 = .ok (.istore 6, 2) := by decide +kernel
theorem dlw_961 : decode code 961 = .ok (.aload_n 2, 1) := by decide +kernel
theorem dlw_962 : decode code 962 = .ok (.invokevirtual 83, 3) := by decide +kernel
theorem dlw_965 : decode code 965 = .ok (.iload 5, 2) := by decide +kernel
theorem dlw_967 : decode code 967 = .ok (.if_icmp .eq 5, 3) := by decide +kernel
theorem dlw_970 : decode code 970 = .ok (.iconst 0, 1) := by decide +kernel
theorem dlw_971 : decode code 971 = .ok (.ireturn, 1) := by decide +kernel
theorem dlw_972 : decode code 972 = .ok (.iload 5, 2) := by decide +kernel
theorem dlw_974 : decode code 974 = .ok (.ifCond .ne 15, 3) := by decide +kernel
theorem dlw_977 : decode code 977 = .ok (.aload_n 3, 1) := by decide +kernel
theorem dlw_978 : decode code 978 = .ok (.iconst 0, 1) := by decide +kernel
theorem dlw_979 : decode code 979 = .ok (.laload, 1) := by decide +kernel
theorem dlw_980 : decode code 980 = .ok (.iload 6, 2) := by decide +kernel
theorem dlw_982 : decode code 982 = .ok (.i2l, 1) := by decide +kernel
theorem dlw_983 : decode code 983 = .ok (.lcmp, 1) := by decide +kernel
theorem dlw_984 : decode code 984 = .ok (.ifCond .eq 5, 3) := by decide +kernel
theorem dlw_987 : decode code 987 = .ok (.iconst 0, 1) := by decide +kernel
theorem dlw_988 : decode code 988 = .ok (.ireturn, 1) := by decide +kernel
theorem dlw_989 : decode code 989 = .ok (.goto (307), 3) := by decide +kernel
theorem dlw_992 : decode code 992 = .ok (.aload_n 1, 1) := by decide +kernel
theorem dlw_993 : decode code 993 = .ok (.aload_n 0, 1) := by decide +kernel
theorem dlw_994 : decode code 994 = .ok (.iload 4, 2) := by decide +kernel
theorem dlw_996 : decode code 996 = .ok (.iconst 1, 1) := by decide +kernel
theorem dlw_997 : decode code 997 = .ok (.iadd, 1) := by decide +kernel
theorem dlw_998 : decode code 998 = .ok (.iaload, 1) := by decide +kernel
theorem dlw_999 : decode code 999 = .ok (.aload_n 3, 1) := by decide +kernel
theorem dlw_1000 : decode code 1000 = .ok (.invokestatic 145, 3) := by decide +kernel
theorem dlw_1003 : decode code 1003 = .ok (.istore 5, 2) := by decide +kernel
theorem dlw_1005 : decode code 1005 = .ok (.aload_n 2, 1) := by decide +kernel
theorem dlw_1006 : decode code 1006 = .ok (.aload_n 0, 1) := by decide +kernel
theorem dlw_1007 : decode code 1007 = .ok (.iload 4, 2) := by decide +kernel
theorem dlw_1009 : decode code 1009 = .ok (.iconst 1, 1) := by decide +kernel
theorem dlw_1010 : decode code 1010 = .ok (.iadd, 1) := by decide +kernel
theorem dlw_1011 : decode code 1011 = .ok (.iaload, 1) := by decide +kernel
theorem dlw_1012 : decode code 1012 = .ok (.invokevirtual 147, 3) := by decide +kernel
theorem dlw_1015 : decode code 1015 = .ok (.istore 6, 2) := by decide +kernel
theorem dlw_1017 : decode code 1017 = .ok (.aload_n 2, 1) := by decide +kernel
theorem dlw_1018 : decode code 1018 = .ok (.invokevirtual 83, 3) := by decide +kernel
theorem dlw_1021 : decode code 1021 = .ok (.iload 5, 2) := by decide +kernel
theorem dlw_1023 : decode code 1023 = .ok (.if_icmp .eq 5, 3) := by decide +kernel
theorem dlw_1026 : decode code 1026 = .ok (.iconst 0, 1) := by decide +kernel
theorem dlw_1027 : decode code 1027 = .ok (.ireturn, 1) := by decide +kernel
theorem dlw_1028 : decode code 1028 = .ok (.iload 5, 2) := by decide +kernel
theorem dlw_1030 : decode code 1030 = .ok (.ifCond .ne 15, 3) := by decide +kernel
theorem dlw_1033 : decode code 1033 = .ok (.aload_n 3, 1) := by decide +kernel
theorem dlw_1034 : decode code 1034 = .ok (.iconst 0, 1) := by decide +kernel
theorem dlw_1035 : decode code 1035 = .ok (.laload, 1) := by decide +kernel
theorem dlw_1036 : decode code 1036 = .ok (.iload 6, 2) := by decide +kernel
theorem dlw_1038 : decode code 1038 = .ok (.i2l, 1) := by decide +kernel
theorem dlw_1039 : decode code 1039 = .ok (.lcmp, 1) := by decide +kernel
theorem dlw_1040 : decode code 1040 = .ok (.ifCond .eq 5, 3) := by decide +kernel
theorem dlw_1043 : decode code 1043 = .ok (.iconst 0, 1) := by decide +kernel
theorem dlw_1044 : decode code 1044 = .ok (.ireturn, 1) := by decide +kernel
theorem dlw_1045 : decode code 1045 = .ok (.goto (251), 3) := by decide +kernel
theorem dlw_1048 : decode code 1048 = .ok (.aload_n 1, 1) := by decide +kernel
theorem dlw_1049 : decode code 1049 = .ok (.aload_n 0, 1) := by decide +kernel
theorem dlw_1050 : decode code 1050 = .ok (.iload 4, 2) := by decide +kernel
theorem dlw_1052 : decode code 1052 = .ok (.iconst 1, 1) := by decide +kernel
theorem dlw_1053 : decode code 1053 = .ok (.iadd, 1) := by decide +kernel
theorem dlw_1054 : decode code 1054 = .ok (.iaload, 1) := by decide +kernel
theorem dlw_1055 : decode code 1055 = .ok (.aload_n 3, 1) := by decide +kernel
theorem dlw_1056 : decode code 1056 = .ok (.invokestatic 148, 3) := by decide +kernel
theorem dlw_1059 : decode code 1059 = .ok (.istore 5, 2) := by decide +kernel
theorem dlw_1061 : decode code 1061 = .ok (.aload_n 2, 1) := by decide +kernel
theorem dlw_1062 : decode code 1062 = .ok (.aload_n 0, 1) := by decide +kernel
theorem dlw_1063 : decode code 1063 = .ok (.iload 4, 2) := by decide +kernel
theorem dlw_1065 : decode code 1065 = .ok (.iconst 1, 1) := by decide +kernel
theorem dlw_1066 : decode code 1066 = .ok (.iadd, 1) := by decide +kernel
theorem dlw_1067 : decode code 1067 = .ok (.iaload, 1) := by decide +kernel
theorem dlw_1068 : decode code 1068 = .ok (.invokevirtual 150, 3) := by decide +kernel
theorem dlw_1071 : decode code 1071 = .ok (.istore 6, 2) := by decide +kernel
theorem dlw_1073 : decode code 1073 = .ok (.aload_n 2, 1) := by decide +kernel
theorem dlw_1074 : decode code 1074 = .ok (.invokevirtual 83, 3) := by decide +kernel
theorem dlw_1077 : decode code 1077 = .ok (.iload 5, 2) := by decide +kernel
theorem dlw_1079 : decode code 1079 = .ok (.if_icmp .eq 5, 3) := by decide +kernel
theorem dlw_1082 : decode code 1082 = .ok (.iconst 0, 1) := by decide +kernel
theorem dlw_1083 : decode code 1083 = .ok (.ireturn, 1) := by decide +kernel
theorem dlw_1084 : decode code 1084 = .ok (.iload 5, 2) := by decide +kernel
theorem dlw_1086 : decode code 1086 = .ok (.ifCond .ne 15, 3) := by decide +kernel
theorem dlw_1089 : decode code 1089 = .ok (.aload_n 3, 1) := by decide +kernel
theorem dlw_1090 : decode code 1090 = .ok (.iconst 0, 1) := by decide +kernel
theorem dlw_1091 : decode code 1091 = .ok (.laload, 1) := by decide +kernel
theorem dlw_1092 : decode code 1092 = .ok (.iload 6, 2) := by decide +kernel
theorem dlw_1094 : decode code 1094 = .ok (.i2l, 1) := by decide +kernel
theorem dlw_1095 : decode code 1095 = .ok (.lcmp, 1) := by decide +kernel
theorem dlw_1096 : decode code 1096 = .ok (.ifCond .eq 5, 3) := by decide +kernel
theorem dlw_1099 : decode code 1099 = .ok (.iconst 0, 1) := by decide +kernel
theorem dlw_1100 : decode code 1100 = .ok (.ireturn, 1) := by decide +kernel
theorem dlw_1101 : decode code 1101 = .ok (.goto (195), 3) := by decide +kernel
set_option maxHeartbeats 2000000 in
theorem lc_rightOf {p : Program} {l : Launch} {e : Env} {s : State} {m : MethodId} {below : List Frame} {meth : Method} {c : Code} {Q : State → Prop} {G : cG} {Gm : mG} {z : Nat × Nat} {a0 o b L : Nat} {cJ : ClassId} {xs : Nat → Int32} (C0 : lw_At p s m meth c b L xs) (hF : lF_ G Gm cJ z s) {S : CS} {D : CD} {M : MS} {f : Nat → Int64} {H : Heap} {locs : List Loc} {ce sl i : Nat} {x4 : Int32} (hI : lI_ G Gm o cJ s S D M f H) (hS : va_S (fun q : Nat => s.heap.size ≤ q) s.heap H locs) (hL : L ≤ 2560) (hi : i + 5 ≤ L) (ex4 : x4 = nI i) {ls : Array Slot} (hl : lv_has ls 7 [(0, .ref b), (1, .ref a0), (2, .ref (mO Gm)), (3, .ref o), (4, .int x4)]) {rm : Room} (hrm : rm.cells = 0 ∧ rm.slots = 0 ∧ rm.frames + 1 ≤ 12 ∧ rm.locals ≤ 400) (hop : lRes l G Gm S D z a0 o cJ f M yL_rightOf wL_rightOf yX7_rightOf vX7_rightOf rm [.ref a0, .int (xs (x4 + 1).toNatClampNeg), .ref o] [.ref (mO Gm), .int (xs (x4 + 1).toNatClampNeg)] (fun b => b.toInt64)) (hce : ce + 2 ≤ 601024) (hsl : sl + 21 ≤ 7293034)
    (kk : ∀ (S2 : CS) (D2 : CD) (M2 : MS) (f2 : Nat → Int64) (H1 : Heap) (locs1 : List Loc) (ls1 : Array Slot), jP_ S2 D2 z a0 M2 → lI_ G Gm o cJ s S2 D2 M2 f2 H1 → va_S (fun q : Nat => s.heap.size ≤ q) s.heap H1 locs1 → lv_has ls1 7 [(0, .ref b), (1, .ref a0), (2, .ref (mO Gm)), (3, .ref o), (4, .int x4)] → W p l e room_1 s m #[Value.ref b] below meth c H1 locs1 (ce + 2) (sl + 21) Q (F0 m 1296 ls1 [])) : W p l e room_1 s m #[Value.ref b] below meth c H locs ce sl Q (F0 m 936 ls []) := by
  obtain ⟨hx, hb, hr, hml, hown, hts, hX, hbl, hlocks, hgv⟩ := C0
  have hW : ∀ w ∈ WA, w.before #[Value.ref b] s = true := fun w h => hts w (tb_WA w h)
  have Fx : CallFix p m c code 7 s #[Value.ref b] WA RL := ⟨hx, hb, hml, hown, hW⟩
  have hbA : ¬ (fun q : Nat => s.heap.size ≤ q) b := Nat.not_le.mpr hbl
  obtain ⟨k, r9, P, M2, hWc, hM, h23, hP⟩ := hop
  refine lv_aload_n hx hb dlw_936 rfl (lv_at hl 1 rfl) ?_
  refine lv_aload_n hx hb dlw_937 rfl (lv_at hl 0 rfl) ?_
  refine lv_iload hx hb dlw_938 (lv_at hl 4 rfl) ?_
  refine lv_iconst (v := 1) hx hb dlw_940 (by decide) ?_
  refine lv_iadd hx hb dlw_941 ?_
  refine va_sld hx hb hX hbl hbA hS (l_in 1 ex4 (Nat.lt_of_lt_of_le (Nat.add_lt_add_left (by decide) i) hi) hL) dlw_942 ?_
  refine lv_aload_n hx hb dlw_943 rfl (lv_at hl 3 rfl) ?_
  refine l_wrap (av := [.ref a0, .int (xs (x4 + 1).toNatClampNeg), .ref o]) Fx hF hI hS hWc (fun S2 D2 v h => (hP _ S2 D2 v h).1) (vx_cwSW 3 hW (gSW wa_319 wa_320 wa_227 wa_193) rfl rfl rfl (by decide +kernel) ⟨Nat.le_of_ble_eq_true rfl, Nat.le_of_ble_eq_true rfl⟩) rfl hl.1 rfl (Nat.le_of_ble_eq_true rfl) ⟨hce, hsl⟩ dlw_944 (fun S2 D2 f2 H1 locs1 hPo hI hS => ?_)
  obtain ⟨hg9, hj9, hv9⟩ := hP _ _ _ _ hPo
  refine lv_istore (lv' := [(5, .int k), (0, .ref b), (1, .ref a0), (2, .ref (mO Gm)), (3, .ref o), (4, .int x4)]) hx hb dlw_947 hl (by decide) rfl (fun ls hl => ?_)
  refine lv_aload_n hx hb dlw_949 rfl (lv_at hl 3 rfl) ?_
  refine lv_aload_n hx hb dlw_950 rfl (lv_at hl 1 rfl) ?_
  refine lv_iload hx hb dlw_951 (lv_at hl 5 rfl) ?_
  refine lv_iconst (v := 1) hx hb dlw_953 (by decide) ?_
  refine lv_iadd hx hb dlw_954 ?_
  refine va_sld hx hb hX hbl hbA hS (l_in 1 ex4 (Nat.lt_of_lt_of_le (Nat.add_lt_add_left (by decide) i) hi) hL) dlw_955 ?_
  refine l_mod (As := [.int (xs (x4 + 1).toNatClampNeg)]) Fx hF hI hS hM (cwV 1 hW (gVW wa_321 wa_322 wa_323 (hWMA _ wm_7) (hWMA _ wm_192) hWMA) rfl hrm.1 hrm.2.1 (by decide +kernel) ⟨hrm.2.2.1, (Nat.le_trans (Nat.add_le_add_left hrm.2.2.2 _) (Nat.le_of_ble_eq_true rfl))⟩) rfl hl.1 rfl (Nat.le_of_ble_eq_true rfl) ⟨hce, hsl⟩ dlw_956 (fun H2 locs2 hI hS => ?_)
  refine lv_istore (lv' := [(6, .int r9), (5, .int k), (0, .ref b), (1, .ref a0), (2, .ref (mO Gm)), (3, .ref o), (4, .int x4)]) hx hb dlw_959 hl (by decide) rfl (fun ls hl => ?_)
  refine lv_aload_n hx hb dlw_961 rfl (lv_at hl 4 rfl) ?_
  refine l_mod (As := []) Fx hF hI hS (c_thrown l Gm 0 M2 (M2.1 23) rfl) (cwV 0 hW (gVW wa_231 wa_232 wa_233 (hWMA _ wm_7) (hWMA _ wm_0) hWMA) rfl rfl rfl (by decide +kernel) ⟨Nat.le_of_ble_eq_true rfl, Nat.le_of_ble_eq_true rfl⟩) rfl hl.1 rfl (Nat.le_of_ble_eq_true rfl) ⟨hce, hsl⟩ dlw_962 (fun H3 locs3 hI hS => ?_)
  refine lv_iload hx hb dlw_965 (lv_at hl 1 rfl) ?_
  refine lv_icmp_eq (tgt := 972) hx hb dlw_967 (by decide) (fun _ => ?_) (fun cq => absurd h23 cq)
  refine lv_iload hx hb dlw_972 (lv_at hl 1 rfl) ?_
  have fin : W p l e room_1 s m #[Value.ref b] below meth c H3 locs3 (ce + 2) (sl + 21) Q (F0 m 989 ls []) := by
    refine lv_goto (tgt := 1296) hx hb dlw_989 (by decide) ?_
    exact kk S2 D2 M2 f2 H3 locs3 ls hj9 hI hS (lv_sub hl [2, 3, 4, 5, 6] rfl)
  refine lv_if_ne (tgt := 989) hx hb dlw_974 (by decide) (fun _ => fin) (fun cn => ?_)
  have hk0 : k = 0 := cn
  refine lv_aload_n hx hb dlw_977 rfl (lv_at hl 5 rfl) ?_
  refine lv_iconst (v := 0) hx hb dlw_978 (by decide) ?_
  refine va_lald hx hb hF.2.2.2.1 hI.2.2.1 0 0 (n := 1) rfl rfl vp_in01 dlw_979 ?_
  refine lv_iload hx hb dlw_980 (lv_at hl 0 rfl) ?_
  refine lv_i2l (v := r9.toInt64) hx hb dlw_982 rfl ?_
  refine W.lcmp hx hb dlw_983 ?_
  refine lv_if_eq (tgt := 989) hx hb dlw_984 (by decide) (fun _ => fin) (fun cq => absurd ?_ cq)
  rw [show f2 ((0 : Int32).toNatClampNeg) = r9.toInt64 from (hv9 hk0)]
  exact lg_cmp_self _
set_option maxHeartbeats 2000000 in
theorem lc_sides {p : Program} {l : Launch} {e : Env} {s : State} {m : MethodId} {below : List Frame} {meth : Method} {c : Code} {Q : State → Prop} {G : cG} {Gm : mG} {z : Nat × Nat} {a0 o b L : Nat} {cJ : ClassId} {xs : Nat → Int32} (C0 : lw_At p s m meth c b L xs) (hF : lF_ G Gm cJ z s) {S : CS} {D : CD} {M : MS} {f : Nat → Int64} {H : Heap} {locs : List Loc} {ce sl i : Nat} {x4 : Int32} (hI : lI_ G Gm o cJ s S D M f H) (hS : va_S (fun q : Nat => s.heap.size ≤ q) s.heap H locs) (hL : L ≤ 2560) (hi : i + 5 ≤ L) (ex4 : x4 = nI i) {ls : Array Slot} (hl : lv_has ls 7 [(0, .ref b), (1, .ref a0), (2, .ref (mO Gm)), (3, .ref o), (4, .int x4)]) {rm : Room} (hrm : rm.cells = 0 ∧ rm.slots = 0 ∧ rm.frames + 1 ≤ 12 ∧ rm.locals ≤ 400) (hop : lRes l G Gm S D z a0 o cJ f M yL_sides wL_sides yX7_sides vX7_sides rm [.ref a0, .int (xs (x4 + 1).toNatClampNeg), .ref o] [.ref (mO Gm), .int (xs (x4 + 1).toNatClampNeg)] (fun b => b.toInt64)) (hce : ce + 2 ≤ 601024) (hsl : sl + 21 ≤ 7293034)
    (kk : ∀ (S2 : CS) (D2 : CD) (M2 : MS) (f2 : Nat → Int64) (H1 : Heap) (locs1 : List Loc) (ls1 : Array Slot), jP_ S2 D2 z a0 M2 → lI_ G Gm o cJ s S2 D2 M2 f2 H1 → va_S (fun q : Nat => s.heap.size ≤ q) s.heap H1 locs1 → lv_has ls1 7 [(0, .ref b), (1, .ref a0), (2, .ref (mO Gm)), (3, .ref o), (4, .int x4)] → W p l e room_1 s m #[Value.ref b] below meth c H1 locs1 (ce + 2) (sl + 21) Q (F0 m 1296 ls1 [])) : W p l e room_1 s m #[Value.ref b] below meth c H locs ce sl Q (F0 m 992 ls []) := by
  obtain ⟨hx, hb, hr, hml, hown, hts, hX, hbl, hlocks, hgv⟩ := C0
  have hW : ∀ w ∈ WA, w.before #[Value.ref b] s = true := fun w h => hts w (tb_WA w h)
  have Fx : CallFix p m c code 7 s #[Value.ref b] WA RL := ⟨hx, hb, hml, hown, hW⟩
  have hbA : ¬ (fun q : Nat => s.heap.size ≤ q) b := Nat.not_le.mpr hbl
  obtain ⟨k, r9, P, M2, hWc, hM, h23, hP⟩ := hop
  refine lv_aload_n hx hb dlw_992 rfl (lv_at hl 1 rfl) ?_
  refine lv_aload_n hx hb dlw_993 rfl (lv_at hl 0 rfl) ?_
  refine lv_iload hx hb dlw_994 (lv_at hl 4 rfl) ?_
  refine lv_iconst (v := 1) hx hb dlw_996 (by decide) ?_
  refine lv_iadd hx hb dlw_997 ?_
  refine va_sld hx hb hX hbl hbA hS (l_in 1 ex4 (Nat.lt_of_lt_of_le (Nat.add_lt_add_left (by decide) i) hi) hL) dlw_998 ?_
  refine lv_aload_n hx hb dlw_999 rfl (lv_at hl 3 rfl) ?_
  refine l_wrap (av := [.ref a0, .int (xs (x4 + 1).toNatClampNeg), .ref o]) Fx hF hI hS hWc (fun S2 D2 v h => (hP _ S2 D2 v h).1) (vx_cwSW 3 hW (gSW wa_324 wa_325 wa_227 wa_197) rfl rfl rfl (by decide +kernel) ⟨Nat.le_of_ble_eq_true rfl, Nat.le_of_ble_eq_true rfl⟩) rfl hl.1 rfl (Nat.le_of_ble_eq_true rfl) ⟨hce, hsl⟩ dlw_1000 (fun S2 D2 f2 H1 locs1 hPo hI hS => ?_)
  obtain ⟨hg9, hj9, hv9⟩ := hP _ _ _ _ hPo
  refine lv_istore (lv' := [(5, .int k), (0, .ref b), (1, .ref a0), (2, .ref (mO Gm)), (3, .ref o), (4, .int x4)]) hx hb dlw_1003 hl (by decide) rfl (fun ls hl => ?_)
  refine lv_aload_n hx hb dlw_1005 rfl (lv_at hl 3 rfl) ?_
  refine lv_aload_n hx hb dlw_1006 rfl (lv_at hl 1 rfl) ?_
  refine lv_iload hx hb dlw_1007 (lv_at hl 5 rfl) ?_
  refine lv_iconst (v := 1) hx hb dlw_1009 (by decide) ?_
  refine lv_iadd hx hb dlw_1010 ?_
  refine va_sld hx hb hX hbl hbA hS (l_in 1 ex4 (Nat.lt_of_lt_of_le (Nat.add_lt_add_left (by decide) i) hi) hL) dlw_1011 ?_
  refine l_mod (As := [.int (xs (x4 + 1).toNatClampNeg)]) Fx hF hI hS hM (cwV 1 hW (gVW wa_326 wa_327 wa_328 (hWMA _ wm_7) (hWMA _ wm_194) hWMA) rfl hrm.1 hrm.2.1 (by decide +kernel) ⟨hrm.2.2.1, (Nat.le_trans (Nat.add_le_add_left hrm.2.2.2 _) (Nat.le_of_ble_eq_true rfl))⟩) rfl hl.1 rfl (Nat.le_of_ble_eq_true rfl) ⟨hce, hsl⟩ dlw_1012 (fun H2 locs2 hI hS => ?_)
  refine lv_istore (lv' := [(6, .int r9), (5, .int k), (0, .ref b), (1, .ref a0), (2, .ref (mO Gm)), (3, .ref o), (4, .int x4)]) hx hb dlw_1015 hl (by decide) rfl (fun ls hl => ?_)
  refine lv_aload_n hx hb dlw_1017 rfl (lv_at hl 4 rfl) ?_
  refine l_mod (As := []) Fx hF hI hS (c_thrown l Gm 0 M2 (M2.1 23) rfl) (cwV 0 hW (gVW wa_231 wa_232 wa_233 (hWMA _ wm_7) (hWMA _ wm_0) hWMA) rfl rfl rfl (by decide +kernel) ⟨Nat.le_of_ble_eq_true rfl, Nat.le_of_ble_eq_true rfl⟩) rfl hl.1 rfl (Nat.le_of_ble_eq_true rfl) ⟨hce, hsl⟩ dlw_1018 (fun H3 locs3 hI hS => ?_)
  refine lv_iload hx hb dlw_1021 (lv_at hl 1 rfl) ?_
  refine lv_icmp_eq (tgt := 1028) hx hb dlw_1023 (by decide) (fun _ => ?_) (fun cq => absurd h23 cq)
  refine lv_iload hx hb dlw_1028 (lv_at hl 1 rfl) ?_
  have fin : W p l e room_1 s m #[Value.ref b] below meth c H3 locs3 (ce + 2) (sl + 21) Q (F0 m 1045 ls []) := by
    refine lv_goto (tgt := 1296) hx hb dlw_1045 (by decide) ?_
    exact kk S2 D2 M2 f2 H3 locs3 ls hj9 hI hS (lv_sub hl [2, 3, 4, 5, 6] rfl)
  refine lv_if_ne (tgt := 1045) hx hb dlw_1030 (by decide) (fun _ => fin) (fun cn => ?_)
  have hk0 : k = 0 := cn
  refine lv_aload_n hx hb dlw_1033 rfl (lv_at hl 5 rfl) ?_
  refine lv_iconst (v := 0) hx hb dlw_1034 (by decide) ?_
  refine va_lald hx hb hF.2.2.2.1 hI.2.2.1 0 0 (n := 1) rfl rfl vp_in01 dlw_1035 ?_
  refine lv_iload hx hb dlw_1036 (lv_at hl 0 rfl) ?_
  refine lv_i2l (v := r9.toInt64) hx hb dlw_1038 rfl ?_
  refine W.lcmp hx hb dlw_1039 ?_
  refine lv_if_eq (tgt := 1045) hx hb dlw_1040 (by decide) (fun _ => fin) (fun cq => absurd ?_ cq)
  rw [show f2 ((0 : Int32).toNatClampNeg) = r9.toInt64 from (hv9 hk0)]
  exact lg_cmp_self _
set_option maxHeartbeats 2000000 in
theorem lc_firstVertex {p : Program} {l : Launch} {e : Env} {s : State} {m : MethodId} {below : List Frame} {meth : Method} {c : Code} {Q : State → Prop} {G : cG} {Gm : mG} {z : Nat × Nat} {a0 o b L : Nat} {cJ : ClassId} {xs : Nat → Int32} (C0 : lw_At p s m meth c b L xs) (hF : lF_ G Gm cJ z s) {S : CS} {D : CD} {M : MS} {f : Nat → Int64} {H : Heap} {locs : List Loc} {ce sl i : Nat} {x4 : Int32} (hI : lI_ G Gm o cJ s S D M f H) (hS : va_S (fun q : Nat => s.heap.size ≤ q) s.heap H locs) (hL : L ≤ 2560) (hi : i + 5 ≤ L) (ex4 : x4 = nI i) {ls : Array Slot} (hl : lv_has ls 7 [(0, .ref b), (1, .ref a0), (2, .ref (mO Gm)), (3, .ref o), (4, .int x4)]) {rm : Room} (hrm : rm.cells = 0 ∧ rm.slots = 0 ∧ rm.frames + 1 ≤ 12 ∧ rm.locals ≤ 400) (hop : lRes l G Gm S D z a0 o cJ f M yL_firstVertex wL_firstVertex yX7_firstVertex vX7_firstVertex rm [.ref a0, .int (xs (x4 + 1).toNatClampNeg), .ref o] [.ref (mO Gm), .int (xs (x4 + 1).toNatClampNeg)] (fun b => b.toInt64)) (hce : ce + 2 ≤ 601024) (hsl : sl + 21 ≤ 7293034)
    (kk : ∀ (S2 : CS) (D2 : CD) (M2 : MS) (f2 : Nat → Int64) (H1 : Heap) (locs1 : List Loc) (ls1 : Array Slot), jP_ S2 D2 z a0 M2 → lI_ G Gm o cJ s S2 D2 M2 f2 H1 → va_S (fun q : Nat => s.heap.size ≤ q) s.heap H1 locs1 → lv_has ls1 7 [(0, .ref b), (1, .ref a0), (2, .ref (mO Gm)), (3, .ref o), (4, .int x4)] → W p l e room_1 s m #[Value.ref b] below meth c H1 locs1 (ce + 2) (sl + 21) Q (F0 m 1296 ls1 [])) : W p l e room_1 s m #[Value.ref b] below meth c H locs ce sl Q (F0 m 1048 ls []) := by
  obtain ⟨hx, hb, hr, hml, hown, hts, hX, hbl, hlocks, hgv⟩ := C0
  have hW : ∀ w ∈ WA, w.before #[Value.ref b] s = true := fun w h => hts w (tb_WA w h)
  have Fx : CallFix p m c code 7 s #[Value.ref b] WA RL := ⟨hx, hb, hml, hown, hW⟩
  have hbA : ¬ (fun q : Nat => s.heap.size ≤ q) b := Nat.not_le.mpr hbl
  obtain ⟨k, r9, P, M2, hWc, hM, h23, hP⟩ := hop
  refine lv_aload_n hx hb dlw_1048 rfl (lv_at hl 1 rfl) ?_
  refine lv_aload_n hx hb dlw_1049 rfl (lv_at hl 0 rfl) ?_
  refine lv_iload hx hb dlw_1050 (lv_at hl 4 rfl) ?_
  refine lv_iconst (v := 1) hx hb dlw_1052 (by decide) ?_
  refine lv_iadd hx hb dlw_1053 ?_
  refine va_sld hx hb hX hbl hbA hS (l_in 1 ex4 (Nat.lt_of_lt_of_le (Nat.add_lt_add_left (by decide) i) hi) hL) dlw_1054 ?_
  refine lv_aload_n hx hb dlw_1055 rfl (lv_at hl 3 rfl) ?_
  refine l_wrap (av := [.ref a0, .int (xs (x4 + 1).toNatClampNeg), .ref o]) Fx hF hI hS hWc (fun S2 D2 v h => (hP _ S2 D2 v h).1) (vx_cwSW 3 hW (gSW wa_329 wa_330 wa_227 wa_201) rfl rfl rfl (by decide +kernel) ⟨Nat.le_of_ble_eq_true rfl, Nat.le_of_ble_eq_true rfl⟩) rfl hl.1 rfl (Nat.le_of_ble_eq_true rfl) ⟨hce, hsl⟩ dlw_1056 (fun S2 D2 f2 H1 locs1 hPo hI hS => ?_)
  obtain ⟨hg9, hj9, hv9⟩ := hP _ _ _ _ hPo
  refine lv_istore (lv' := [(5, .int k), (0, .ref b), (1, .ref a0), (2, .ref (mO Gm)), (3, .ref o), (4, .int x4)]) hx hb dlw_1059 hl (by decide) rfl (fun ls hl => ?_)
  refine lv_aload_n hx hb dlw_1061 rfl (lv_at hl 3 rfl) ?_
  refine lv_aload_n hx hb dlw_1062 rfl (lv_at hl 1 rfl) ?_
  refine lv_iload hx hb dlw_1063 (lv_at hl 5 rfl) ?_
  refine lv_iconst (v := 1) hx hb dlw_1065 (by decide) ?_
  refine lv_iadd hx hb dlw_1066 ?_
  refine va_sld hx hb hX hbl hbA hS (l_in 1 ex4 (Nat.lt_of_lt_of_le (Nat.add_lt_add_left (by decide) i) hi) hL) dlw_1067 ?_
  refine l_mod (As := [.int (xs (x4 + 1).toNatClampNeg)]) Fx hF hI hS hM (cwV 1 hW (gVW wa_331 wa_332 wa_333 (hWMA _ wm_7) (hWMA _ wm_198) hWMA) rfl hrm.1 hrm.2.1 (by decide +kernel) ⟨hrm.2.2.1, (Nat.le_trans (Nat.add_le_add_left hrm.2.2.2 _) (Nat.le_of_ble_eq_true rfl))⟩) rfl hl.1 rfl (Nat.le_of_ble_eq_true rfl) ⟨hce, hsl⟩ dlw_1068 (fun H2 locs2 hI hS => ?_)
  refine lv_istore (lv' := [(6, .int r9), (5, .int k), (0, .ref b), (1, .ref a0), (2, .ref (mO Gm)), (3, .ref o), (4, .int x4)]) hx hb dlw_1071 hl (by decide) rfl (fun ls hl => ?_)
  refine lv_aload_n hx hb dlw_1073 rfl (lv_at hl 4 rfl) ?_
  refine l_mod (As := []) Fx hF hI hS (c_thrown l Gm 0 M2 (M2.1 23) rfl) (cwV 0 hW (gVW wa_231 wa_232 wa_233 (hWMA _ wm_7) (hWMA _ wm_0) hWMA) rfl rfl rfl (by decide +kernel) ⟨Nat.le_of_ble_eq_true rfl, Nat.le_of_ble_eq_true rfl⟩) rfl hl.1 rfl (Nat.le_of_ble_eq_true rfl) ⟨hce, hsl⟩ dlw_1074 (fun H3 locs3 hI hS => ?_)
  refine lv_iload hx hb dlw_1077 (lv_at hl 1 rfl) ?_
  refine lv_icmp_eq (tgt := 1084) hx hb dlw_1079 (by decide) (fun _ => ?_) (fun cq => absurd h23 cq)
  refine lv_iload hx hb dlw_1084 (lv_at hl 1 rfl) ?_
  have fin : W p l e room_1 s m #[Value.ref b] below meth c H3 locs3 (ce + 2) (sl + 21) Q (F0 m 1101 ls []) := by
    refine lv_goto (tgt := 1296) hx hb dlw_1101 (by decide) ?_
    exact kk S2 D2 M2 f2 H3 locs3 ls hj9 hI hS (lv_sub hl [2, 3, 4, 5, 6] rfl)
  refine lv_if_ne (tgt := 1101) hx hb dlw_1086 (by decide) (fun _ => fin) (fun cn => ?_)
  have hk0 : k = 0 := cn
  refine lv_aload_n hx hb dlw_1089 rfl (lv_at hl 5 rfl) ?_
  refine lv_iconst (v := 0) hx hb dlw_1090 (by decide) ?_
  refine va_lald hx hb hF.2.2.2.1 hI.2.2.1 0 0 (n := 1) rfl rfl vp_in01 dlw_1091 ?_
  refine lv_iload hx hb dlw_1092 (lv_at hl 0 rfl) ?_
  refine lv_i2l (v := r9.toInt64) hx hb dlw_1094 rfl ?_
  refine W.lcmp hx hb dlw_1095 ?_
  refine lv_if_eq (tgt := 1101) hx hb dlw_1096 (by decide) (fun _ => fin) (fun cq => absurd ?_ cq)
  rw [show f2 ((0 : Int32).toNatClampNeg) = r9.toInt64 from (hv9 hk0)]
  exact lg_cmp_self _
