/-! The law, case by case. -/
theorem dlw_305 : decode code 305 = .ok (.aload_n 1, 1) := by decide +kernel
theorem dlw_306 : decode code 306 = .ok (.aload_n 0, 1) := by decide +kernel
theorem dlw_307 : decode code 307 = .ok (.iload 4, 2) := by decide +kernel
theorem dlw_309 : decode code 309 = .ok (.iconst 1, 1) := by decide +kernel
theorem dlw_310 : decode code 310 = .ok (.iadd, 1) := by decide +kernel
theorem dlw_311 : decode code 311 = .ok (.iaload, 1) := by decide +kernel
theorem dlw_312 : decode code 312 = .ok (.aload_n 0, 1) := by decide +kernel
theorem dlw_313 : decode code 313 = .ok (.iload 4, 2) := by decide +kernel
theorem dlw_315 : decode code 315 = .ok (.iconst 2, 1) := by decide +kernel
theorem dlw_316 : decode code 316 = .ok (.iadd, 1) := by decide +kernel
theorem dlw_317 : decode code 317 = .ok (.iaload, 1) := by decide +kernel
theorem dlw_318 : decode code 318 = .ok (.aload_n 3, 1) := by decide +kernel
theorem dlw_319 : decode code 319 = .ok (.invokestatic 95, 3) := by decide +kernel
theorem dlw_322 : decode code 322 = .ok (.istore 5, 2) := by decide +kernel
theorem dlw_324 : decode code 324 = .ok (.aload_n 2, 1) := by decide +kernel
theorem dlw_325 : decode code 325 = .ok (.aload_n 0, 1) := by decide +kernel
theorem dlw_326 : decode code 326 = .ok (.iload 4, 2) := by decide +kernel
theorem dlw_328 : decode code 328 = .ok (.iconst 1, 1) := by decide +kernel
theorem dlw_329 : decode code 329 = .ok (.iadd, 1) := by decide +kernel
theorem dlw_330 : decode code 330 = .ok (.iaload, 1) := by decide +kernel
theorem dlw_331 : decode code 331 = .ok (.aload_n 0, 1) := by decide +kernel
theorem dlw_332 : decode code 332 = .ok (.iload 4, 2) := by decide +kernel
theorem dlw_334 : decode code 334 = .ok (.iconst 2, 1) := by decide +kernel
theorem dlw_335 : decode code 335 = .ok (.iadd, 1) := by decide +kernel
theorem dlw_336 : decode code 336 = .ok (.iaload, 1) := by decide +kernel
theorem dlw_337 : decode code 337 = .ok (.invokevirtual 98, 3) := by decide +kernel
theorem dlw_340 : decode code 340 = .ok (.istore 6, 2) := by decide +kernel
theorem dlw_342 : decode code 342 = .ok (.aload_n 2, 1) := by decide +kernel
theorem dlw_343 : decode code 343 = .ok (.invokevirtual 83, 3) := by decide +kernel
theorem dlw_346 : decode code 346 = .ok (.iload 5, 2) := by decide +kernel
theorem dlw_348 : decode code 348 = .ok (.if_icmp .eq 5, 3) := by decide +kernel
theorem dlw_351 : decode code 351 = .ok (.iconst 0, 1) := by decide +kernel
theorem dlw_352 : decode code 352 = .ok (.ireturn, 1) := by decide +kernel
theorem dlw_353 : decode code 353 = .ok (.iload 5, 2) := by decide +kernel
theorem dlw_355 : decode code 355 = .ok (.ifCond .ne 22, 3) := by decide +kernel
theorem dlw_358 : decode code 358 = .ok (.aload_n 3, 1) := by decide +kernel
theorem dlw_359 : decode code 359 = .ok (.iconst 0, 1) := by decide +kernel
theorem dlw_360 : decode code 360 = .ok (.laload, 1) := by decide +kernel
theorem dlw_361 : decode code 361 = .ok (.iload 6, 2) := by decide +kernel
theorem dlw_363 : decode code 363 = .ok (.ifCond .eq 7, 3) := by decide +kernel
theorem dlw_366 : decode code 366 = .ok (.lconst 1, 1) := by decide +kernel
theorem dlw_367 : decode code 367 = .ok (.goto (4), 3) := by decide +kernel
theorem dlw_370 : decode code 370 = .ok (.lconst 0, 1) := by decide +kernel
theorem dlw_371 : decode code 371 = .ok (.lcmp, 1) := by decide +kernel
theorem dlw_372 : decode code 372 = .ok (.ifCond .eq 5, 3) := by decide +kernel
theorem dlw_375 : decode code 375 = .ok (.iconst 0, 1) := by decide +kernel
theorem dlw_376 : decode code 376 = .ok (.ireturn, 1) := by decide +kernel
theorem dlw_377 : decode code 377 = .ok (.goto (919), 3) := by decide +kernel
theorem dlw_380 : decode code 380 = .ok (.aload_n 1, 1) := by decide +kernel
theorem dlw_381 : decode code 381 = .ok (.invokevirtual 99, 3) := by decide +kernel
theorem dlw_384 : decode code 384 = .ok (.aload_n 2, 1) := by decide +kernel
theorem dlw_385 : decode code 385 = .ok (.invokevirtual 102, 3) := by decide +kernel
theorem dlw_388 : decode code 388 = .ok (.if_icmp .eq 908, 3) := by decide +kernel
theorem dlw_393 : decode code 393 = .ok (.aload_n 1, 1) := by decide +kernel
theorem dlw_394 : decode code 394 = .ok (.invokevirtual 103, 3) := by decide +kernel
theorem dlw_397 : decode code 397 = .ok (.aload_n 2, 1) := by decide +kernel
theorem dlw_398 : decode code 398 = .ok (.invokevirtual 106, 3) := by decide +kernel
theorem dlw_401 : decode code 401 = .ok (.if_icmp .eq 895, 3) := by decide +kernel
theorem dlw_406 : decode code 406 = .ok (.aload_n 1, 1) := by decide +kernel
theorem dlw_407 : decode code 407 = .ok (.invokevirtual 107, 3) := by decide +kernel
theorem dlw_410 : decode code 410 = .ok (.aload_n 2, 1) := by decide +kernel
theorem dlw_411 : decode code 411 = .ok (.invokevirtual 110, 3) := by decide +kernel
theorem dlw_414 : decode code 414 = .ok (.if_icmp .eq 882, 3) := by decide +kernel
theorem dlw_419 : decode code 419 = .ok (.aload_n 1, 1) := by decide +kernel
theorem dlw_420 : decode code 420 = .ok (.invokevirtual 111, 3) := by decide +kernel
theorem dlw_423 : decode code 423 = .ok (.aload_n 2, 1) := by decide +kernel
theorem dlw_424 : decode code 424 = .ok (.invokevirtual 114, 3) := by decide +kernel
theorem dlw_427 : decode code 427 = .ok (.if_icmp .eq 869, 3) := by decide +kernel
theorem dlw_432 : decode code 432 = .ok (.aload_n 1, 1) := by decide +kernel
theorem dlw_433 : decode code 433 = .ok (.aload_n 0, 1) := by decide +kernel
theorem dlw_434 : decode code 434 = .ok (.iload 4, 2) := by decide +kernel
theorem dlw_436 : decode code 436 = .ok (.iconst 1, 1) := by decide +kernel
theorem dlw_437 : decode code 437 = .ok (.iadd, 1) := by decide +kernel
theorem dlw_438 : decode code 438 = .ok (.iaload, 1) := by decide +kernel
theorem dlw_439 : decode code 439 = .ok (.aload_n 3, 1) := by decide +kernel
theorem dlw_440 : decode code 440 = .ok (.invokestatic 115, 3) := by decide +kernel
theorem dlw_443 : decode code 443 = .ok (.istore 5, 2) := by decide +kernel
theorem dlw_445 : decode code 445 = .ok (.aload_n 2, 1) := by decide +kernel
theorem dlw_446 : decode code 446 = .ok (.aload_n 0, 1) := by decide +kernel
theorem dlw_447 : decode code 447 = .ok (.iload 4, 2) := by decide +kernel
theorem dlw_449 : decode code 449 = .ok (.iconst 1, 1) := by decide +kernel
theorem dlw_450 : decode code 450 = .ok (.iadd, 1) := by decide +kernel
theorem dlw_451 : decode code 451 = .ok (.iaload, 1) := by decide +kernel
theorem dlw_452 : decode code 452 = .ok (.invokevirtual 117, 3) := by decide +kernel
theorem dlw_455 : decode code 455 = .ok (.istore 6, 2) := by decide +kernel
theorem dlw_457 : decode code 457 = .ok (.aload_n 2, 1) := by decide +kernel
theorem dlw_458 : decode code 458 = .ok (.invokevirtual 83, 3) := by decide +kernel
theorem dlw_461 : decode code 461 = .ok (.iload 5, 2) := by decide +kernel
theorem dlw_463 : decode code 463 = .ok (.if_icmp .eq 5, 3) := by decide +kernel
theorem dlw_466 : decode code 466 = .ok (.iconst 0, 1) := by decide +kernel
theorem dlw_467 : decode code 467 = .ok (.ireturn, 1) := by decide +kernel
theorem dlw_468 : decode code 468 = .ok (.iload 5, 2) := by decide +kernel
theorem dlw_470 : decode code 470 = .ok (.ifCond .ne 15, 3) := by decide +kernel
theorem dlw_473 : decode code 473 = .ok (.aload_n 3, 1) := by decide +kernel
theorem dlw_474 : decode code 474 = .ok (.iconst 0, 1) := by decide +kernel
theorem dlw_475 : decode code 475 = .ok (.laload, 1) := by decide +kernel
theorem dlw_476 : decode code 476 = .ok (.iload 6, 2) := by decide +kernel
theorem dlw_478 : decode code 478 = .ok (.i2l, 1) := by decide +kernel
theorem dlw_479 : decode code 479 = .ok (.lcmp, 1) := by decide +kernel
theorem dlw_480 : decode code 480 = .ok (.ifCond .eq 5, 3) := by decide +kernel
theorem dlw_483 : decode code 483 = .ok (.iconst 0, 1) := by decide +kernel
theorem dlw_484 : decode code 484 = .ok (.ireturn, 1) := by decide +kernel
theorem dlw_485 : decode code 485 = .ok (.goto (811), 3) := by decide +kernel
set_option maxHeartbeats 2000000 in
theorem lc_meet {p : Program} {l : Launch} {e : Env} {s : State} {m : MethodId} {below : List Frame} {meth : Method} {c : Code} {Q : State → Prop} {G : cG} {Gm : mG} {z : Nat × Nat} {a0 o b L : Nat} {cJ : ClassId} {xs : Nat → Int32} (C0 : lw_At p s m meth c b L xs) (hF : lF_ G Gm cJ z s) {S : CS} {D : CD} {M : MS} {f : Nat → Int64} {H : Heap} {locs : List Loc} {ce sl i : Nat} {x4 : Int32} (hI : lI_ G Gm o cJ s S D M f H) (hS : va_S (fun q : Nat => s.heap.size ≤ q) s.heap H locs) (hL : L ≤ 2560) (hi : i + 5 ≤ L) (ex4 : x4 = nI i) {ls : Array Slot} (hl : lv_has ls 7 [(0, .ref b), (1, .ref a0), (2, .ref (mO Gm)), (3, .ref o), (4, .int x4)]) {rm : Room} (hrm : rm.cells = 0 ∧ rm.slots = 0 ∧ rm.frames + 1 ≤ 12 ∧ rm.locals ≤ 400) (hop : lRes l G Gm S D z a0 o cJ f M yL_meet wL_meet yX7_meet vX7_meet rm [.ref a0, .int (xs (x4 + 1).toNatClampNeg), .int (xs (x4 + 2).toNatClampNeg), .ref o] [.ref (mO Gm), .int (xs (x4 + 1).toNatClampNeg), .int (xs (x4 + 2).toNatClampNeg)] (fun b => if b = 0 then 0 else 1)) (hce : ce + 2 ≤ 601024) (hsl : sl + 21 ≤ 7293034)
    (kk : ∀ (S2 : CS) (D2 : CD) (M2 : MS) (f2 : Nat → Int64) (H1 : Heap) (locs1 : List Loc) (ls1 : Array Slot), jP_ S2 D2 z a0 M2 → lI_ G Gm o cJ s S2 D2 M2 f2 H1 → va_S (fun q : Nat => s.heap.size ≤ q) s.heap H1 locs1 → lv_has ls1 7 [(0, .ref b), (1, .ref a0), (2, .ref (mO Gm)), (3, .ref o), (4, .int x4)] → W p l e room_1 s m #[Value.ref b] below meth c H1 locs1 (ce + 2) (sl + 21) Q (F0 m 1296 ls1 [])) : W p l e room_1 s m #[Value.ref b] below meth c H locs ce sl Q (F0 m 305 ls []) := by
  obtain ⟨hx, hb, hr, hml, hown, hts, hX, hbl, hlocks, hgv⟩ := C0
  have hW : ∀ w ∈ WA, w.before #[Value.ref b] s = true := fun w h => hts w (tb_WA w h)
  have Fx : CallFix p m c code 7 s #[Value.ref b] WA RL := ⟨hx, hb, hml, hown, hW⟩
  have hbA : ¬ (fun q : Nat => s.heap.size ≤ q) b := Nat.not_le.mpr hbl
  obtain ⟨k, r9, P, M2, hWc, hM, h23, hP⟩ := hop
  refine lv_aload_n hx hb dlw_305 rfl (lv_at hl 1 rfl) ?_
  refine lv_aload_n hx hb dlw_306 rfl (lv_at hl 0 rfl) ?_
  refine lv_iload hx hb dlw_307 (lv_at hl 4 rfl) ?_
  refine lv_iconst (v := 1) hx hb dlw_309 (by decide) ?_
  refine lv_iadd hx hb dlw_310 ?_
  refine va_sld hx hb hX hbl hbA hS (l_in 1 ex4 (Nat.lt_of_lt_of_le (Nat.add_lt_add_left (by decide) i) hi) hL) dlw_311 ?_
  refine lv_aload_n hx hb dlw_312 rfl (lv_at hl 0 rfl) ?_
  refine lv_iload hx hb dlw_313 (lv_at hl 4 rfl) ?_
  refine lv_iconst (v := 2) hx hb dlw_315 (by decide) ?_
  refine lv_iadd hx hb dlw_316 ?_
  refine va_sld hx hb hX hbl hbA hS (l_in 2 ex4 (Nat.lt_of_lt_of_le (Nat.add_lt_add_left (by decide) i) hi) hL) dlw_317 ?_
  refine lv_aload_n hx hb dlw_318 rfl (lv_at hl 3 rfl) ?_
  refine l_wrap (av := [.ref a0, .int (xs (x4 + 1).toNatClampNeg), .int (xs (x4 + 2).toNatClampNeg), .ref o]) Fx hF hI hS hWc (fun S2 D2 v h => (hP _ S2 D2 v h).1) (vx_cwSW 4 hW (gSW wa_245 wa_246 wa_227 wa_153) rfl rfl rfl (by decide +kernel) ⟨Nat.le_of_ble_eq_true rfl, Nat.le_of_ble_eq_true rfl⟩) rfl hl.1 rfl (Nat.le_of_ble_eq_true rfl) ⟨hce, hsl⟩ dlw_319 (fun S2 D2 f2 H1 locs1 hPo hI hS => ?_)
  obtain ⟨hg9, hj9, hv9⟩ := hP _ _ _ _ hPo
  refine lv_istore (lv' := [(5, .int k), (0, .ref b), (1, .ref a0), (2, .ref (mO Gm)), (3, .ref o), (4, .int x4)]) hx hb dlw_322 hl (by decide) rfl (fun ls hl => ?_)
  refine lv_aload_n hx hb dlw_324 rfl (lv_at hl 3 rfl) ?_
  refine lv_aload_n hx hb dlw_325 rfl (lv_at hl 1 rfl) ?_
  refine lv_iload hx hb dlw_326 (lv_at hl 5 rfl) ?_
  refine lv_iconst (v := 1) hx hb dlw_328 (by decide) ?_
  refine lv_iadd hx hb dlw_329 ?_
  refine va_sld hx hb hX hbl hbA hS (l_in 1 ex4 (Nat.lt_of_lt_of_le (Nat.add_lt_add_left (by decide) i) hi) hL) dlw_330 ?_
  refine lv_aload_n hx hb dlw_331 rfl (lv_at hl 1 rfl) ?_
  refine lv_iload hx hb dlw_332 (lv_at hl 5 rfl) ?_
  refine lv_iconst (v := 2) hx hb dlw_334 (by decide) ?_
  refine lv_iadd hx hb dlw_335 ?_
  refine va_sld hx hb hX hbl hbA hS (l_in 2 ex4 (Nat.lt_of_lt_of_le (Nat.add_lt_add_left (by decide) i) hi) hL) dlw_336 ?_
  refine l_mod (As := [.int (xs (x4 + 1).toNatClampNeg), .int (xs (x4 + 2).toNatClampNeg)]) Fx hF hI hS hM (cwV 2 hW (gVW wa_247 wa_248 wa_249 (hWMA _ wm_7) (hWMA _ wm_170) hWMA) rfl hrm.1 hrm.2.1 (by decide +kernel) ⟨hrm.2.2.1, (Nat.le_trans (Nat.add_le_add_left hrm.2.2.2 _) (Nat.le_of_ble_eq_true rfl))⟩) rfl hl.1 rfl (Nat.le_of_ble_eq_true rfl) ⟨hce, hsl⟩ dlw_337 (fun H2 locs2 hI hS => ?_)
  refine lv_istore (lv' := [(6, .int r9), (5, .int k), (0, .ref b), (1, .ref a0), (2, .ref (mO Gm)), (3, .ref o), (4, .int x4)]) hx hb dlw_340 hl (by decide) rfl (fun ls hl => ?_)
  refine lv_aload_n hx hb dlw_342 rfl (lv_at hl 4 rfl) ?_
  refine l_mod (As := []) Fx hF hI hS (c_thrown l Gm 0 M2 (M2.1 23) rfl) (cwV 0 hW (gVW wa_231 wa_232 wa_233 (hWMA _ wm_7) (hWMA _ wm_0) hWMA) rfl rfl rfl (by decide +kernel) ⟨Nat.le_of_ble_eq_true rfl, Nat.le_of_ble_eq_true rfl⟩) rfl hl.1 rfl (Nat.le_of_ble_eq_true rfl) ⟨hce, hsl⟩ dlw_343 (fun H3 locs3 hI hS => ?_)
  refine lv_iload hx hb dlw_346 (lv_at hl 1 rfl) ?_
  refine lv_icmp_eq (tgt := 353) hx hb dlw_348 (by decide) (fun _ => ?_) (fun cq => absurd h23 cq)
  refine lv_iload hx hb dlw_353 (lv_at hl 1 rfl) ?_
  have fin : W p l e room_1 s m #[Value.ref b] below meth c H3 locs3 (ce + 2) (sl + 21) Q (F0 m 377 ls []) := by
    refine lv_goto (tgt := 1296) hx hb dlw_377 (by decide) ?_
    exact kk S2 D2 M2 f2 H3 locs3 ls hj9 hI hS (lv_sub hl [2, 3, 4, 5, 6] rfl)
  refine lv_if_ne (tgt := 377) hx hb dlw_355 (by decide) (fun _ => fin) (fun cn => ?_)
  have hk0 : k = 0 := cn
  refine lv_aload_n hx hb dlw_358 rfl (lv_at hl 5 rfl) ?_
  refine lv_iconst (v := 0) hx hb dlw_359 (by decide) ?_
  refine va_lald hx hb hF.2.2.2.1 hI.2.2.1 0 0 (n := 1) rfl rfl vp_in01 dlw_360 ?_
  refine lv_iload hx hb dlw_361 (lv_at hl 0 rfl) ?_
  refine lv_if_eq (tgt := 370) hx hb dlw_363 (by decide) (fun cb => ?_) (fun cb => ?_)
  · refine lv_lconst (v := 0) hx hb dlw_370 (by decide) ?_
    refine W.lcmp hx hb dlw_371 ?_
    refine lv_if_eq (tgt := 377) hx hb dlw_372 (by decide) (fun _ => fin) (fun cq => absurd ?_ cq)
    rw [show f2 ((0 : Int32).toNatClampNeg) = 0 from (hv9 hk0).trans (if_pos cb)]
    exact lg_cmp_self _
  · refine lv_lconst (v := 1) hx hb dlw_366 (by decide) ?_
    refine lv_goto (tgt := 371) hx hb dlw_367 (by decide) ?_
    refine W.lcmp hx hb dlw_371 ?_
    refine lv_if_eq (tgt := 377) hx hb dlw_372 (by decide) (fun _ => fin) (fun cq => absurd ?_ cq)
    rw [show f2 ((0 : Int32).toNatClampNeg) = 1 from (hv9 hk0).trans (if_neg cb)]
    exact lg_cmp_self _
set_option maxHeartbeats 1000000 in
theorem lc_vertices {p : Program} {l : Launch} {e : Env} {s : State} {m : MethodId} {below : List Frame} {meth : Method} {c : Code} {Q : State → Prop} {G : cG} {Gm : mG} {z : Nat × Nat} {a0 o b L : Nat} {cJ : ClassId} {xs : Nat → Int32} (C0 : lw_At p s m meth c b L xs) (hF : lF_ G Gm cJ z s) {S : CS} {D : CD} {M : MS} {f : Nat → Int64} {H : Heap} {locs : List Loc} {ce sl i : Nat} {x4 : Int32} (hI : lI_ G Gm o cJ s S D M f H) (hS : va_S (fun q : Nat => s.heap.size ≤ q) s.heap H locs) (hL : L ≤ 2560) (hi : i + 5 ≤ L) (ex4 : x4 = nI i) {ls : Array Slot} (hl : lv_has ls 7 [(0, .ref b), (1, .ref a0), (2, .ref (mO Gm)), (3, .ref o), (4, .int x4)]) (hm : a0 ∈ S.1) (hk : S.2.1 a0 = 6) {rm rm2 : Room} (hrm : rm.cells = 0 ∧ rm.slots = 0 ∧ rm.frames + 1 ≤ 12 ∧ rm.locals ≤ 400 ∧ rm2.cells = 0 ∧ rm2.slots = 0 ∧ rm2.frames + 1 ≤ 12 ∧ rm2.locals ≤ 400) (hop : ∃ (r : Int32) (M2 : MS), cMI l yX6_vertices vX6_vertices rm G S [.ref a0] D D r ∧ mMI l yX7_vertices vX7_vertices rm2 Gm [.ref (mO Gm)] M M2 r ∧ jP_ S D z a0 M2) (hce : ce ≤ 601024) (hsl : sl ≤ 7293034)
    (kk : ∀ (M2 : MS) (H1 : Heap) (locs1 : List Loc), jP_ S D z a0 M2 → lI_ G Gm o cJ s S D M2 f H1 → va_S (fun q : Nat => s.heap.size ≤ q) s.heap H1 locs1 → W p l e room_1 s m #[Value.ref b] below meth c H1 locs1 ce sl Q (F0 m 1296 ls [])) : W p l e room_1 s m #[Value.ref b] below meth c H locs ce sl Q (F0 m 380 ls []) := by
  obtain ⟨hx, hb, hr, hml, hown, hts, hX, hbl, hlocks, hgv⟩ := C0
  have hW : ∀ w ∈ WA, w.before #[Value.ref b] s = true := fun w h => hts w (tb_WA w h)
  have Fx : CallFix p m c code 7 s #[Value.ref b] WA RL := ⟨hx, hb, hml, hown, hW⟩
  have hbA : ¬ (fun q : Nat => s.heap.size ≤ q) b := Nat.not_le.mpr hbl
  obtain ⟨r, M2, hC, hM, hj⟩ := hop
  refine lv_aload_n hx hb dlw_380 rfl (lv_at hl 1 rfl) ?_
  refine l_cls (As := []) Fx hF hI hS hm hk hC (cwV 0 hW (gVW wa_250 wa_251 wa_252 (hWCA _ wc_66) (hWCA _ wc_73) hWCA) rfl hrm.1 hrm.2.1 (by decide +kernel) ⟨hrm.2.2.1, (Nat.le_trans (Nat.add_le_add_left hrm.2.2.2.1 _) (Nat.le_of_ble_eq_true rfl))⟩) rfl hl.1 rfl (Nat.le_of_ble_eq_true rfl) ⟨hce, hsl⟩ dlw_381 (fun H1 locs1 hI hS => ?_)
  refine lv_aload_n hx hb dlw_384 rfl (lv_at hl 2 rfl) ?_
  refine l_mod (As := []) Fx hF hI hS hM (cwV 0 hW (gVW wa_253 wa_254 wa_255 (hWMA _ wm_7) (hWMA _ wm_171) hWMA) rfl hrm.2.2.2.2.1 hrm.2.2.2.2.2.1 (by decide +kernel) ⟨hrm.2.2.2.2.2.2.1, (Nat.le_trans (Nat.add_le_add_left hrm.2.2.2.2.2.2.2 _) (Nat.le_of_ble_eq_true rfl))⟩) rfl hl.1 rfl (Nat.le_of_ble_eq_true rfl) ⟨hce, hsl⟩ dlw_385 (fun H2 locs2 hI hS => ?_)
  refine lv_icmp_eq (tgt := 1296) hx hb dlw_388 (by decide) (fun _ => ?_) (fun cq => absurd rfl cq)
  exact kk M2 H2 locs2 hj hI hS
set_option maxHeartbeats 1000000 in
theorem lc_edges {p : Program} {l : Launch} {e : Env} {s : State} {m : MethodId} {below : List Frame} {meth : Method} {c : Code} {Q : State → Prop} {G : cG} {Gm : mG} {z : Nat × Nat} {a0 o b L : Nat} {cJ : ClassId} {xs : Nat → Int32} (C0 : lw_At p s m meth c b L xs) (hF : lF_ G Gm cJ z s) {S : CS} {D : CD} {M : MS} {f : Nat → Int64} {H : Heap} {locs : List Loc} {ce sl i : Nat} {x4 : Int32} (hI : lI_ G Gm o cJ s S D M f H) (hS : va_S (fun q : Nat => s.heap.size ≤ q) s.heap H locs) (hL : L ≤ 2560) (hi : i + 5 ≤ L) (ex4 : x4 = nI i) {ls : Array Slot} (hl : lv_has ls 7 [(0, .ref b), (1, .ref a0), (2, .ref (mO Gm)), (3, .ref o), (4, .int x4)]) (hm : a0 ∈ S.1) (hk : S.2.1 a0 = 6) {rm rm2 : Room} (hrm : rm.cells = 0 ∧ rm.slots = 0 ∧ rm.frames + 1 ≤ 12 ∧ rm.locals ≤ 400 ∧ rm2.cells = 0 ∧ rm2.slots = 0 ∧ rm2.frames + 1 ≤ 12 ∧ rm2.locals ≤ 400) (hop : ∃ (r : Int32) (M2 : MS), cMI l yX6_edges vX6_edges rm G S [.ref a0] D D r ∧ mMI l yX7_edges vX7_edges rm2 Gm [.ref (mO Gm)] M M2 r ∧ jP_ S D z a0 M2) (hce : ce ≤ 601024) (hsl : sl ≤ 7293034)
    (kk : ∀ (M2 : MS) (H1 : Heap) (locs1 : List Loc), jP_ S D z a0 M2 → lI_ G Gm o cJ s S D M2 f H1 → va_S (fun q : Nat => s.heap.size ≤ q) s.heap H1 locs1 → W p l e room_1 s m #[Value.ref b] below meth c H1 locs1 ce sl Q (F0 m 1296 ls [])) : W p l e room_1 s m #[Value.ref b] below meth c H locs ce sl Q (F0 m 393 ls []) := by
  obtain ⟨hx, hb, hr, hml, hown, hts, hX, hbl, hlocks, hgv⟩ := C0
  have hW : ∀ w ∈ WA, w.before #[Value.ref b] s = true := fun w h => hts w (tb_WA w h)
  have Fx : CallFix p m c code 7 s #[Value.ref b] WA RL := ⟨hx, hb, hml, hown, hW⟩
  have hbA : ¬ (fun q : Nat => s.heap.size ≤ q) b := Nat.not_le.mpr hbl
  obtain ⟨r, M2, hC, hM, hj⟩ := hop
  refine lv_aload_n hx hb dlw_393 rfl (lv_at hl 1 rfl) ?_
  refine l_cls (As := []) Fx hF hI hS hm hk hC (cwV 0 hW (gVW wa_256 wa_257 wa_258 (hWCA _ wc_66) (hWCA _ wc_75) hWCA) rfl hrm.1 hrm.2.1 (by decide +kernel) ⟨hrm.2.2.1, (Nat.le_trans (Nat.add_le_add_left hrm.2.2.2.1 _) (Nat.le_of_ble_eq_true rfl))⟩) rfl hl.1 rfl (Nat.le_of_ble_eq_true rfl) ⟨hce, hsl⟩ dlw_394 (fun H1 locs1 hI hS => ?_)
  refine lv_aload_n hx hb dlw_397 rfl (lv_at hl 2 rfl) ?_
  refine l_mod (As := []) Fx hF hI hS hM (cwV 0 hW (gVW wa_259 wa_260 wa_261 (hWMA _ wm_7) (hWMA _ wm_172) hWMA) rfl hrm.2.2.2.2.1 hrm.2.2.2.2.2.1 (by decide +kernel) ⟨hrm.2.2.2.2.2.2.1, (Nat.le_trans (Nat.add_le_add_left hrm.2.2.2.2.2.2.2 _) (Nat.le_of_ble_eq_true rfl))⟩) rfl hl.1 rfl (Nat.le_of_ble_eq_true rfl) ⟨hce, hsl⟩ dlw_398 (fun H2 locs2 hI hS => ?_)
  refine lv_icmp_eq (tgt := 1296) hx hb dlw_401 (by decide) (fun _ => ?_) (fun cq => absurd rfl cq)
  exact kk M2 H2 locs2 hj hI hS
set_option maxHeartbeats 1000000 in
theorem lc_faces {p : Program} {l : Launch} {e : Env} {s : State} {m : MethodId} {below : List Frame} {meth : Method} {c : Code} {Q : State → Prop} {G : cG} {Gm : mG} {z : Nat × Nat} {a0 o b L : Nat} {cJ : ClassId} {xs : Nat → Int32} (C0 : lw_At p s m meth c b L xs) (hF : lF_ G Gm cJ z s) {S : CS} {D : CD} {M : MS} {f : Nat → Int64} {H : Heap} {locs : List Loc} {ce sl i : Nat} {x4 : Int32} (hI : lI_ G Gm o cJ s S D M f H) (hS : va_S (fun q : Nat => s.heap.size ≤ q) s.heap H locs) (hL : L ≤ 2560) (hi : i + 5 ≤ L) (ex4 : x4 = nI i) {ls : Array Slot} (hl : lv_has ls 7 [(0, .ref b), (1, .ref a0), (2, .ref (mO Gm)), (3, .ref o), (4, .int x4)]) (hm : a0 ∈ S.1) (hk : S.2.1 a0 = 6) {rm rm2 : Room} (hrm : rm.cells = 0 ∧ rm.slots = 0 ∧ rm.frames + 1 ≤ 12 ∧ rm.locals ≤ 400 ∧ rm2.cells = 0 ∧ rm2.slots = 0 ∧ rm2.frames + 1 ≤ 12 ∧ rm2.locals ≤ 400) (hop : ∃ (r : Int32) (M2 : MS), cMI l yX6_faces vX6_faces rm G S [.ref a0] D D r ∧ mMI l yX7_faces vX7_faces rm2 Gm [.ref (mO Gm)] M M2 r ∧ jP_ S D z a0 M2) (hce : ce ≤ 601024) (hsl : sl ≤ 7293034)
    (kk : ∀ (M2 : MS) (H1 : Heap) (locs1 : List Loc), jP_ S D z a0 M2 → lI_ G Gm o cJ s S D M2 f H1 → va_S (fun q : Nat => s.heap.size ≤ q) s.heap H1 locs1 → W p l e room_1 s m #[Value.ref b] below meth c H1 locs1 ce sl Q (F0 m 1296 ls [])) : W p l e room_1 s m #[Value.ref b] below meth c H locs ce sl Q (F0 m 406 ls []) := by
  obtain ⟨hx, hb, hr, hml, hown, hts, hX, hbl, hlocks, hgv⟩ := C0
  have hW : ∀ w ∈ WA, w.before #[Value.ref b] s = true := fun w h => hts w (tb_WA w h)
  have Fx : CallFix p m c code 7 s #[Value.ref b] WA RL := ⟨hx, hb, hml, hown, hW⟩
  have hbA : ¬ (fun q : Nat => s.heap.size ≤ q) b := Nat.not_le.mpr hbl
  obtain ⟨r, M2, hC, hM, hj⟩ := hop
  refine lv_aload_n hx hb dlw_406 rfl (lv_at hl 1 rfl) ?_
  refine l_cls (As := []) Fx hF hI hS hm hk hC (cwV 0 hW (gVW wa_262 wa_263 wa_264 (hWCA _ wc_66) (hWCA _ wc_77) hWCA) rfl hrm.1 hrm.2.1 (by decide +kernel) ⟨hrm.2.2.1, (Nat.le_trans (Nat.add_le_add_left hrm.2.2.2.1 _) (Nat.le_of_ble_eq_true rfl))⟩) rfl hl.1 rfl (Nat.le_of_ble_eq_true rfl) ⟨hce, hsl⟩ dlw_407 (fun H1 locs1 hI hS => ?_)
  refine lv_aload_n hx hb dlw_410 rfl (lv_at hl 2 rfl) ?_
  refine l_mod (As := []) Fx hF hI hS hM (cwV 0 hW (gVW wa_265 wa_266 wa_267 (hWMA _ wm_7) (hWMA _ wm_173) hWMA) rfl hrm.2.2.2.2.1 hrm.2.2.2.2.2.1 (by decide +kernel) ⟨hrm.2.2.2.2.2.2.1, (Nat.le_trans (Nat.add_le_add_left hrm.2.2.2.2.2.2.2 _) (Nat.le_of_ble_eq_true rfl))⟩) rfl hl.1 rfl (Nat.le_of_ble_eq_true rfl) ⟨hce, hsl⟩ dlw_411 (fun H2 locs2 hI hS => ?_)
  refine lv_icmp_eq (tgt := 1296) hx hb dlw_414 (by decide) (fun _ => ?_) (fun cq => absurd rfl cq)
  exact kk M2 H2 locs2 hj hI hS
set_option maxHeartbeats 1000000 in
theorem lc_components {p : Program} {l : Launch} {e : Env} {s : State} {m : MethodId} {below : List Frame} {meth : Method} {c : Code} {Q : State → Prop} {G : cG} {Gm : mG} {z : Nat × Nat} {a0 o b L : Nat} {cJ : ClassId} {xs : Nat → Int32} (C0 : lw_At p s m meth c b L xs) (hF : lF_ G Gm cJ z s) {S : CS} {D : CD} {M : MS} {f : Nat → Int64} {H : Heap} {locs : List Loc} {ce sl i : Nat} {x4 : Int32} (hI : lI_ G Gm o cJ s S D M f H) (hS : va_S (fun q : Nat => s.heap.size ≤ q) s.heap H locs) (hL : L ≤ 2560) (hi : i + 5 ≤ L) (ex4 : x4 = nI i) {ls : Array Slot} (hl : lv_has ls 7 [(0, .ref b), (1, .ref a0), (2, .ref (mO Gm)), (3, .ref o), (4, .int x4)]) (hm : a0 ∈ S.1) (hk : S.2.1 a0 = 6) {rm rm2 : Room} (hrm : rm.cells = 0 ∧ rm.slots = 0 ∧ rm.frames + 1 ≤ 12 ∧ rm.locals ≤ 400 ∧ rm2.cells = 0 ∧ rm2.slots = 0 ∧ rm2.frames + 1 ≤ 12 ∧ rm2.locals ≤ 400) (hop : ∃ (r : Int32) (M2 : MS), cMI l yX6_components vX6_components rm G S [.ref a0] D D r ∧ mMI l yX7_components vX7_components rm2 Gm [.ref (mO Gm)] M M2 r ∧ jP_ S D z a0 M2) (hce : ce ≤ 601024) (hsl : sl ≤ 7293034)
    (kk : ∀ (M2 : MS) (H1 : Heap) (locs1 : List Loc), jP_ S D z a0 M2 → lI_ G Gm o cJ s S D M2 f H1 → va_S (fun q : Nat => s.heap.size ≤ q) s.heap H1 locs1 → W p l e room_1 s m #[Value.ref b] below meth c H1 locs1 ce sl Q (F0 m 1296 ls [])) : W p l e room_1 s m #[Value.ref b] below meth c H locs ce sl Q (F0 m 419 ls []) := by
  obtain ⟨hx, hb, hr, hml, hown, hts, hX, hbl, hlocks, hgv⟩ := C0
  have hW : ∀ w ∈ WA, w.before #[Value.ref b] s = true := fun w h => hts w (tb_WA w h)
  have Fx : CallFix p m c code 7 s #[Value.ref b] WA RL := ⟨hx, hb, hml, hown, hW⟩
  have hbA : ¬ (fun q : Nat => s.heap.size ≤ q) b := Nat.not_le.mpr hbl
  obtain ⟨r, M2, hC, hM, hj⟩ := hop
  refine lv_aload_n hx hb dlw_419 rfl (lv_at hl 1 rfl) ?_
  refine l_cls (As := []) Fx hF hI hS hm hk hC (cwV 0 hW (gVW wa_268 wa_269 wa_270 (hWCA _ wc_66) (hWCA _ wc_79) hWCA) rfl hrm.1 hrm.2.1 (by decide +kernel) ⟨hrm.2.2.1, (Nat.le_trans (Nat.add_le_add_left hrm.2.2.2.1 _) (Nat.le_of_ble_eq_true rfl))⟩) rfl hl.1 rfl (Nat.le_of_ble_eq_true rfl) ⟨hce, hsl⟩ dlw_420 (fun H1 locs1 hI hS => ?_)
  refine lv_aload_n hx hb dlw_423 rfl (lv_at hl 2 rfl) ?_
  refine l_mod (As := []) Fx hF hI hS hM (cwV 0 hW (gVW wa_271 wa_272 wa_273 (hWMA _ wm_7) (hWMA _ wm_174) hWMA) rfl hrm.2.2.2.2.1 hrm.2.2.2.2.2.1 (by decide +kernel) ⟨hrm.2.2.2.2.2.2.1, (Nat.le_trans (Nat.add_le_add_left hrm.2.2.2.2.2.2.2 _) (Nat.le_of_ble_eq_true rfl))⟩) rfl hl.1 rfl (Nat.le_of_ble_eq_true rfl) ⟨hce, hsl⟩ dlw_424 (fun H2 locs2 hI hS => ?_)
  refine lv_icmp_eq (tgt := 1296) hx hb dlw_427 (by decide) (fun _ => ?_) (fun cq => absurd rfl cq)
  exact kk M2 H2 locs2 hj hI hS
set_option maxHeartbeats 2000000 in
theorem lc_xNumerator {p : Program} {l : Launch} {e : Env} {s : State} {m : MethodId} {below : List Frame} {meth : Method} {c : Code} {Q : State → Prop} {G : cG} {Gm : mG} {z : Nat × Nat} {a0 o b L : Nat} {cJ : ClassId} {xs : Nat → Int32} (C0 : lw_At p s m meth c b L xs) (hF : lF_ G Gm cJ z s) {S : CS} {D : CD} {M : MS} {f : Nat → Int64} {H : Heap} {locs : List Loc} {ce sl i : Nat} {x4 : Int32} (hI : lI_ G Gm o cJ s S D M f H) (hS : va_S (fun q : Nat => s.heap.size ≤ q) s.heap H locs) (hL : L ≤ 2560) (hi : i + 5 ≤ L) (ex4 : x4 = nI i) {ls : Array Slot} (hl : lv_has ls 7 [(0, .ref b), (1, .ref a0), (2, .ref (mO Gm)), (3, .ref o), (4, .int x4)]) {rm : Room} (hrm : rm.cells = 0 ∧ rm.slots = 0 ∧ rm.frames + 1 ≤ 12 ∧ rm.locals ≤ 400) (hop : lRes l G Gm S D z a0 o cJ f M yL_xNumerator wL_xNumerator yX7_xNumerator vX7_xNumerator rm [.ref a0, .int (xs (x4 + 1).toNatClampNeg), .ref o] [.ref (mO Gm), .int (xs (x4 + 1).toNatClampNeg)] (fun b => b.toInt64)) (hce : ce + 2 ≤ 601024) (hsl : sl + 21 ≤ 7293034)
    (kk : ∀ (S2 : CS) (D2 : CD) (M2 : MS) (f2 : Nat → Int64) (H1 : Heap) (locs1 : List Loc) (ls1 : Array Slot), jP_ S2 D2 z a0 M2 → lI_ G Gm o cJ s S2 D2 M2 f2 H1 → va_S (fun q : Nat => s.heap.size ≤ q) s.heap H1 locs1 → lv_has ls1 7 [(0, .ref b), (1, .ref a0), (2, .ref (mO Gm)), (3, .ref o), (4, .int x4)] → W p l e room_1 s m #[Value.ref b] below meth c H1 locs1 (ce + 2) (sl + 21) Q (F0 m 1296 ls1 [])) : W p l e room_1 s m #[Value.ref b] below meth c H locs ce sl Q (F0 m 432 ls []) := by
  obtain ⟨hx, hb, hr, hml, hown, hts, hX, hbl, hlocks, hgv⟩ := C0
  have hW : ∀ w ∈ WA, w.before #[Value.ref b] s = true := fun w h => hts w (tb_WA w h)
  have Fx : CallFix p m c code 7 s #[Value.ref b] WA RL := ⟨hx, hb, hml, hown, hW⟩
  have hbA : ¬ (fun q : Nat => s.heap.size ≤ q) b := Nat.not_le.mpr hbl
  obtain ⟨k, r9, P, M2, hWc, hM, h23, hP⟩ := hop
  refine lv_aload_n hx hb dlw_432 rfl (lv_at hl 1 rfl) ?_
  refine lv_aload_n hx hb dlw_433 rfl (lv_at hl 0 rfl) ?_
  refine lv_iload hx hb dlw_434 (lv_at hl 4 rfl) ?_
  refine lv_iconst (v := 1) hx hb dlw_436 (by decide) ?_
  refine lv_iadd hx hb dlw_437 ?_
  refine va_sld hx hb hX hbl hbA hS (l_in 1 ex4 (Nat.lt_of_lt_of_le (Nat.add_lt_add_left (by decide) i) hi) hL) dlw_438 ?_
  refine lv_aload_n hx hb dlw_439 rfl (lv_at hl 3 rfl) ?_
  refine l_wrap (av := [.ref a0, .int (xs (x4 + 1).toNatClampNeg), .ref o]) Fx hF hI hS hWc (fun S2 D2 v h => (hP _ S2 D2 v h).1) (vx_cwSW 3 hW (gSW wa_274 wa_275 wa_227 wa_157) rfl rfl rfl (by decide +kernel) ⟨Nat.le_of_ble_eq_true rfl, Nat.le_of_ble_eq_true rfl⟩) rfl hl.1 rfl (Nat.le_of_ble_eq_true rfl) ⟨hce, hsl⟩ dlw_440 (fun S2 D2 f2 H1 locs1 hPo hI hS => ?_)
  obtain ⟨hg9, hj9, hv9⟩ := hP _ _ _ _ hPo
  refine lv_istore (lv' := [(5, .int k), (0, .ref b), (1, .ref a0), (2, .ref (mO Gm)), (3, .ref o), (4, .int x4)]) hx hb dlw_443 hl (by decide) rfl (fun ls hl => ?_)
  refine lv_aload_n hx hb dlw_445 rfl (lv_at hl 3 rfl) ?_
  refine lv_aload_n hx hb dlw_446 rfl (lv_at hl 1 rfl) ?_
  refine lv_iload hx hb dlw_447 (lv_at hl 5 rfl) ?_
  refine lv_iconst (v := 1) hx hb dlw_449 (by decide) ?_
  refine lv_iadd hx hb dlw_450 ?_
  refine va_sld hx hb hX hbl hbA hS (l_in 1 ex4 (Nat.lt_of_lt_of_le (Nat.add_lt_add_left (by decide) i) hi) hL) dlw_451 ?_
  refine l_mod (As := [.int (xs (x4 + 1).toNatClampNeg)]) Fx hF hI hS hM (cwV 1 hW (gVW wa_276 wa_277 wa_278 (hWMA _ wm_7) (hWMA _ wm_176) hWMA) rfl hrm.1 hrm.2.1 (by decide +kernel) ⟨hrm.2.2.1, (Nat.le_trans (Nat.add_le_add_left hrm.2.2.2 _) (Nat.le_of_ble_eq_true rfl))⟩) rfl hl.1 rfl (Nat.le_of_ble_eq_true rfl) ⟨hce, hsl⟩ dlw_452 (fun H2 locs2 hI hS => ?_)
  refine lv_istore (lv' := [(6, .int r9), (5, .int k), (0, .ref b), (1, .ref a0), (2, .ref (mO Gm)), (3, .ref o), (4, .int x4)]) hx hb dlw_455 hl (by decide) rfl (fun ls hl => ?_)
  refine lv_aload_n hx hb dlw_457 rfl (lv_at hl 4 rfl) ?_
  refine l_mod (As := []) Fx hF hI hS (c_thrown l Gm 0 M2 (M2.1 23) rfl) (cwV 0 hW (gVW wa_231 wa_232 wa_233 (hWMA _ wm_7) (hWMA _ wm_0) hWMA) rfl rfl rfl (by decide +kernel) ⟨Nat.le_of_ble_eq_true rfl, Nat.le_of_ble_eq_true rfl⟩) rfl hl.1 rfl (Nat.le_of_ble_eq_true rfl) ⟨hce, hsl⟩ dlw_458 (fun H3 locs3 hI hS => ?_)
  refine lv_iload hx hb dlw_461 (lv_at hl 1 rfl) ?_
  refine lv_icmp_eq (tgt := 468) hx hb dlw_463 (by decide) (fun _ => ?_) (fun cq => absurd h23 cq)
  refine lv_iload hx hb dlw_468 (lv_at hl 1 rfl) ?_
  have fin : W p l e room_1 s m #[Value.ref b] below meth c H3 locs3 (ce + 2) (sl + 21) Q (F0 m 485 ls []) := by
    refine lv_goto (tgt := 1296) hx hb dlw_485 (by decide) ?_
    exact kk S2 D2 M2 f2 H3 locs3 ls hj9 hI hS (lv_sub hl [2, 3, 4, 5, 6] rfl)
  refine lv_if_ne (tgt := 485) hx hb dlw_470 (by decide) (fun _ => fin) (fun cn => ?_)
  have hk0 : k = 0 := cn
  refine lv_aload_n hx hb dlw_473 rfl (lv_at hl 5 rfl) ?_
  refine lv_iconst (v := 0) hx hb dlw_474 (by decide) ?_
  refine va_lald hx hb hF.2.2.2.1 hI.2.2.1 0 0 (n := 1) rfl rfl vp_in01 dlw_475 ?_
  refine lv_iload hx hb dlw_476 (lv_at hl 0 rfl) ?_
  refine lv_i2l (v := r9.toInt64) hx hb dlw_478 rfl ?_
  refine W.lcmp hx hb dlw_479 ?_
  refine lv_if_eq (tgt := 485) hx hb dlw_480 (by decide) (fun _ => fin) (fun cq => absurd ?_ cq)
  rw [show f2 ((0 : Int32).toNatClampNeg) = r9.toInt64 from (hv9 hk0)]
  exact lg_cmp_self _
