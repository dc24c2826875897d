/-! The law, case by case. -/
theorem dlw_488 : decode code 488 = .ok (.aload_n 1, 1) := by decide +kernel
theorem dlw_489 : decode code 489 = .ok (.aload_n 0, 1) := by decide +kernel
theorem dlw_490 : decode code 490 = .ok (.iload 4, 2) := by decide +kernel
theorem dlw_492 : decode code 492 = .ok (.iconst 1, 1) := by decide +kernel
theorem dlw_493 : decode code 493 = .ok (.iadd, 1) := by decide +kernel
theorem dlw_494 : decode code 494 = .ok (.iaload, 1) := by decide +kernel
theorem dlw_495 : decode code 495 = .ok (.aload_n 3, 1) := by decide +kernel
theorem dlw_496 : decode code 496 = .ok (.invokestatic 118, 3) := by decide +kernel
theorem dlw_499 : decode code 499 = .ok (.istore 5, 2) := by decide +kernel
theorem dlw_501 : decode code 501 = .ok (.aload_n 2, 1) := by decide +kernel
theorem dlw_502 : decode code 502 = .ok (.aload_n 0, 1) := by decide +kernel
theorem dlw_503 : decode code 503 = .ok (.iload 4, 2) := by decide +kernel
theorem dlw_505 : decode code 505 = .ok (.iconst 1, 1) := by decide +kernel
theorem dlw_506 : decode code 506 = .ok (.iadd, 1) := by decide +kernel
theorem dlw_507 : decode code 507 = .ok (.iaload, 1) := by decide +kernel
theorem dlw_508 : decode code 508 = .ok (.invokevirtual 120, 3) := by decide +kernel
theorem dlw_511 : decode code 511 = .ok (.istore 6, 2) := by decide +kernel
theorem dlw_513 : decode code 513 = .ok (.aload_n 2, 1) := by decide +kernel
theorem dlw_514 : decode code 514 = .ok (.invokevirtual 83, 3) := by decide +kernel
theorem dlw_517 : decode code 517 = .ok (.iload 5, 2) := by decide +kernel
theorem dlw_519 : decode code 519 = .ok (.if_icmp .eq 5, 3) := by decide +kernel
theorem dlw_522 : decode code 522 = .ok (.iconst 0, 1) := by decide +kernel
theorem dlw_523 : decode code 523 = .ok (.ireturn, 1) := by decide +kernel
theorem dlw_524 : decode code 524 = .ok (.iload 5, 2) := by decide +kernel
theorem dlw_526 : decode code 526 = .ok (.ifCond .ne 15, 3) := by decide +kernel
theorem dlw_529 : decode code 529 = .ok (.aload_n 3, 1) := by decide +kernel
theorem dlw_530 : decode code 530 = .ok (.iconst 0, 1) := by decide +kernel
theorem dlw_531 : decode code 531 = .ok (.laload, 1) := by decide +kernel
theorem dlw_532 : decode code 532 = .ok (.iload 6, 2) := by decide +kernel
theorem dlw_534 : decode code 534 = .ok (.i2l, 1) := by decide +kernel
theorem dlw_535 : decode code 535 = .ok (.lcmp, 1) := by decide +kernel
theorem dlw_536 : decode code 536 = .ok (.ifCond .eq 5, 3) := by decide +kernel
theorem dlw_539 : decode code 539 = .ok (.iconst 0, 1) := by decide +kernel
theorem dlw_540 : decode code 540 = .ok (.ireturn, 1) := by decide +kernel
theorem dlw_541 : decode code 541 = .ok (.goto (755), 3) := by decide +kernel
theorem dlw_544 : decode code 544 = .ok (.aload_n 1, 1) := by decide +kernel
theorem dlw_545 : decode code 545 = .ok (.aload_n 0, 1) := by decide +kernel
theorem dlw_546 : decode code 546 = .ok (.iload 4, 2) := by decide +kernel
theorem dlw_548 : decode code 548 = .ok (.iconst 1, 1) := by decide +kernel
theorem dlw_549 : decode code 549 = .ok (.iadd, 1) := by decide +kernel
theorem dlw_550 : decode code 550 = .ok (.iaload, 1) := by decide +kernel
theorem dlw_551 : decode code 551 = .ok (.aload_n 3, 1) := by decide +kernel
theorem dlw_552 : decode code 552 = .ok (.invokestatic 121, 3) := by decide +kernel
theorem dlw_555 : decode code 555 = .ok (.istore 5, 2) := by decide +kernel
theorem dlw_557 : decode code 557 = .ok (.aload_n 2, 1) := by decide +kernel
theorem dlw_558 : decode code 558 = .ok (.aload_n 0, 1) := by decide +kernel
theorem dlw_559 : decode code 559 = .ok (.iload 4, 2) := by decide +kernel
theorem dlw_561 : decode code 561 = .ok (.iconst 1, 1) := by decide +kernel
theorem dlw_562 : decode code 562 = .ok (.iadd, 1) := by decide +kernel
theorem dlw_563 : decode code 563 = .ok (.iaload, 1) := by decide +kernel
theorem dlw_564 : decode code 564 = .ok (.invokevirtual 123, 3) := by decide +kernel
theorem dlw_567 : decode code 567 = .ok (.istore 6, 2) := by decide +kernel
theorem dlw_569 : decode code 569 = .ok (.aload_n 2, 1) := by decide +kernel
theorem dlw_570 : decode code 570 = .ok (.invokevirtual 83, 3) := by decide +kernel
theorem dlw_573 : decode code 573 = .ok (.iload 5, 2) := by decide +kernel
theorem dlw_575 : decode code 575 = .ok (.if_icmp .eq 5, 3) := by decide +kernel
theorem dlw_578 : decode code 578 = .ok (.iconst 0, 1) := by decide +kernel
theorem dlw_579 : decode code 579 = .ok (.ireturn, 1) := by decide +kernel
theorem dlw_580 : decode code 580 = .ok (.iload 5, 2) := by decide +kernel
theorem dlw_582 : decode code 582 = .ok (.ifCond .ne 15, 3) := by decide +kernel
theorem dlw_585 : decode code 585 = .ok (.aload_n 3, 1) := by decide +kernel
theorem dlw_586 : decode code 586 = .ok (.iconst 0, 1) := by decide +kernel
theorem dlw_587 : decode code 587 = .ok (.laload, 1) := by decide +kernel
theorem dlw_588 : decode code 588 = .ok (.iload 6, 2) := by decide +kernel
theorem dlw_590 : decode code 590 = .ok (.i2l, 1) := by decide +kernel
theorem dlw_591 : decode code 591 = .ok (.lcmp, 1) := by decide +kernel
theorem dlw_592 : decode code 592 = .ok (.ifCond .eq 5, 3) := by decide +kernel
theorem dlw_595 : decode code 595 = .ok (.iconst 0, 1) := by decide +kernel
theorem dlw_596 : decode code 596 = .ok (.ireturn, 1) := by decide +kernel
theorem dlw_597 : decode code 597 = .ok (.goto (699), 3) := by decide +kernel
theorem dlw_600 : decode code 600 = .ok (.aload_n 1, 1) := by decide +kernel
theorem dlw_601 : decode code 601 = .ok (.aload_n 0, 1) := by decide +kernel
theorem dlw_602 : decode code 602 = .ok (.iload 4, 2) := by decide +kernel
theorem dlw_604 : decode code 604 = .ok (.iconst 1, 1) := by decide +kernel
theorem dlw_605 : decode code 605 = .ok (.iadd, 1) := by decide +kernel
theorem dlw_606 : decode code 606 = .ok (.iaload, 1) := by decide +kernel
theorem dlw_607 : decode code 607 = .ok (.aload_n 3, 1) := by decide +kernel
theorem dlw_608 : decode code 608 = .ok (.invokestatic 124, 3) := by decide +kernel
theorem dlw_611 : decode code 611 = .ok (.istore 5, 2) := by decide +kernel
theorem dlw_613 : decode code 613 = .ok (.aload_n 2, 1) := by decide +kernel
theorem dlw_614 : decode code 614 = .ok (.aload_n 0, 1) := by decide +kernel
theorem dlw_615 : decode code 615 = .ok (.iload 4, 2) := by decide +kernel
theorem dlw_617 : decode code 617 = .ok (.iconst 1, 1) := by decide +kernel
theorem dlw_618 : decode code 618 = .ok (.iadd, 1) := by decide +kernel
theorem dlw_619 : decode code 619 = .ok (.iaload, 1) := by decide +kernel
theorem dlw_620 : decode code 620 = .ok (.invokevirtual 126, 3) := by decide +kernel
theorem dlw_623 : decode code 623 = .ok (.istore 6, 2) := by decide +kernel
theorem dlw_625 : decode code 625 = .ok (.aload_n 2, 1) := by decide +kernel
theorem dlw_626 : decode code 626 = .ok (.invokevirtual 83, 3) := by decide +kernel
theorem dlw_629 : decode code 629 = .ok (.iload 5, 2) := by decide +kernel
theorem dlw_631 : decode code 631 = .ok (.if_icmp .eq 5, 3) := by decide +kernel
theorem dlw_634 : decode code 634 = .ok (.iconst 0, 1) := by decide +kernel
theorem dlw_635 : decode code 635 = .ok (.ireturn, 1) := by decide +kernel
theorem dlw_636 : decode code 636 = .ok (.iload 5, 2) := by decide +kernel
theorem dlw_638 : decode code 638 = .ok (.ifCond .ne 15, 3) := by decide +kernel
theorem dlw_641 : decode code 641 = .ok (.aload_n 3, 1) := by decide +kernel
theorem dlw_642 : decode code 642 = .ok (.iconst 0, 1) := by decide +kernel
theorem dlw_643 : decode code 643 = .ok (.laload, 1) := by decide +kernel
theorem dlw_644 : decode code 644 = .ok (.iload 6, 2) := by decide +kernel
theorem dlw_646 : decode code 646 = .ok (.i2l, 1) := by decide +kernel
theorem dlw_647 : decode code 647 = .ok (.lcmp, 1) := by decide +kernel
theorem dlw_648 : decode code 648 = .ok (.ifCond .eq 5, 3) := by decide +kernel
theorem dlw_651 : decode code 651 = .ok (.iconst 0, 1) := by decide +kernel
theorem dlw_652 : decode code 652 = .ok (.ireturn, 1) := by decide +kernel
theorem dlw_653 : decode code 653 = .ok (.goto (643), 3) := by decide +kernel
theorem dlw_656 : decode code 656 = .ok (.aload_n 1, 1) := by decide +kernel
theorem dlw_657 : decode code 657 = .ok (.aload_n 0, 1) := by decide +kernel
theorem dlw_658 : decode code 658 = .ok (.iload 4, 2) := by decide +kernel
theorem dlw_660 : decode code 660 = .ok (.iconst 1, 1) := by decide +kernel
theorem dlw_661 : decode code 661 = .ok (.iadd, 1) := by decide +kernel
theorem dlw_662 : decode code 662 = .ok (.iaload, 1) := by decide +kernel
theorem dlw_663 : decode code 663 = .ok (.aload_n 3, 1) := by decide +kernel
theorem dlw_664 : decode code 664 = .ok (.invokestatic 127, 3) := by decide +kernel
theorem dlw_667 : decode code 667 = .ok (.istore 5, 2) := by decide +kernel
theorem dlw_669 : decode code 669 = .ok (.aload_n 2, 1) := by decide +kernel
theorem dlw_670 : decode code 670 = .ok (.aload_n 0, 1) := by decide +kernel
theorem dlw_671 : decode code 671 = .ok (.iload 4, 2) := by decide +kernel
theorem dlw_673 : decode code 673 = .ok (.iconst 1, 1) := by decide +kernel
theorem dlw_674 : decode code 674 = .ok (.iadd, 1) := by decide +kernel
theorem dlw_675 : decode code 675 = .ok (.iaload, 1) := by decide +kernel
theorem dlw_676 : decode code 676 = .ok (.invokevirtual 129, 3) := by decide +kernel
theorem dlw_679 : decode code 679 = .ok (.istore 6, 2) := by decide +kernel
theorem dlw_681 : decode code 681 = .ok (.aload_n 2, 1) := by decide +kernel
theorem dlw_682 : decode code 682 = .ok (.invokevirtual 83, 3) := by decide +kernel
theorem dlw_685 : decode code 685 = .ok (.iload 5, 2) := by decide +kernel
theorem dlw_687 : decode code 687 = .ok (.if_icmp .eq 5, 3) := by decide +kernel
theorem dlw_690 : decode code 690 = .ok (.iconst 0, 1) := by decide +kernel
theorem dlw_691 : decode code 691 = .ok (.ireturn, 1) := by decide +kernel
theorem dlw_692 : decode code 692 = .ok (.iload 5, 2) := by decide +kernel
theorem dlw_694 : decode code 694 = .ok (.ifCond .ne 15, 3) := by decide +kernel
theorem dlw_697 : decode code 697 = .ok (.aload_n 3, 1) := by decide +kernel
theorem dlw_698 : decode code 698 = .ok (.iconst 0, 1) := by decide +kernel
theorem dlw_699 : decode code 699 = .ok (.laload, 1) := by decide +kernel
theorem dlw_700 : decode code 700 = .ok (.iload 6, 2) := by decide +kernel
theorem dlw_702 : decode code 702 = .ok (.i2l, 1) := by decide +kernel
theorem dlw_703 : decode code 703 = .ok (.lcmp, 1) := by decide +kernel
theorem dlw_704 : decode code 704 = .ok (.ifCond .eq 5, 3) := by decide +kernel
theorem dlw_707 : decode code 707 = .ok (.iconst 0, 1) := by decide +kernel
theorem dlw_708 : decode code 708 = .ok (.ireturn, 1) := by decide +kernel
theorem dlw_709 : decode code 709 = .ok (.goto (587), 3) := by decide +kernel
set_option maxHeartbeats 2000000 in
theorem lc_xDenominator {p : Program} {l : Launch} {e : Env} {s : State} {m : MethodId} {below : List Frame} {meth : Method} {c : Code} {Q : State → Prop} {G : cG} {Gm : mG} {z : Nat × Nat} {a0 o b L : Nat} {cJ : ClassId} {xs : Nat → Int32} (C0 : lw_At p s m meth c b L xs) (hF : lF_ G Gm cJ z s) {S : CS} {D : CD} {M : MS} {f : Nat → Int64} {H : Heap} {locs : List Loc} {ce sl i : Nat} {x4 : Int32} (hI : lI_ G Gm o cJ s S D M f H) (hS : va_S (fun q : Nat => s.heap.size ≤ q) s.heap H locs) (hL : L ≤ 2560) (hi : i + 5 ≤ L) (ex4 : x4 = nI i) {ls : Array Slot} (hl : lv_has ls 7 [(0, .ref b), (1, .ref a0), (2, .ref (mO Gm)), (3, .ref o), (4, .int x4)]) {rm : Room} (hrm : rm.cells = 0 ∧ rm.slots = 0 ∧ rm.frames + 1 ≤ 12 ∧ rm.locals ≤ 400) (hop : lRes l G Gm S D z a0 o cJ f M yL_xDenominator wL_xDenominator yX7_xDenominator vX7_xDenominator rm [.ref a0, .int (xs (x4 + 1).toNatClampNeg), .ref o] [.ref (mO Gm), .int (xs (x4 + 1).toNatClampNeg)] (fun b => b.toInt64)) (hce : ce + 2 ≤ 601024) (hsl : sl + 21 ≤ 7293034)
    (kk : ∀ (S2 : CS) (D2 : CD) (M2 : MS) (f2 : Nat → Int64) (H1 : Heap) (locs1 : List Loc) (ls1 : Array Slot), jP_ S2 D2 z a0 M2 → lI_ G Gm o cJ s S2 D2 M2 f2 H1 → va_S (fun q : Nat => s.heap.size ≤ q) s.heap H1 locs1 → lv_has ls1 7 [(0, .ref b), (1, .ref a0), (2, .ref (mO Gm)), (3, .ref o), (4, .int x4)] → W p l e room_1 s m #[Value.ref b] below meth c H1 locs1 (ce + 2) (sl + 21) Q (F0 m 1296 ls1 [])) : W p l e room_1 s m #[Value.ref b] below meth c H locs ce sl Q (F0 m 488 ls []) := by
  obtain ⟨hx, hb, hr, hml, hown, hts, hX, hbl, hlocks, hgv⟩ := C0
  have hW : ∀ w ∈ WA, w.before #[Value.ref b] s = true := fun w h => hts w (tb_WA w h)
  have Fx : CallFix p m c code 7 s #[Value.ref b] WA RL := ⟨hx, hb, hml, hown, hW⟩
  have hbA : ¬ (fun q : Nat => s.heap.size ≤ q) b := Nat.not_le.mpr hbl
  obtain ⟨k, r9, P, M2, hWc, hM, h23, hP⟩ := hop
  refine lv_aload_n hx hb dlw_488 rfl (lv_at hl 1 rfl) ?_
  refine lv_aload_n hx hb dlw_489 rfl (lv_at hl 0 rfl) ?_
  refine lv_iload hx hb dlw_490 (lv_at hl 4 rfl) ?_
  refine lv_iconst (v := 1) hx hb dlw_492 (by decide) ?_
  refine lv_iadd hx hb dlw_493 ?_
  refine va_sld hx hb hX hbl hbA hS (l_in 1 ex4 (Nat.lt_of_lt_of_le (Nat.add_lt_add_left (by decide) i) hi) hL) dlw_494 ?_
  refine lv_aload_n hx hb dlw_495 rfl (lv_at hl 3 rfl) ?_
  refine l_wrap (av := [.ref a0, .int (xs (x4 + 1).toNatClampNeg), .ref o]) Fx hF hI hS hWc (fun S2 D2 v h => (hP _ S2 D2 v h).1) (vx_cwSW 3 hW (gSW wa_279 wa_280 wa_227 wa_161) rfl rfl rfl (by decide +kernel) ⟨Nat.le_of_ble_eq_true rfl, Nat.le_of_ble_eq_true rfl⟩) rfl hl.1 rfl (Nat.le_of_ble_eq_true rfl) ⟨hce, hsl⟩ dlw_496 (fun S2 D2 f2 H1 locs1 hPo hI hS => ?_)
  obtain ⟨hg9, hj9, hv9⟩ := hP _ _ _ _ hPo
  refine lv_istore (lv' := [(5, .int k), (0, .ref b), (1, .ref a0), (2, .ref (mO Gm)), (3, .ref o), (4, .int x4)]) hx hb dlw_499 hl (by decide) rfl (fun ls hl => ?_)
  refine lv_aload_n hx hb dlw_501 rfl (lv_at hl 3 rfl) ?_
  refine lv_aload_n hx hb dlw_502 rfl (lv_at hl 1 rfl) ?_
  refine lv_iload hx hb dlw_503 (lv_at hl 5 rfl) ?_
  refine lv_iconst (v := 1) hx hb dlw_505 (by decide) ?_
  refine lv_iadd hx hb dlw_506 ?_
  refine va_sld hx hb hX hbl hbA hS (l_in 1 ex4 (Nat.lt_of_lt_of_le (Nat.add_lt_add_left (by decide) i) hi) hL) dlw_507 ?_
  refine l_mod (As := [.int (xs (x4 + 1).toNatClampNeg)]) Fx hF hI hS hM (cwV 1 hW (gVW wa_281 wa_282 wa_283 (hWMA _ wm_7) (hWMA _ wm_180) hWMA) rfl hrm.1 hrm.2.1 (by decide +kernel) ⟨hrm.2.2.1, (Nat.le_trans (Nat.add_le_add_left hrm.2.2.2 _) (Nat.le_of_ble_eq_true rfl))⟩) rfl hl.1 rfl (Nat.le_of_ble_eq_true rfl) ⟨hce, hsl⟩ dlw_508 (fun H2 locs2 hI hS => ?_)
  refine lv_istore (lv' := [(6, .int r9), (5, .int k), (0, .ref b), (1, .ref a0), (2, .ref (mO Gm)), (3, .ref o), (4, .int x4)]) hx hb dlw_511 hl (by decide) rfl (fun ls hl => ?_)
  refine lv_aload_n hx hb dlw_513 rfl (lv_at hl 4 rfl) ?_
  refine l_mod (As := []) Fx hF hI hS (c_thrown l Gm 0 M2 (M2.1 23) rfl) (cwV 0 hW (gVW wa_231 wa_232 wa_233 (hWMA _ wm_7) (hWMA _ wm_0) hWMA) rfl rfl rfl (by decide +kernel) ⟨Nat.le_of_ble_eq_true rfl, Nat.le_of_ble_eq_true rfl⟩) rfl hl.1 rfl (Nat.le_of_ble_eq_true rfl) ⟨hce, hsl⟩ dlw_514 (fun H3 locs3 hI hS => ?_)
  refine lv_iload hx hb dlw_517 (lv_at hl 1 rfl) ?_
  refine lv_icmp_eq (tgt := 524) hx hb dlw_519 (by decide) (fun _ => ?_) (fun cq => absurd h23 cq)
  refine lv_iload hx hb dlw_524 (lv_at hl 1 rfl) ?_
  have fin : W p l e room_1 s m #[Value.ref b] below meth c H3 locs3 (ce + 2) (sl + 21) Q (F0 m 541 ls []) := by
    refine lv_goto (tgt := 1296) hx hb dlw_541 (by decide) ?_
    exact kk S2 D2 M2 f2 H3 locs3 ls hj9 hI hS (lv_sub hl [2, 3, 4, 5, 6] rfl)
  refine lv_if_ne (tgt := 541) hx hb dlw_526 (by decide) (fun _ => fin) (fun cn => ?_)
  have hk0 : k = 0 := cn
  refine lv_aload_n hx hb dlw_529 rfl (lv_at hl 5 rfl) ?_
  refine lv_iconst (v := 0) hx hb dlw_530 (by decide) ?_
  refine va_lald hx hb hF.2.2.2.1 hI.2.2.1 0 0 (n := 1) rfl rfl vp_in01 dlw_531 ?_
  refine lv_iload hx hb dlw_532 (lv_at hl 0 rfl) ?_
  refine lv_i2l (v := r9.toInt64) hx hb dlw_534 rfl ?_
  refine W.lcmp hx hb dlw_535 ?_
  refine lv_if_eq (tgt := 541) hx hb dlw_536 (by decide) (fun _ => fin) (fun cq => absurd ?_ cq)
  rw [show f2 ((0 : Int32).toNatClampNeg) = r9.toInt64 from (hv9 hk0)]
  exact lg_cmp_self _
set_option maxHeartbeats 2000000 in
theorem lc_yNumerator {p : Program} {l : Launch} {e : Env} {s : State} {m : MethodId} {below : List Frame} {meth : Method} {c : Code} {Q : State → Prop} {G : cG} {Gm : mG} {z : Nat × Nat} {a0 o b L : Nat} {cJ : ClassId} {xs : Nat → Int32} (C0 : lw_At p s m meth c b L xs) (hF : lF_ G Gm cJ z s) {S : CS} {D : CD} {M : MS} {f : Nat → Int64} {H : Heap} {locs : List Loc} {ce sl i : Nat} {x4 : Int32} (hI : lI_ G Gm o cJ s S D M f H) (hS : va_S (fun q : Nat => s.heap.size ≤ q) s.heap H locs) (hL : L ≤ 2560) (hi : i + 5 ≤ L) (ex4 : x4 = nI i) {ls : Array Slot} (hl : lv_has ls 7 [(0, .ref b), (1, .ref a0), (2, .ref (mO Gm)), (3, .ref o), (4, .int x4)]) {rm : Room} (hrm : rm.cells = 0 ∧ rm.slots = 0 ∧ rm.frames + 1 ≤ 12 ∧ rm.locals ≤ 400) (hop : lRes l G Gm S D z a0 o cJ f M yL_yNumerator wL_yNumerator yX7_yNumerator vX7_yNumerator rm [.ref a0, .int (xs (x4 + 1).toNatClampNeg), .ref o] [.ref (mO Gm), .int (xs (x4 + 1).toNatClampNeg)] (fun b => b.toInt64)) (hce : ce + 2 ≤ 601024) (hsl : sl + 21 ≤ 7293034)
    (kk : ∀ (S2 : CS) (D2 : CD) (M2 : MS) (f2 : Nat → Int64) (H1 : Heap) (locs1 : List Loc) (ls1 : Array Slot), jP_ S2 D2 z a0 M2 → lI_ G Gm o cJ s S2 D2 M2 f2 H1 → va_S (fun q : Nat => s.heap.size ≤ q) s.heap H1 locs1 → lv_has ls1 7 [(0, .ref b), (1, .ref a0), (2, .ref (mO Gm)), (3, .ref o), (4, .int x4)] → W p l e room_1 s m #[Value.ref b] below meth c H1 locs1 (ce + 2) (sl + 21) Q (F0 m 1296 ls1 [])) : W p l e room_1 s m #[Value.ref b] below meth c H locs ce sl Q (F0 m 544 ls []) := by
  obtain ⟨hx, hb, hr, hml, hown, hts, hX, hbl, hlocks, hgv⟩ := C0
  have hW : ∀ w ∈ WA, w.before #[Value.ref b] s = true := fun w h => hts w (tb_WA w h)
  have Fx : CallFix p m c code 7 s #[Value.ref b] WA RL := ⟨hx, hb, hml, hown, hW⟩
  have hbA : ¬ (fun q : Nat => s.heap.size ≤ q) b := Nat.not_le.mpr hbl
  obtain ⟨k, r9, P, M2, hWc, hM, h23, hP⟩ := hop
  refine lv_aload_n hx hb dlw_544 rfl (lv_at hl 1 rfl) ?_
  refine lv_aload_n hx hb dlw_545 rfl (lv_at hl 0 rfl) ?_
  refine lv_iload hx hb dlw_546 (lv_at hl 4 rfl) ?_
  refine lv_iconst (v := 1) hx hb dlw_548 (by decide) ?_
  refine lv_iadd hx hb dlw_549 ?_
  refine va_sld hx hb hX hbl hbA hS (l_in 1 ex4 (Nat.lt_of_lt_of_le (Nat.add_lt_add_left (by decide) i) hi) hL) dlw_550 ?_
  refine lv_aload_n hx hb dlw_551 rfl (lv_at hl 3 rfl) ?_
  refine l_wrap (av := [.ref a0, .int (xs (x4 + 1).toNatClampNeg), .ref o]) Fx hF hI hS hWc (fun S2 D2 v h => (hP _ S2 D2 v h).1) (vx_cwSW 3 hW (gSW wa_284 wa_285 wa_227 wa_165) rfl rfl rfl (by decide +kernel) ⟨Nat.le_of_ble_eq_true rfl, Nat.le_of_ble_eq_true rfl⟩) rfl hl.1 rfl (Nat.le_of_ble_eq_true rfl) ⟨hce, hsl⟩ dlw_552 (fun S2 D2 f2 H1 locs1 hPo hI hS => ?_)
  obtain ⟨hg9, hj9, hv9⟩ := hP _ _ _ _ hPo
  refine lv_istore (lv' := [(5, .int k), (0, .ref b), (1, .ref a0), (2, .ref (mO Gm)), (3, .ref o), (4, .int x4)]) hx hb dlw_555 hl (by decide) rfl (fun ls hl => ?_)
  refine lv_aload_n hx hb dlw_557 rfl (lv_at hl 3 rfl) ?_
  refine lv_aload_n hx hb dlw_558 rfl (lv_at hl 1 rfl) ?_
  refine lv_iload hx hb dlw_559 (lv_at hl 5 rfl) ?_
  refine lv_iconst (v := 1) hx hb dlw_561 (by decide) ?_
  refine lv_iadd hx hb dlw_562 ?_
  refine va_sld hx hb hX hbl hbA hS (l_in 1 ex4 (Nat.lt_of_lt_of_le (Nat.add_lt_add_left (by decide) i) hi) hL) dlw_563 ?_
  refine l_mod (As := [.int (xs (x4 + 1).toNatClampNeg)]) Fx hF hI hS hM (cwV 1 hW (gVW wa_286 wa_287 wa_288 (hWMA _ wm_7) (hWMA _ wm_181) hWMA) rfl hrm.1 hrm.2.1 (by decide +kernel) ⟨hrm.2.2.1, (Nat.le_trans (Nat.add_le_add_left hrm.2.2.2 _) (Nat.le_of_ble_eq_true rfl))⟩) rfl hl.1 rfl (Nat.le_of_ble_eq_true rfl) ⟨hce, hsl⟩ dlw_564 (fun H2 locs2 hI hS => ?_)
  refine lv_istore (lv' := [(6, .int r9), (5, .int k), (0, .ref b), (1, .ref a0), (2, .ref (mO Gm)), (3, .ref o), (4, .int x4)]) hx hb dlw_567 hl (by decide) rfl (fun ls hl => ?_)
  refine lv_aload_n hx hb dlw_569 rfl (lv_at hl 4 rfl) ?_
  refine l_mod (As := []) Fx hF hI hS (c_thrown l Gm 0 M2 (M2.1 23) rfl) (cwV 0 hW (gVW wa_231 wa_232 wa_233 (hWMA _ wm_7) (hWMA _ wm_0) hWMA) rfl rfl rfl (by decide +kernel) ⟨Nat.le_of_ble_eq_true rfl, Nat.le_of_ble_eq_true rfl⟩) rfl hl.1 rfl (Nat.le_of_ble_eq_true rfl) ⟨hce, hsl⟩ dlw_570 (fun H3 locs3 hI hS => ?_)
  refine lv_iload hx hb dlw_573 (lv_at hl 1 rfl) ?_
  refine lv_icmp_eq (tgt := 580) hx hb dlw_575 (by decide) (fun _ => ?_) (fun cq => absurd h23 cq)
  refine lv_iload hx hb dlw_580 (lv_at hl 1 rfl) ?_
  have fin : W p l e room_1 s m #[Value.ref b] below meth c H3 locs3 (ce + 2) (sl + 21) Q (F0 m 597 ls []) := by
    refine lv_goto (tgt := 1296) hx hb dlw_597 (by decide) ?_
    exact kk S2 D2 M2 f2 H3 locs3 ls hj9 hI hS (lv_sub hl [2, 3, 4, 5, 6] rfl)
  refine lv_if_ne (tgt := 597) hx hb dlw_582 (by decide) (fun _ => fin) (fun cn => ?_)
  have hk0 : k = 0 := cn
  refine lv_aload_n hx hb dlw_585 rfl (lv_at hl 5 rfl) ?_
  refine lv_iconst (v := 0) hx hb dlw_586 (by decide) ?_
  refine va_lald hx hb hF.2.2.2.1 hI.2.2.1 0 0 (n := 1) rfl rfl vp_in01 dlw_587 ?_
  refine lv_iload hx hb dlw_588 (lv_at hl 0 rfl) ?_
  refine lv_i2l (v := r9.toInt64) hx hb dlw_590 rfl ?_
  refine W.lcmp hx hb dlw_591 ?_
  refine lv_if_eq (tgt := 597) hx hb dlw_592 (by decide) (fun _ => fin) (fun cq => absurd ?_ cq)
  rw [show f2 ((0 : Int32).toNatClampNeg) = r9.toInt64 from (hv9 hk0)]
  exact lg_cmp_self _
set_option maxHeartbeats 2000000 in
theorem lc_yDenominator {p : Program} {l : Launch} {e : Env} {s : State} {m : MethodId} {below : List Frame} {meth : Method} {c : Code} {Q : State → Prop} {G : cG} {Gm : mG} {z : Nat × Nat} {a0 o b L : Nat} {cJ : ClassId} {xs : Nat → Int32} (C0 : lw_At p s m meth c b L xs) (hF : lF_ G Gm cJ z s) {S : CS} {D : CD} {M : MS} {f : Nat → Int64} {H : Heap} {locs : List Loc} {ce sl i : Nat} {x4 : Int32} (hI : lI_ G Gm o cJ s S D M f H) (hS : va_S (fun q : Nat => s.heap.size ≤ q) s.heap H locs) (hL : L ≤ 2560) (hi : i + 5 ≤ L) (ex4 : x4 = nI i) {ls : Array Slot} (hl : lv_has ls 7 [(0, .ref b), (1, .ref a0), (2, .ref (mO Gm)), (3, .ref o), (4, .int x4)]) {rm : Room} (hrm : rm.cells = 0 ∧ rm.slots = 0 ∧ rm.frames + 1 ≤ 12 ∧ rm.locals ≤ 400) (hop : lRes l G Gm S D z a0 o cJ f M yL_yDenominator wL_yDenominator yX7_yDenominator vX7_yDenominator rm [.ref a0, .int (xs (x4 + 1).toNatClampNeg), .ref o] [.ref (mO Gm), .int (xs (x4 + 1).toNatClampNeg)] (fun b => b.toInt64)) (hce : ce + 2 ≤ 601024) (hsl : sl + 21 ≤ 7293034)
    (kk : ∀ (S2 : CS) (D2 : CD) (M2 : MS) (f2 : Nat → Int64) (H1 : Heap) (locs1 : List Loc) (ls1 : Array Slot), jP_ S2 D2 z a0 M2 → lI_ G Gm o cJ s S2 D2 M2 f2 H1 → va_S (fun q : Nat => s.heap.size ≤ q) s.heap H1 locs1 → lv_has ls1 7 [(0, .ref b), (1, .ref a0), (2, .ref (mO Gm)), (3, .ref o), (4, .int x4)] → W p l e room_1 s m #[Value.ref b] below meth c H1 locs1 (ce + 2) (sl + 21) Q (F0 m 1296 ls1 [])) : W p l e room_1 s m #[Value.ref b] below meth c H locs ce sl Q (F0 m 600 ls []) := by
  obtain ⟨hx, hb, hr, hml, hown, hts, hX, hbl, hlocks, hgv⟩ := C0
  have hW : ∀ w ∈ WA, w.before #[Value.ref b] s = true := fun w h => hts w (tb_WA w h)
  have Fx : CallFix p m c code 7 s #[Value.ref b] WA RL := ⟨hx, hb, hml, hown, hW⟩
  have hbA : ¬ (fun q : Nat => s.heap.size ≤ q) b := Nat.not_le.mpr hbl
  obtain ⟨k, r9, P, M2, hWc, hM, h23, hP⟩ := hop
  refine lv_aload_n hx hb dlw_600 rfl (lv_at hl 1 rfl) ?_
  refine lv_aload_n hx hb dlw_601 rfl (lv_at hl 0 rfl) ?_
  refine lv_iload hx hb dlw_602 (lv_at hl 4 rfl) ?_
  refine lv_iconst (v := 1) hx hb dlw_604 (by decide) ?_
  refine lv_iadd hx hb dlw_605 ?_
  refine va_sld hx hb hX hbl hbA hS (l_in 1 ex4 (Nat.lt_of_lt_of_le (Nat.add_lt_add_left (by decide) i) hi) hL) dlw_606 ?_
  refine lv_aload_n hx hb dlw_607 rfl (lv_at hl 3 rfl) ?_
  refine l_wrap (av := [.ref a0, .int (xs (x4 + 1).toNatClampNeg), .ref o]) Fx hF hI hS hWc (fun S2 D2 v h => (hP _ S2 D2 v h).1) (vx_cwSW 3 hW (gSW wa_289 wa_290 wa_227 wa_169) rfl rfl rfl (by decide +kernel) ⟨Nat.le_of_ble_eq_true rfl, Nat.le_of_ble_eq_true rfl⟩) rfl hl.1 rfl (Nat.le_of_ble_eq_true rfl) ⟨hce, hsl⟩ dlw_608 (fun S2 D2 f2 H1 locs1 hPo hI hS => ?_)
  obtain ⟨hg9, hj9, hv9⟩ := hP _ _ _ _ hPo
  refine lv_istore (lv' := [(5, .int k), (0, .ref b), (1, .ref a0), (2, .ref (mO Gm)), (3, .ref o), (4, .int x4)]) hx hb dlw_611 hl (by decide) rfl (fun ls hl => ?_)
  refine lv_aload_n hx hb dlw_613 rfl (lv_at hl 3 rfl) ?_
  refine lv_aload_n hx hb dlw_614 rfl (lv_at hl 1 rfl) ?_
  refine lv_iload hx hb dlw_615 (lv_at hl 5 rfl) ?_
  refine lv_iconst (v := 1) hx hb dlw_617 (by decide) ?_
  refine lv_iadd hx hb dlw_618 ?_
  refine va_sld hx hb hX hbl hbA hS (l_in 1 ex4 (Nat.lt_of_lt_of_le (Nat.add_lt_add_left (by decide) i) hi) hL) dlw_619 ?_
  refine l_mod (As := [.int (xs (x4 + 1).toNatClampNeg)]) Fx hF hI hS hM (cwV 1 hW (gVW wa_291 wa_292 wa_293 (hWMA _ wm_7) (hWMA _ wm_182) hWMA) rfl hrm.1 hrm.2.1 (by decide +kernel) ⟨hrm.2.2.1, (Nat.le_trans (Nat.add_le_add_left hrm.2.2.2 _) (Nat.le_of_ble_eq_true rfl))⟩) rfl hl.1 rfl (Nat.le_of_ble_eq_true rfl) ⟨hce, hsl⟩ dlw_620 (fun H2 locs2 hI hS => ?_)
  refine lv_istore (lv' := [(6, .int r9), (5, .int k), (0, .ref b), (1, .ref a0), (2, .ref (mO Gm)), (3, .ref o), (4, .int x4)]) hx hb dlw_623 hl (by decide) rfl (fun ls hl => ?_)
  refine lv_aload_n hx hb dlw_625 rfl (lv_at hl 4 rfl) ?_
  refine l_mod (As := []) Fx hF hI hS (c_thrown l Gm 0 M2 (M2.1 23) rfl) (cwV 0 hW (gVW wa_231 wa_232 wa_233 (hWMA _ wm_7) (hWMA _ wm_0) hWMA) rfl rfl rfl (by decide +kernel) ⟨Nat.le_of_ble_eq_true rfl, Nat.le_of_ble_eq_true rfl⟩) rfl hl.1 rfl (Nat.le_of_ble_eq_true rfl) ⟨hce, hsl⟩ dlw_626 (fun H3 locs3 hI hS => ?_)
  refine lv_iload hx hb dlw_629 (lv_at hl 1 rfl) ?_
  refine lv_icmp_eq (tgt := 636) hx hb dlw_631 (by decide) (fun _ => ?_) (fun cq => absurd h23 cq)
  refine lv_iload hx hb dlw_636 (lv_at hl 1 rfl) ?_
  have fin : W p l e room_1 s m #[Value.ref b] below meth c H3 locs3 (ce + 2) (sl + 21) Q (F0 m 653 ls []) := by
    refine lv_goto (tgt := 1296) hx hb dlw_653 (by decide) ?_
    exact kk S2 D2 M2 f2 H3 locs3 ls hj9 hI hS (lv_sub hl [2, 3, 4, 5, 6] rfl)
  refine lv_if_ne (tgt := 653) hx hb dlw_638 (by decide) (fun _ => fin) (fun cn => ?_)
  have hk0 : k = 0 := cn
  refine lv_aload_n hx hb dlw_641 rfl (lv_at hl 5 rfl) ?_
  refine lv_iconst (v := 0) hx hb dlw_642 (by decide) ?_
  refine va_lald hx hb hF.2.2.2.1 hI.2.2.1 0 0 (n := 1) rfl rfl vp_in01 dlw_643 ?_
  refine lv_iload hx hb dlw_644 (lv_at hl 0 rfl) ?_
  refine lv_i2l (v := r9.toInt64) hx hb dlw_646 rfl ?_
  refine W.lcmp hx hb dlw_647 ?_
  refine lv_if_eq (tgt := 653) hx hb dlw_648 (by decide) (fun _ => fin) (fun cq => absurd ?_ cq)
  rw [show f2 ((0 : Int32).toNatClampNeg) = r9.toInt64 from (hv9 hk0)]
  exact lg_cmp_self _
set_option maxHeartbeats 2000000 in
theorem lc_degree {p : Program} {l : Launch} {e : Env} {s : State} {m : MethodId} {below : List Frame} {meth : Method} {c : Code} {Q : State → Prop} {G : cG} {Gm : mG} {z : Nat × Nat} {a0 o b L : Nat} {cJ : ClassId} {xs : Nat → Int32} (C0 : lw_At p s m meth c b L xs) (hF : lF_ G Gm cJ z s) {S : CS} {D : CD} {M : MS} {f : Nat → Int64} {H : Heap} {locs : List Loc} {ce sl i : Nat} {x4 : Int32} (hI : lI_ G Gm o cJ s S D M f H) (hS : va_S (fun q : Nat => s.heap.size ≤ q) s.heap H locs) (hL : L ≤ 2560) (hi : i + 5 ≤ L) (ex4 : x4 = nI i) {ls : Array Slot} (hl : lv_has ls 7 [(0, .ref b), (1, .ref a0), (2, .ref (mO Gm)), (3, .ref o), (4, .int x4)]) {rm : Room} (hrm : rm.cells = 0 ∧ rm.slots = 0 ∧ rm.frames + 1 ≤ 12 ∧ rm.locals ≤ 400) (hop : lRes l G Gm S D z a0 o cJ f M yL_degree wL_degree yX7_degree vX7_degree rm [.ref a0, .int (xs (x4 + 1).toNatClampNeg), .ref o] [.ref (mO Gm), .int (xs (x4 + 1).toNatClampNeg)] (fun b => b.toInt64)) (hce : ce + 2 ≤ 601024) (hsl : sl + 21 ≤ 7293034)
    (kk : ∀ (S2 : CS) (D2 : CD) (M2 : MS) (f2 : Nat → Int64) (H1 : Heap) (locs1 : List Loc) (ls1 : Array Slot), jP_ S2 D2 z a0 M2 → lI_ G Gm o cJ s S2 D2 M2 f2 H1 → va_S (fun q : Nat => s.heap.size ≤ q) s.heap H1 locs1 → lv_has ls1 7 [(0, .ref b), (1, .ref a0), (2, .ref (mO Gm)), (3, .ref o), (4, .int x4)] → W p l e room_1 s m #[Value.ref b] below meth c H1 locs1 (ce + 2) (sl + 21) Q (F0 m 1296 ls1 [])) : W p l e room_1 s m #[Value.ref b] below meth c H locs ce sl Q (F0 m 656 ls []) := by
  obtain ⟨hx, hb, hr, hml, hown, hts, hX, hbl, hlocks, hgv⟩ := C0
  have hW : ∀ w ∈ WA, w.before #[Value.ref b] s = true := fun w h => hts w (tb_WA w h)
  have Fx : CallFix p m c code 7 s #[Value.ref b] WA RL := ⟨hx, hb, hml, hown, hW⟩
  have hbA : ¬ (fun q : Nat => s.heap.size ≤ q) b := Nat.not_le.mpr hbl
  obtain ⟨k, r9, P, M2, hWc, hM, h23, hP⟩ := hop
  refine lv_aload_n hx hb dlw_656 rfl (lv_at hl 1 rfl) ?_
  refine lv_aload_n hx hb dlw_657 rfl (lv_at hl 0 rfl) ?_
  refine lv_iload hx hb dlw_658 (lv_at hl 4 rfl) ?_
  refine lv_iconst (v := 1) hx hb dlw_660 (by decide) ?_
  refine lv_iadd hx hb dlw_661 ?_
  refine va_sld hx hb hX hbl hbA hS (l_in 1 ex4 (Nat.lt_of_lt_of_le (Nat.add_lt_add_left (by decide) i) hi) hL) dlw_662 ?_
  refine lv_aload_n hx hb dlw_663 rfl (lv_at hl 3 rfl) ?_
  refine l_wrap (av := [.ref a0, .int (xs (x4 + 1).toNatClampNeg), .ref o]) Fx hF hI hS hWc (fun S2 D2 v h => (hP _ S2 D2 v h).1) (vx_cwSW 3 hW (gSW wa_294 wa_295 wa_227 wa_173) rfl rfl rfl (by decide +kernel) ⟨Nat.le_of_ble_eq_true rfl, Nat.le_of_ble_eq_true rfl⟩) rfl hl.1 rfl (Nat.le_of_ble_eq_true rfl) ⟨hce, hsl⟩ dlw_664 (fun S2 D2 f2 H1 locs1 hPo hI hS => ?_)
  obtain ⟨hg9, hj9, hv9⟩ := hP _ _ _ _ hPo
  refine lv_istore (lv' := [(5, .int k), (0, .ref b), (1, .ref a0), (2, .ref (mO Gm)), (3, .ref o), (4, .int x4)]) hx hb dlw_667 hl (by decide) rfl (fun ls hl => ?_)
  refine lv_aload_n hx hb dlw_669 rfl (lv_at hl 3 rfl) ?_
  refine lv_aload_n hx hb dlw_670 rfl (lv_at hl 1 rfl) ?_
  refine lv_iload hx hb dlw_671 (lv_at hl 5 rfl) ?_
  refine lv_iconst (v := 1) hx hb dlw_673 (by decide) ?_
  refine lv_iadd hx hb dlw_674 ?_
  refine va_sld hx hb hX hbl hbA hS (l_in 1 ex4 (Nat.lt_of_lt_of_le (Nat.add_lt_add_left (by decide) i) hi) hL) dlw_675 ?_
  refine l_mod (As := [.int (xs (x4 + 1).toNatClampNeg)]) Fx hF hI hS hM (cwV 1 hW (gVW wa_296 wa_297 wa_298 (hWMA _ wm_7) (hWMA _ wm_183) hWMA) rfl hrm.1 hrm.2.1 (by decide +kernel) ⟨hrm.2.2.1, (Nat.le_trans (Nat.add_le_add_left hrm.2.2.2 _) (Nat.le_of_ble_eq_true rfl))⟩) rfl hl.1 rfl (Nat.le_of_ble_eq_true rfl) ⟨hce, hsl⟩ dlw_676 (fun H2 locs2 hI hS => ?_)
  refine lv_istore (lv' := [(6, .int r9), (5, .int k), (0, .ref b), (1, .ref a0), (2, .ref (mO Gm)), (3, .ref o), (4, .int x4)]) hx hb dlw_679 hl (by decide) rfl (fun ls hl => ?_)
  refine lv_aload_n hx hb dlw_681 rfl (lv_at hl 4 rfl) ?_
  refine l_mod (As := []) Fx hF hI hS (c_thrown l Gm 0 M2 (M2.1 23) rfl) (cwV 0 hW (gVW wa_231 wa_232 wa_233 (hWMA _ wm_7) (hWMA _ wm_0) hWMA) rfl rfl rfl (by decide +kernel) ⟨Nat.le_of_ble_eq_true rfl, Nat.le_of_ble_eq_true rfl⟩) rfl hl.1 rfl (Nat.le_of_ble_eq_true rfl) ⟨hce, hsl⟩ dlw_682 (fun H3 locs3 hI hS => ?_)
  refine lv_iload hx hb dlw_685 (lv_at hl 1 rfl) ?_
  refine lv_icmp_eq (tgt := 692) hx hb dlw_687 (by decide) (fun _ => ?_) (fun cq => absurd h23 cq)
  refine lv_iload hx hb dlw_692 (lv_at hl 1 rfl) ?_
  have fin : W p l e room_1 s m #[Value.ref b] below meth c H3 locs3 (ce + 2) (sl + 21) Q (F0 m 709 ls []) := by
    refine lv_goto (tgt := 1296) hx hb dlw_709 (by decide) ?_
    exact kk S2 D2 M2 f2 H3 locs3 ls hj9 hI hS (lv_sub hl [2, 3, 4, 5, 6] rfl)
  refine lv_if_ne (tgt := 709) hx hb dlw_694 (by decide) (fun _ => fin) (fun cn => ?_)
  have hk0 : k = 0 := cn
  refine lv_aload_n hx hb dlw_697 rfl (lv_at hl 5 rfl) ?_
  refine lv_iconst (v := 0) hx hb dlw_698 (by decide) ?_
  refine va_lald hx hb hF.2.2.2.1 hI.2.2.1 0 0 (n := 1) rfl rfl vp_in01 dlw_699 ?_
  refine lv_iload hx hb dlw_700 (lv_at hl 0 rfl) ?_
  refine lv_i2l (v := r9.toInt64) hx hb dlw_702 rfl ?_
  refine W.lcmp hx hb dlw_703 ?_
  refine lv_if_eq (tgt := 709) hx hb dlw_704 (by decide) (fun _ => fin) (fun cq => absurd ?_ cq)
  rw [show f2 ((0 : Int32).toNatClampNeg) = r9.toInt64 from (hv9 hk0)]
  exact lg_cmp_self _
