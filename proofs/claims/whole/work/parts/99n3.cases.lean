/-! The law, case by case. -/
theorem dlw_712 : decode code 712 = .ok (.aload_n 1, 1) := by decide +kernel
theorem dlw_713 : decode code 713 = .ok (.aload_n 0, 1) := by decide +kernel
theorem dlw_714 : decode code 714 = .ok (.iload 4, 2) := by decide +kernel
theorem dlw_716 : decode code 716 = .ok (.iconst 1, 1) := by decide +kernel
theorem dlw_717 : decode code 717 = .ok (.iadd, 1) := by decide +kernel
theorem dlw_718 : decode code 718 = .ok (.iaload, 1) := by decide +kernel
theorem dlw_719 : decode code 719 = .ok (.aload_n 3, 1) := by decide +kernel
theorem dlw_720 : decode code 720 = .ok (.invokestatic 130, 3) := by decide +kernel
theorem dlw_723 : decode code 723 = .ok (.istore 5, 2) := by decide +kernel
theorem dlw_725 : decode code 725 = .ok (.aload_n 2, 1) := by decide +kernel
theorem dlw_726 : decode code 726 = .ok (.aload_n 0, 1) := by decide +kernel
theorem dlw_727 : decode code 727 = .ok (.iload 4, 2) := by decide +kernel
theorem dlw_729 : decode code 729 = .ok (.iconst 1, 1) := by decide +kernel
theorem dlw_730 : decode code 730 = .ok (.iadd, 1) := by decide +kernel
theorem dlw_731 : decode code 731 = .ok (.iaload, 1) := by decide +kernel
theorem dlw_732 : decode code 732 = .ok (.invokevirtual 132, 3) := by decide +kernel
theorem dlw_735 : decode code 735 = .ok (.istore 6, 2) := by decide +kernel
theorem dlw_737 : decode code 737 = .ok (.aload_n 2, 1) := by decide +kernel
theorem dlw_738 : decode code 738 = .ok (.invokevirtual 83, 3) := by decide +kernel
theorem dlw_741 : decode code 741 = .ok (.iload 5, 2) := by decide +kernel
theorem dlw_743 : decode code 743 = .ok (.if_icmp .eq 5, 3) := by decide +kernel
theorem dlw_746 : decode code 746 = .ok (.iconst 0, 1) := by decide +kernel
theorem dlw_747 : decode code 747 = .ok (.ireturn, 1) := by decide +kernel
theorem dlw_748 : decode code 748 = .ok (.iload 5, 2) := by decide +kernel
theorem dlw_750 : decode code 750 = .ok (.ifCond .ne 15, 3) := by decide +kernel
theorem dlw_753 : decode code 753 = .ok (.aload_n 3, 1) := by decide +kernel
theorem dlw_754 : decode code 754 = .ok (.iconst 0, 1) := by decide +kernel
theorem dlw_755 : decode code 755 = .ok (.laload, 1) := by decide +kernel
theorem dlw_756 : decode code 756 = .ok (.iload 6, 2) := by decide +kernel
theorem dlw_758 : decode code 758 = .ok (.i2l, 1) := by decide +kernel
theorem dlw_759 : decode code 759 = .ok (.lcmp, 1) := by decide +kernel
theorem dlw_760 : decode code 760 = .ok (.ifCond .eq 5, 3) := by decide +kernel
theorem dlw_763 : decode code 763 = .ok (.iconst 0, 1) := by decide +kernel
theorem dlw_764 : decode code 764 = .ok (.ireturn, 1) := by decide +kernel
theorem dlw_765 : decode code 765 = .ok (.goto (531), 3) := by decide +kernel
theorem dlw_768 : decode code 768 = .ok (.aload_n 1, 1) := by decide +kernel
theorem dlw_769 : decode code 769 = .ok (.aload_n 0, 1) := by decide +kernel
theorem dlw_770 : decode code 770 = .ok (.iload 4, 2) := by decide +kernel
theorem dlw_772 : decode code 772 = .ok (.iconst 1, 1) := by decide +kernel
theorem dlw_773 : decode code 773 = .ok (.iadd, 1) := by decide +kernel
theorem dlw_774 : decode code 774 = .ok (.iaload, 1) := by decide +kernel
theorem dlw_775 : decode code 775 = .ok (.aload_n 3, 1) := by decide +kernel
theorem dlw_776 : decode code 776 = .ok (.invokestatic 133, 3) := by decide +kernel
theorem dlw_779 : decode code 779 = .ok (.istore 5, 2) := by decide +kernel
theorem dlw_781 : decode code 781 = .ok (.aload_n 2, 1) := by decide +kernel
theorem dlw_782 : decode code 782 = .ok (.aload_n 0, 1) := by decide +kernel
theorem dlw_783 : decode code 783 = .ok (.iload 4, 2) := by decide +kernel
theorem dlw_785 : decode code 785 = .ok (.iconst 1, 1) := by decide +kernel
theorem dlw_786 : decode code 786 = .ok (.iadd, 1) := by decide +kernel
theorem dlw_787 : decode code 787 = .ok (.iaload, 1) := by decide +kernel
theorem dlw_788 : decode code 788 = .ok (.invokevirtual 135, 3) := by decide +kernel
theorem dlw_791 : decode code 791 = .ok (.istore 6, 2) := by decide +kernel
theorem dlw_793 : decode code 793 = .ok (.aload_n 2, 1) := by decide +kernel
theorem dlw_794 : decode code 794 = .ok (.invokevirtual 83, 3) := by decide +kernel
theorem dlw_797 : decode code 797 = .ok (.iload 5, 2) := by decide +kernel
theorem dlw_799 : decode code 799 = .ok (.if_icmp .eq 5, 3) := by decide +kernel
theorem dlw_802 : decode code 802 = .ok (.iconst 0, 1) := by decide +kernel
theorem dlw_803 : decode code 803 = .ok (.ireturn, 1) := by decide +kernel
theorem dlw_804 : decode code 804 = .ok (.iload 5, 2) := by decide +kernel
theorem dlw_806 : decode code 806 = .ok (.ifCond .ne 15, 3) := by decide +kernel
theorem dlw_809 : decode code 809 = .ok (.aload_n 3, 1) := by decide +kernel
theorem dlw_810 : decode code 810 = .ok (.iconst 0, 1) := by decide +kernel
theorem dlw_811 : decode code 811 = .ok (.laload, 1) := by decide +kernel
theorem dlw_812 : decode code 812 = .ok (.iload 6, 2) := by decide +kernel
theorem dlw_814 : decode code 814 = .ok (.i2l, 1) := by decide +kernel
theorem dlw_815 : decode code 815 = .ok (.lcmp, 1) := by decide +kernel
theorem dlw_816 : decode code 816 = .ok (.ifCond .eq 5, 3) := by decide +kernel
theorem dlw_819 : decode code 819 = .ok (.iconst 0, 1) := by decide +kernel
theorem dlw_820 : decode code 820 = .ok (.ireturn, 1) := by decide +kernel
theorem dlw_821 : decode code 821 = .ok (.goto (475), 3) := by decide +kernel
theorem dlw_824 : decode code 824 = .ok (.aload_n 1, 1) := by decide +kernel
theorem dlw_825 : decode code 825 = .ok (.aload_n 0, 1) := by decide +kernel
theorem dlw_826 : decode code 826 = .ok (.iload 4, 2) := by decide +kernel
theorem dlw_828 : decode code 828 = .ok (.iconst 1, 1) := by decide +kernel
theorem dlw_829 : decode code 829 = .ok (.iadd, 1) := by decide +kernel
theorem dlw_830 : decode code 830 = .ok (.iaload, 1) := by decide +kernel
theorem dlw_831 : decode code 831 = .ok (.aload_n 3, 1) := by decide +kernel
theorem dlw_832 : decode code 832 = .ok (.invokestatic 136, 3) := by decide +kernel
theorem dlw_835 : decode code 835 = .ok (.istore 5, 2) := by decide +kernel
theorem dlw_837 : decode code 837 = .ok (.aload_n 2, 1) := by decide +kernel
theorem dlw_838 : decode code 838 = .ok (.aload_n 0, 1) := by decide +kernel
theorem dlw_839 : decode code 839 = .ok (.iload 4, 2) := by decide +kernel
theorem dlw_841 : decode code 841 = .ok (.iconst 1, 1) := by decide +kernel
theorem dlw_842 : decode code 842 = .ok (.iadd, 1) := by decide +kernel
theorem dlw_843 : decode code 843 = .ok (.iaload, 1) := by decide +kernel
theorem dlw_844 : decode code 844 = .ok (.invokevirtual 138, 3) := by decide +kernel
theorem dlw_847 : decode code 847 = .ok (.istore 6, 2) := by decide +kernel
theorem dlw_849 : decode code 849 = .ok (.aload_n 2, 1) := by decide +kernel
theorem dlw_850 : decode code 850 = .ok (.invokevirtual 83, 3) := by decide +kernel
theorem dlw_853 : decode code 853 = .ok (.iload 5, 2) := by decide +kernel
theorem dlw_855 : decode code 855 = .ok (.if_icmp .eq 5, 3) := by decide +kernel
theorem dlw_858 : decode code 858 = .ok (.iconst 0, 1) := by decide +kernel
theorem dlw_859 : decode code 859 = .ok (.ireturn, 1) := by decide +kernel
theorem dlw_860 : decode code 860 = .ok (.iload 5, 2) := by decide +kernel
theorem dlw_862 : decode code 862 = .ok (.ifCond .ne 15, 3) := by decide +kernel
theorem dlw_865 : decode code 865 = .ok (.aload_n 3, 1) := by decide +kernel
theorem dlw_866 : decode code 866 = .ok (.iconst 0, 1) := by decide +kernel
theorem dlw_867 : decode code 867 = .ok (.laload, 1) := by decide +kernel
theorem dlw_868 : decode code 868 = .ok (.iload 6, 2) := by decide +kernel
theorem dlw_870 : decode code 870 = .ok (.i2l, 1) := by decide +kernel
theorem dlw_871 : decode code 871 = .ok (.lcmp, 1) := by decide +kernel
theorem dlw_872 : decode code 872 = .ok (.ifCond .eq 5, 3) := by decide +kernel
theorem dlw_875 : decode code 875 = .ok (.iconst 0, 1) := by decide +kernel
theorem dlw_876 : decode code 876 = .ok (.ireturn, 1) := by decide +kernel
theorem dlw_877 : decode code 877 = .ok (.goto (419), 3) := by decide +kernel
theorem dlw_880 : decode code 880 = .ok (.aload_n 1, 1) := by decide +kernel
theorem dlw_881 : decode code 881 = .ok (.aload_n 0, 1) := by decide +kernel
theorem dlw_882 : decode code 882 = .ok (.iload 4, 2) := by decide +kernel
theorem dlw_884 : decode code 884 = .ok (.iconst 1, 1) := by decide +kernel
theorem dlw_885 : decode code 885 = .ok (.iadd, 1) := by decide +kernel
theorem dlw_886 : decode code 886 = .ok (.iaload, 1) := by decide +kernel
theorem dlw_887 : decode code 887 = .ok (.aload_n 3, 1) := by decide +kernel
theorem dlw_888 : decode code 888 = .ok (.invokestatic 139, 3) := by decide +kernel
theorem dlw_891 : decode code 891 = .ok (.istore 5, 2) := by decide +kernel
theorem dlw_893 : decode code 893 = .ok (.aload_n 2, 1) := by decide +kernel
theorem dlw_894 : decode code 894 = .ok (.aload_n 0, 1) := by decide +kernel
theorem dlw_895 : decode code 895 = .ok (.iload 4, 2) := by decide +kernel
theorem dlw_897 : decode code 897 = .ok (.iconst 1, 1) := by decide +kernel
theorem dlw_898 : decode code 898 = .ok (.iadd, 1) := by decide +kernel
theorem dlw_899 : decode code 899 = .ok (.iaload, 1) := by decide +kernel
theorem dlw_900 : decode code 900 = .ok (.invokevirtual 141, 3) := by decide +kernel
theorem dlw_903 : decode code 903 = .ok (.istore 6, 2) := by decide +kernel
theorem dlw_905 : decode code 905 = .ok (.aload_n 2, 1) := by decide +kernel
theorem dlw_906 : decode code 906 = .ok (.invokevirtual 83, 3) := by decide +kernel
theorem dlw_909 : decode code 909 = .ok (.iload 5, 2) := by decide +kernel
theorem dlw_911 : decode code 911 = .ok (.if_icmp .eq 5, 3) := by decide +kernel
theorem dlw_914 : decode code 914 = .ok (.iconst 0, 1) := by decide +kernel
theorem dlw_915 : decode code 915 = .ok (.ireturn, 1) := by decide +kernel
theorem dlw_916 : decode code 916 = .ok (.iload 5, 2) := by decide +kernel
theorem dlw_918 : decode code 918 = .ok (.ifCond .ne 15, 3) := by decide +kernel
theorem dlw_921 : decode code 921 = .ok (.aload_n 3, 1) := by decide +kernel
theorem dlw_922 : decode code 922 = .ok (.iconst 0, 1) := by decide +kernel
theorem dlw_923 : decode code 923 = .ok (.laload, 1) := by decide +kernel
theorem dlw_924 : decode code 924 = .ok (.iload 6, 2) := by decide +kernel
theorem dlw_926 : decode code 926 = .ok (.i2l, 1) := by decide +kernel
theorem dlw_927 : decode code 927 = .ok (.lcmp, 1) := by decide +kernel
theorem dlw_928 : decode code 928 = .ok (.ifCond .eq 5, 3) := by decide +kernel
theorem dlw_931 : decode code 931 = .ok (.iconst 0, 1) := by decide +kernel
theorem dlw_932 : decode code 932 = .ok (.ireturn, 1) := by decide +kernel
theorem dlw_933 : decode code 933 = .ok (.goto (363), 3) := by decide +kernel
set_option maxHeartbeats 2000000 in
theorem lc_segmentOf {p : Program} {l : Launch} {e : Env} {s : State} {m : MethodId} {below : List Frame} {meth : Method} {c : Code} {Q : State → Prop} {G : cG} {Gm : mG} {z : Nat × Nat} {a0 o b L : Nat} {cJ : ClassId} {xs : Nat → Int32} (C0 : lw_At p s m meth c b L xs) (hF : lF_ G Gm cJ z s) {S : CS} {D : CD} {M : MS} {f : Nat → Int64} {H : Heap} {locs : List Loc} {ce sl i : Nat} {x4 : Int32} (hI : lI_ G Gm o cJ s S D M f H) (hS : va_S (fun q : Nat => s.heap.size ≤ q) s.heap H locs) (hL : L ≤ 2560) (hi : i + 5 ≤ L) (ex4 : x4 = nI i) {ls : Array Slot} (hl : lv_has ls 7 [(0, .ref b), (1, .ref a0), (2, .ref (mO Gm)), (3, .ref o), (4, .int x4)]) {rm : Room} (hrm : rm.cells = 0 ∧ rm.slots = 0 ∧ rm.frames + 1 ≤ 12 ∧ rm.locals ≤ 400) (hop : lRes l G Gm S D z a0 o cJ f M yL_segmentOf wL_segmentOf yX7_segmentOf vX7_segmentOf rm [.ref a0, .int (xs (x4 + 1).toNatClampNeg), .ref o] [.ref (mO Gm), .int (xs (x4 + 1).toNatClampNeg)] (fun b => b.toInt64)) (hce : ce + 2 ≤ 601024) (hsl : sl + 21 ≤ 7293034)
    (kk : ∀ (S2 : CS) (D2 : CD) (M2 : MS) (f2 : Nat → Int64) (H1 : Heap) (locs1 : List Loc) (ls1 : Array Slot), jP_ S2 D2 z a0 M2 → lI_ G Gm o cJ s S2 D2 M2 f2 H1 → va_S (fun q : Nat => s.heap.size ≤ q) s.heap H1 locs1 → lv_has ls1 7 [(0, .ref b), (1, .ref a0), (2, .ref (mO Gm)), (3, .ref o), (4, .int x4)] → W p l e room_1 s m #[Value.ref b] below meth c H1 locs1 (ce + 2) (sl + 21) Q (F0 m 1296 ls1 [])) : W p l e room_1 s m #[Value.ref b] below meth c H locs ce sl Q (F0 m 712 ls []) := by
  obtain ⟨hx, hb, hr, hml, hown, hts, hX, hbl, hlocks, hgv⟩ := C0
  have hW : ∀ w ∈ WA, w.before #[Value.ref b] s = true := fun w h => hts w (tb_WA w h)
  have Fx : CallFix p m c code 7 s #[Value.ref b] WA RL := ⟨hx, hb, hml, hown, hW⟩
  have hbA : ¬ (fun q : Nat => s.heap.size ≤ q) b := Nat.not_le.mpr hbl
  obtain ⟨k, r9, P, M2, hWc, hM, h23, hP⟩ := hop
  refine lv_aload_n hx hb dlw_712 rfl (lv_at hl 1 rfl) ?_
  refine lv_aload_n hx hb dlw_713 rfl (lv_at hl 0 rfl) ?_
  refine lv_iload hx hb dlw_714 (lv_at hl 4 rfl) ?_
  refine lv_iconst (v := 1) hx hb dlw_716 (by decide) ?_
  refine lv_iadd hx hb dlw_717 ?_
  refine va_sld hx hb hX hbl hbA hS (l_in 1 ex4 (Nat.lt_of_lt_of_le (Nat.add_lt_add_left (by decide) i) hi) hL) dlw_718 ?_
  refine lv_aload_n hx hb dlw_719 rfl (lv_at hl 3 rfl) ?_
  refine l_wrap (av := [.ref a0, .int (xs (x4 + 1).toNatClampNeg), .ref o]) Fx hF hI hS hWc (fun S2 D2 v h => (hP _ S2 D2 v h).1) (vx_cwSW 3 hW (gSW wa_299 wa_300 wa_227 wa_177) rfl rfl rfl (by decide +kernel) ⟨Nat.le_of_ble_eq_true rfl, Nat.le_of_ble_eq_true rfl⟩) rfl hl.1 rfl (Nat.le_of_ble_eq_true rfl) ⟨hce, hsl⟩ dlw_720 (fun S2 D2 f2 H1 locs1 hPo hI hS => ?_)
  obtain ⟨hg9, hj9, hv9⟩ := hP _ _ _ _ hPo
  refine lv_istore (lv' := [(5, .int k), (0, .ref b), (1, .ref a0), (2, .ref (mO Gm)), (3, .ref o), (4, .int x4)]) hx hb dlw_723 hl (by decide) rfl (fun ls hl => ?_)
  refine lv_aload_n hx hb dlw_725 rfl (lv_at hl 3 rfl) ?_
  refine lv_aload_n hx hb dlw_726 rfl (lv_at hl 1 rfl) ?_
  refine lv_iload hx hb dlw_727 (lv_at hl 5 rfl) ?_
  refine lv_iconst (v := 1) hx hb dlw_729 (by decide) ?_
  refine lv_iadd hx hb dlw_730 ?_
  refine va_sld hx hb hX hbl hbA hS (l_in 1 ex4 (Nat.lt_of_lt_of_le (Nat.add_lt_add_left (by decide) i) hi) hL) dlw_731 ?_
  refine l_mod (As := [.int (xs (x4 + 1).toNatClampNeg)]) Fx hF hI hS hM (cwV 1 hW (gVW wa_301 wa_302 wa_303 (hWMA _ wm_7) (hWMA _ wm_185) hWMA) rfl hrm.1 hrm.2.1 (by decide +kernel) ⟨hrm.2.2.1, (Nat.le_trans (Nat.add_le_add_left hrm.2.2.2 _) (Nat.le_of_ble_eq_true rfl))⟩) rfl hl.1 rfl (Nat.le_of_ble_eq_true rfl) ⟨hce, hsl⟩ dlw_732 (fun H2 locs2 hI hS => ?_)
  refine lv_istore (lv' := [(6, .int r9), (5, .int k), (0, .ref b), (1, .ref a0), (2, .ref (mO Gm)), (3, .ref o), (4, .int x4)]) hx hb dlw_735 hl (by decide) rfl (fun ls hl => ?_)
  refine lv_aload_n hx hb dlw_737 rfl (lv_at hl 4 rfl) ?_
  refine l_mod (As := []) Fx hF hI hS (c_thrown l Gm 0 M2 (M2.1 23) rfl) (cwV 0 hW (gVW wa_231 wa_232 wa_233 (hWMA _ wm_7) (hWMA _ wm_0) hWMA) rfl rfl rfl (by decide +kernel) ⟨Nat.le_of_ble_eq_true rfl, Nat.le_of_ble_eq_true rfl⟩) rfl hl.1 rfl (Nat.le_of_ble_eq_true rfl) ⟨hce, hsl⟩ dlw_738 (fun H3 locs3 hI hS => ?_)
  refine lv_iload hx hb dlw_741 (lv_at hl 1 rfl) ?_
  refine lv_icmp_eq (tgt := 748) hx hb dlw_743 (by decide) (fun _ => ?_) (fun cq => absurd h23 cq)
  refine lv_iload hx hb dlw_748 (lv_at hl 1 rfl) ?_
  have fin : W p l e room_1 s m #[Value.ref b] below meth c H3 locs3 (ce + 2) (sl + 21) Q (F0 m 765 ls []) := by
    refine lv_goto (tgt := 1296) hx hb dlw_765 (by decide) ?_
    exact kk S2 D2 M2 f2 H3 locs3 ls hj9 hI hS (lv_sub hl [2, 3, 4, 5, 6] rfl)
  refine lv_if_ne (tgt := 765) hx hb dlw_750 (by decide) (fun _ => fin) (fun cn => ?_)
  have hk0 : k = 0 := cn
  refine lv_aload_n hx hb dlw_753 rfl (lv_at hl 5 rfl) ?_
  refine lv_iconst (v := 0) hx hb dlw_754 (by decide) ?_
  refine va_lald hx hb hF.2.2.2.1 hI.2.2.1 0 0 (n := 1) rfl rfl vp_in01 dlw_755 ?_
  refine lv_iload hx hb dlw_756 (lv_at hl 0 rfl) ?_
  refine lv_i2l (v := r9.toInt64) hx hb dlw_758 rfl ?_
  refine W.lcmp hx hb dlw_759 ?_
  refine lv_if_eq (tgt := 765) hx hb dlw_760 (by decide) (fun _ => fin) (fun cq => absurd ?_ cq)
  rw [show f2 ((0 : Int32).toNatClampNeg) = r9.toInt64 from (hv9 hk0)]
  exact lg_cmp_self _
set_option maxHeartbeats 2000000 in
theorem lc_from {p : Program} {l : Launch} {e : Env} {s : State} {m : MethodId} {below : List Frame} {meth : Method} {c : Code} {Q : State → Prop} {G : cG} {Gm : mG} {z : Nat × Nat} {a0 o b L : Nat} {cJ : ClassId} {xs : Nat → Int32} (C0 : lw_At p s m meth c b L xs) (hF : lF_ G Gm cJ z s) {S : CS} {D : CD} {M : MS} {f : Nat → Int64} {H : Heap} {locs : List Loc} {ce sl i : Nat} {x4 : Int32} (hI : lI_ G Gm o cJ s S D M f H) (hS : va_S (fun q : Nat => s.heap.size ≤ q) s.heap H locs) (hL : L ≤ 2560) (hi : i + 5 ≤ L) (ex4 : x4 = nI i) {ls : Array Slot} (hl : lv_has ls 7 [(0, .ref b), (1, .ref a0), (2, .ref (mO Gm)), (3, .ref o), (4, .int x4)]) {rm : Room} (hrm : rm.cells = 0 ∧ rm.slots = 0 ∧ rm.frames + 1 ≤ 12 ∧ rm.locals ≤ 400) (hop : lRes l G Gm S D z a0 o cJ f M yL_from wL_from yX7_from vX7_from rm [.ref a0, .int (xs (x4 + 1).toNatClampNeg), .ref o] [.ref (mO Gm), .int (xs (x4 + 1).toNatClampNeg)] (fun b => b.toInt64)) (hce : ce + 2 ≤ 601024) (hsl : sl + 21 ≤ 7293034)
    (kk : ∀ (S2 : CS) (D2 : CD) (M2 : MS) (f2 : Nat → Int64) (H1 : Heap) (locs1 : List Loc) (ls1 : Array Slot), jP_ S2 D2 z a0 M2 → lI_ G Gm o cJ s S2 D2 M2 f2 H1 → va_S (fun q : Nat => s.heap.size ≤ q) s.heap H1 locs1 → lv_has ls1 7 [(0, .ref b), (1, .ref a0), (2, .ref (mO Gm)), (3, .ref o), (4, .int x4)] → W p l e room_1 s m #[Value.ref b] below meth c H1 locs1 (ce + 2) (sl + 21) Q (F0 m 1296 ls1 [])) : W p l e room_1 s m #[Value.ref b] below meth c H locs ce sl Q (F0 m 768 ls []) := by
  obtain ⟨hx, hb, hr, hml, hown, hts, hX, hbl, hlocks, hgv⟩ := C0
  have hW : ∀ w ∈ WA, w.before #[Value.ref b] s = true := fun w h => hts w (tb_WA w h)
  have Fx : CallFix p m c code 7 s #[Value.ref b] WA RL := ⟨hx, hb, hml, hown, hW⟩
  have hbA : ¬ (fun q : Nat => s.heap.size ≤ q) b := Nat.not_le.mpr hbl
  obtain ⟨k, r9, P, M2, hWc, hM, h23, hP⟩ := hop
  refine lv_aload_n hx hb dlw_768 rfl (lv_at hl 1 rfl) ?_
  refine lv_aload_n hx hb dlw_769 rfl (lv_at hl 0 rfl) ?_
  refine lv_iload hx hb dlw_770 (lv_at hl 4 rfl) ?_
  refine lv_iconst (v := 1) hx hb dlw_772 (by decide) ?_
  refine lv_iadd hx hb dlw_773 ?_
  refine va_sld hx hb hX hbl hbA hS (l_in 1 ex4 (Nat.lt_of_lt_of_le (Nat.add_lt_add_left (by decide) i) hi) hL) dlw_774 ?_
  refine lv_aload_n hx hb dlw_775 rfl (lv_at hl 3 rfl) ?_
  refine l_wrap (av := [.ref a0, .int (xs (x4 + 1).toNatClampNeg), .ref o]) Fx hF hI hS hWc (fun S2 D2 v h => (hP _ S2 D2 v h).1) (vx_cwSW 3 hW (gSW wa_304 wa_305 wa_227 wa_181) rfl rfl rfl (by decide +kernel) ⟨Nat.le_of_ble_eq_true rfl, Nat.le_of_ble_eq_true rfl⟩) rfl hl.1 rfl (Nat.le_of_ble_eq_true rfl) ⟨hce, hsl⟩ dlw_776 (fun S2 D2 f2 H1 locs1 hPo hI hS => ?_)
  obtain ⟨hg9, hj9, hv9⟩ := hP _ _ _ _ hPo
  refine lv_istore (lv' := [(5, .int k), (0, .ref b), (1, .ref a0), (2, .ref (mO Gm)), (3, .ref o), (4, .int x4)]) hx hb dlw_779 hl (by decide) rfl (fun ls hl => ?_)
  refine lv_aload_n hx hb dlw_781 rfl (lv_at hl 3 rfl) ?_
  refine lv_aload_n hx hb dlw_782 rfl (lv_at hl 1 rfl) ?_
  refine lv_iload hx hb dlw_783 (lv_at hl 5 rfl) ?_
  refine lv_iconst (v := 1) hx hb dlw_785 (by decide) ?_
  refine lv_iadd hx hb dlw_786 ?_
  refine va_sld hx hb hX hbl hbA hS (l_in 1 ex4 (Nat.lt_of_lt_of_le (Nat.add_lt_add_left (by decide) i) hi) hL) dlw_787 ?_
  refine l_mod (As := [.int (xs (x4 + 1).toNatClampNeg)]) Fx hF hI hS hM (cwV 1 hW (gVW wa_306 wa_307 wa_308 (hWMA _ wm_7) (hWMA _ wm_189) hWMA) rfl hrm.1 hrm.2.1 (by decide +kernel) ⟨hrm.2.2.1, (Nat.le_trans (Nat.add_le_add_left hrm.2.2.2 _) (Nat.le_of_ble_eq_true rfl))⟩) rfl hl.1 rfl (Nat.le_of_ble_eq_true rfl) ⟨hce, hsl⟩ dlw_788 (fun H2 locs2 hI hS => ?_)
  refine lv_istore (lv' := [(6, .int r9), (5, .int k), (0, .ref b), (1, .ref a0), (2, .ref (mO Gm)), (3, .ref o), (4, .int x4)]) hx hb dlw_791 hl (by decide) rfl (fun ls hl => ?_)
  refine lv_aload_n hx hb dlw_793 rfl (lv_at hl 4 rfl) ?_
  refine l_mod (As := []) Fx hF hI hS (c_thrown l Gm 0 M2 (M2.1 23) rfl) (cwV 0 hW (gVW wa_231 wa_232 wa_233 (hWMA _ wm_7) (hWMA _ wm_0) hWMA) rfl rfl rfl (by decide +kernel) ⟨Nat.le_of_ble_eq_true rfl, Nat.le_of_ble_eq_true rfl⟩) rfl hl.1 rfl (Nat.le_of_ble_eq_true rfl) ⟨hce, hsl⟩ dlw_794 (fun H3 locs3 hI hS => ?_)
  refine lv_iload hx hb dlw_797 (lv_at hl 1 rfl) ?_
  refine lv_icmp_eq (tgt := 804) hx hb dlw_799 (by decide) (fun _ => ?_) (fun cq => absurd h23 cq)
  refine lv_iload hx hb dlw_804 (lv_at hl 1 rfl) ?_
  have fin : W p l e room_1 s m #[Value.ref b] below meth c H3 locs3 (ce + 2) (sl + 21) Q (F0 m 821 ls []) := by
    refine lv_goto (tgt := 1296) hx hb dlw_821 (by decide) ?_
    exact kk S2 D2 M2 f2 H3 locs3 ls hj9 hI hS (lv_sub hl [2, 3, 4, 5, 6] rfl)
  refine lv_if_ne (tgt := 821) hx hb dlw_806 (by decide) (fun _ => fin) (fun cn => ?_)
  have hk0 : k = 0 := cn
  refine lv_aload_n hx hb dlw_809 rfl (lv_at hl 5 rfl) ?_
  refine lv_iconst (v := 0) hx hb dlw_810 (by decide) ?_
  refine va_lald hx hb hF.2.2.2.1 hI.2.2.1 0 0 (n := 1) rfl rfl vp_in01 dlw_811 ?_
  refine lv_iload hx hb dlw_812 (lv_at hl 0 rfl) ?_
  refine lv_i2l (v := r9.toInt64) hx hb dlw_814 rfl ?_
  refine W.lcmp hx hb dlw_815 ?_
  refine lv_if_eq (tgt := 821) hx hb dlw_816 (by decide) (fun _ => fin) (fun cq => absurd ?_ cq)
  rw [show f2 ((0 : Int32).toNatClampNeg) = r9.toInt64 from (hv9 hk0)]
  exact lg_cmp_self _
set_option maxHeartbeats 2000000 in
theorem lc_to {p : Program} {l : Launch} {e : Env} {s : State} {m : MethodId} {below : List Frame} {meth : Method} {c : Code} {Q : State → Prop} {G : cG} {Gm : mG} {z : Nat × Nat} {a0 o b L : Nat} {cJ : ClassId} {xs : Nat → Int32} (C0 : lw_At p s m meth c b L xs) (hF : lF_ G Gm cJ z s) {S : CS} {D : CD} {M : MS} {f : Nat → Int64} {H : Heap} {locs : List Loc} {ce sl i : Nat} {x4 : Int32} (hI : lI_ G Gm o cJ s S D M f H) (hS : va_S (fun q : Nat => s.heap.size ≤ q) s.heap H locs) (hL : L ≤ 2560) (hi : i + 5 ≤ L) (ex4 : x4 = nI i) {ls : Array Slot} (hl : lv_has ls 7 [(0, .ref b), (1, .ref a0), (2, .ref (mO Gm)), (3, .ref o), (4, .int x4)]) {rm : Room} (hrm : rm.cells = 0 ∧ rm.slots = 0 ∧ rm.frames + 1 ≤ 12 ∧ rm.locals ≤ 400) (hop : lRes l G Gm S D z a0 o cJ f M yL_to wL_to yX7_to vX7_to rm [.ref a0, .int (xs (x4 + 1).toNatClampNeg), .ref o] [.ref (mO Gm), .int (xs (x4 + 1).toNatClampNeg)] (fun b => b.toInt64)) (hce : ce + 2 ≤ 601024) (hsl : sl + 21 ≤ 7293034)
    (kk : ∀ (S2 : CS) (D2 : CD) (M2 : MS) (f2 : Nat → Int64) (H1 : Heap) (locs1 : List Loc) (ls1 : Array Slot), jP_ S2 D2 z a0 M2 → lI_ G Gm o cJ s S2 D2 M2 f2 H1 → va_S (fun q : Nat => s.heap.size ≤ q) s.heap H1 locs1 → lv_has ls1 7 [(0, .ref b), (1, .ref a0), (2, .ref (mO Gm)), (3, .ref o), (4, .int x4)] → W p l e room_1 s m #[Value.ref b] below meth c H1 locs1 (ce + 2) (sl + 21) Q (F0 m 1296 ls1 [])) : W p l e room_1 s m #[Value.ref b] below meth c H locs ce sl Q (F0 m 824 ls []) := by
  obtain ⟨hx, hb, hr, hml, hown, hts, hX, hbl, hlocks, hgv⟩ := C0
  have hW : ∀ w ∈ WA, w.before #[Value.ref b] s = true := fun w h => hts w (tb_WA w h)
  have Fx : CallFix p m c code 7 s #[Value.ref b] WA RL := ⟨hx, hb, hml, hown, hW⟩
  have hbA : ¬ (fun q : Nat => s.heap.size ≤ q) b := Nat.not_le.mpr hbl
  obtain ⟨k, r9, P, M2, hWc, hM, h23, hP⟩ := hop
  refine lv_aload_n hx hb dlw_824 rfl (lv_at hl 1 rfl) ?_
  refine lv_aload_n hx hb dlw_825 rfl (lv_at hl 0 rfl) ?_
  refine lv_iload hx hb dlw_826 (lv_at hl 4 rfl) ?_
  refine lv_iconst (v := 1) hx hb dlw_828 (by decide) ?_
  refine lv_iadd hx hb dlw_829 ?_
  refine va_sld hx hb hX hbl hbA hS (l_in 1 ex4 (Nat.lt_of_lt_of_le (Nat.add_lt_add_left (by decide) i) hi) hL) dlw_830 ?_
  refine lv_aload_n hx hb dlw_831 rfl (lv_at hl 3 rfl) ?_
  refine l_wrap (av := [.ref a0, .int (xs (x4 + 1).toNatClampNeg), .ref o]) Fx hF hI hS hWc (fun S2 D2 v h => (hP _ S2 D2 v h).1) (vx_cwSW 3 hW (gSW wa_309 wa_310 wa_227 wa_185) rfl rfl rfl (by decide +kernel) ⟨Nat.le_of_ble_eq_true rfl, Nat.le_of_ble_eq_true rfl⟩) rfl hl.1 rfl (Nat.le_of_ble_eq_true rfl) ⟨hce, hsl⟩ dlw_832 (fun S2 D2 f2 H1 locs1 hPo hI hS => ?_)
  obtain ⟨hg9, hj9, hv9⟩ := hP _ _ _ _ hPo
  refine lv_istore (lv' := [(5, .int k), (0, .ref b), (1, .ref a0), (2, .ref (mO Gm)), (3, .ref o), (4, .int x4)]) hx hb dlw_835 hl (by decide) rfl (fun ls hl => ?_)
  refine lv_aload_n hx hb dlw_837 rfl (lv_at hl 3 rfl) ?_
  refine lv_aload_n hx hb dlw_838 rfl (lv_at hl 1 rfl) ?_
  refine lv_iload hx hb dlw_839 (lv_at hl 5 rfl) ?_
  refine lv_iconst (v := 1) hx hb dlw_841 (by decide) ?_
  refine lv_iadd hx hb dlw_842 ?_
  refine va_sld hx hb hX hbl hbA hS (l_in 1 ex4 (Nat.lt_of_lt_of_le (Nat.add_lt_add_left (by decide) i) hi) hL) dlw_843 ?_
  refine l_mod (As := [.int (xs (x4 + 1).toNatClampNeg)]) Fx hF hI hS hM (cwV 1 hW (gVW wa_311 wa_312 wa_313 (hWMA _ wm_7) (hWMA _ wm_190) hWMA) rfl hrm.1 hrm.2.1 (by decide +kernel) ⟨hrm.2.2.1, (Nat.le_trans (Nat.add_le_add_left hrm.2.2.2 _) (Nat.le_of_ble_eq_true rfl))⟩) rfl hl.1 rfl (Nat.le_of_ble_eq_true rfl) ⟨hce, hsl⟩ dlw_844 (fun H2 locs2 hI hS => ?_)
  refine lv_istore (lv' := [(6, .int r9), (5, .int k), (0, .ref b), (1, .ref a0), (2, .ref (mO Gm)), (3, .ref o), (4, .int x4)]) hx hb dlw_847 hl (by decide) rfl (fun ls hl => ?_)
  refine lv_aload_n hx hb dlw_849 rfl (lv_at hl 4 rfl) ?_
  refine l_mod (As := []) Fx hF hI hS (c_thrown l Gm 0 M2 (M2.1 23) rfl) (cwV 0 hW (gVW wa_231 wa_232 wa_233 (hWMA _ wm_7) (hWMA _ wm_0) hWMA) rfl rfl rfl (by decide +kernel) ⟨Nat.le_of_ble_eq_true rfl, Nat.le_of_ble_eq_true rfl⟩) rfl hl.1 rfl (Nat.le_of_ble_eq_true rfl) ⟨hce, hsl⟩ dlw_850 (fun H3 locs3 hI hS => ?_)
  refine lv_iload hx hb dlw_853 (lv_at hl 1 rfl) ?_
  refine lv_icmp_eq (tgt := 860) hx hb dlw_855 (by decide) (fun _ => ?_) (fun cq => absurd h23 cq)
  refine lv_iload hx hb dlw_860 (lv_at hl 1 rfl) ?_
  have fin : W p l e room_1 s m #[Value.ref b] below meth c H3 locs3 (ce + 2) (sl + 21) Q (F0 m 877 ls []) := by
    refine lv_goto (tgt := 1296) hx hb dlw_877 (by decide) ?_
    exact kk S2 D2 M2 f2 H3 locs3 ls hj9 hI hS (lv_sub hl [2, 3, 4, 5, 6] rfl)
  refine lv_if_ne (tgt := 877) hx hb dlw_862 (by decide) (fun _ => fin) (fun cn => ?_)
  have hk0 : k = 0 := cn
  refine lv_aload_n hx hb dlw_865 rfl (lv_at hl 5 rfl) ?_
  refine lv_iconst (v := 0) hx hb dlw_866 (by decide) ?_
  refine va_lald hx hb hF.2.2.2.1 hI.2.2.1 0 0 (n := 1) rfl rfl vp_in01 dlw_867 ?_
  refine lv_iload hx hb dlw_868 (lv_at hl 0 rfl) ?_
  refine lv_i2l (v := r9.toInt64) hx hb dlw_870 rfl ?_
  refine W.lcmp hx hb dlw_871 ?_
  refine lv_if_eq (tgt := 877) hx hb dlw_872 (by decide) (fun _ => fin) (fun cq => absurd ?_ cq)
  rw [show f2 ((0 : Int32).toNatClampNeg) = r9.toInt64 from (hv9 hk0)]
  exact lg_cmp_self _
set_option maxHeartbeats 2000000 in
theorem lc_leftOf {p : Program} {l : Launch} {e : Env} {s : State} {m : MethodId} {below : List Frame} {meth : Method} {c : Code} {Q : State → Prop} {G : cG} {Gm : mG} {z : Nat × Nat} {a0 o b L : Nat} {cJ : ClassId} {xs : Nat → Int32} (C0 : lw_At p s m meth c b L xs) (hF : lF_ G Gm cJ z s) {S : CS} {D : CD} {M : MS} {f : Nat → Int64} {H : Heap} {locs : List Loc} {ce sl i : Nat} {x4 : Int32} (hI : lI_ G Gm o cJ s S D M f H) (hS : va_S (fun q : Nat => s.heap.size ≤ q) s.heap H locs) (hL : L ≤ 2560) (hi : i + 5 ≤ L) (ex4 : x4 = nI i) {ls : Array Slot} (hl : lv_has ls 7 [(0, .ref b), (1, .ref a0), (2, .ref (mO Gm)), (3, .ref o), (4, .int x4)]) {rm : Room} (hrm : rm.cells = 0 ∧ rm.slots = 0 ∧ rm.frames + 1 ≤ 12 ∧ rm.locals ≤ 400) (hop : lRes l G Gm S D z a0 o cJ f M yL_leftOf wL_leftOf yX7_leftOf vX7_leftOf rm [.ref a0, .int (xs (x4 + 1).toNatClampNeg), .ref o] [.ref (mO Gm), .int (xs (x4 + 1).toNatClampNeg)] (fun b => b.toInt64)) (hce : ce + 2 ≤ 601024) (hsl : sl + 21 ≤ 7293034)
    (kk : ∀ (S2 : CS) (D2 : CD) (M2 : MS) (f2 : Nat → Int64) (H1 : Heap) (locs1 : List Loc) (ls1 : Array Slot), jP_ S2 D2 z a0 M2 → lI_ G Gm o cJ s S2 D2 M2 f2 H1 → va_S (fun q : Nat => s.heap.size ≤ q) s.heap H1 locs1 → lv_has ls1 7 [(0, .ref b), (1, .ref a0), (2, .ref (mO Gm)), (3, .ref o), (4, .int x4)] → W p l e room_1 s m #[Value.ref b] below meth c H1 locs1 (ce + 2) (sl + 21) Q (F0 m 1296 ls1 [])) : W p l e room_1 s m #[Value.ref b] below meth c H locs ce sl Q (F0 m 880 ls []) := by
  obtain ⟨hx, hb, hr, hml, hown, hts, hX, hbl, hlocks, hgv⟩ := C0
  have hW : ∀ w ∈ WA, w.before #[Value.ref b] s = true := fun w h => hts w (tb_WA w h)
  have Fx : CallFix p m c code 7 s #[Value.ref b] WA RL := ⟨hx, hb, hml, hown, hW⟩
  have hbA : ¬ (fun q : Nat => s.heap.size ≤ q) b := Nat.not_le.mpr hbl
  obtain ⟨k, r9, P, M2, hWc, hM, h23, hP⟩ := hop
  refine lv_aload_n hx hb dlw_880 rfl (lv_at hl 1 rfl) ?_
  refine lv_aload_n hx hb dlw_881 rfl (lv_at hl 0 rfl) ?_
  refine lv_iload hx hb dlw_882 (lv_at hl 4 rfl) ?_
  refine lv_iconst (v := 1) hx hb dlw_884 (by decide) ?_
  refine lv_iadd hx hb dlw_885 ?_
  refine va_sld hx hb hX hbl hbA hS (l_in 1 ex4 (Nat.lt_of_lt_of_le (Nat.add_lt_add_left (by decide) i) hi) hL) dlw_886 ?_
  refine lv_aload_n hx hb dlw_887 rfl (lv_at hl 3 rfl) ?_
  refine l_wrap (av := [.ref a0, .int (xs (x4 + 1).toNatClampNeg), .ref o]) Fx hF hI hS hWc (fun S2 D2 v h => (hP _ S2 D2 v h).1) (vx_cwSW 3 hW (gSW wa_314 wa_315 wa_227 wa_189) rfl rfl rfl (by decide +kernel) ⟨Nat.le_of_ble_eq_true rfl, Nat.le_of_ble_eq_true rfl⟩) rfl hl.1 rfl (Nat.le_of_ble_eq_true rfl) ⟨hce, hsl⟩ dlw_888 (fun S2 D2 f2 H1 locs1 hPo hI hS => ?_)
  obtain ⟨hg9, hj9, hv9⟩ := hP _ _ _ _ hPo
  refine lv_istore (lv' := [(5, .int k), (0, .ref b), (1, .ref a0), (2, .ref (mO Gm)), (3, .ref o), (4, .int x4)]) hx hb dlw_891 hl (by decide) rfl (fun ls hl => ?_)
  refine lv_aload_n hx hb dlw_893 rfl (lv_at hl 3 rfl) ?_
  refine lv_aload_n hx hb dlw_894 rfl (lv_at hl 1 rfl) ?_
  refine lv_iload hx hb dlw_895 (lv_at hl 5 rfl) ?_
  refine lv_iconst (v := 1) hx hb dlw_897 (by decide) ?_
  refine lv_iadd hx hb dlw_898 ?_
  refine va_sld hx hb hX hbl hbA hS (l_in 1 ex4 (Nat.lt_of_lt_of_le (Nat.add_lt_add_left (by decide) i) hi) hL) dlw_899 ?_
  refine l_mod (As := [.int (xs (x4 + 1).toNatClampNeg)]) Fx hF hI hS hM (cwV 1 hW (gVW wa_316 wa_317 wa_318 (hWMA _ wm_7) (hWMA _ wm_191) hWMA) rfl hrm.1 hrm.2.1 (by decide +kernel) ⟨hrm.2.2.1, (Nat.le_trans (Nat.add_le_add_left hrm.2.2.2 _) (Nat.le_of_ble_eq_true rfl))⟩) rfl hl.1 rfl (Nat.le_of_ble_eq_true rfl) ⟨hce, hsl⟩ dlw_900 (fun H2 locs2 hI hS => ?_)
  refine lv_istore (lv' := [(6, .int r9), (5, .int k), (0, .ref b), (1, .ref a0), (2, .ref (mO Gm)), (3, .ref o), (4, .int x4)]) hx hb dlw_903 hl (by decide) rfl (fun ls hl => ?_)
  refine lv_aload_n hx hb dlw_905 rfl (lv_at hl 4 rfl) ?_
  refine l_mod (As := []) Fx hF hI hS (c_thrown l Gm 0 M2 (M2.1 23) rfl) (cwV 0 hW (gVW wa_231 wa_232 wa_233 (hWMA _ wm_7) (hWMA _ wm_0) hWMA) rfl rfl rfl (by decide +kernel) ⟨Nat.le_of_ble_eq_true rfl, Nat.le_of_ble_eq_true rfl⟩) rfl hl.1 rfl (Nat.le_of_ble_eq_true rfl) ⟨hce, hsl⟩ dlw_906 (fun H3 locs3 hI hS => ?_)
  refine lv_iload hx hb dlw_909 (lv_at hl 1 rfl) ?_
  refine lv_icmp_eq (tgt := 916) hx hb dlw_911 (by decide) (fun _ => ?_) (fun cq => absurd h23 cq)
  refine lv_iload hx hb dlw_916 (lv_at hl 1 rfl) ?_
  have fin : W p l e room_1 s m #[Value.ref b] below meth c H3 locs3 (ce + 2) (sl + 21) Q (F0 m 933 ls []) := by
    refine lv_goto (tgt := 1296) hx hb dlw_933 (by decide) ?_
    exact kk S2 D2 M2 f2 H3 locs3 ls hj9 hI hS (lv_sub hl [2, 3, 4, 5, 6] rfl)
  refine lv_if_ne (tgt := 933) hx hb dlw_918 (by decide) (fun _ => fin) (fun cn => ?_)
  have hk0 : k = 0 := cn
  refine lv_aload_n hx hb dlw_921 rfl (lv_at hl 5 rfl) ?_
  refine lv_iconst (v := 0) hx hb dlw_922 (by decide) ?_
  refine va_lald hx hb hF.2.2.2.1 hI.2.2.1 0 0 (n := 1) rfl rfl vp_in01 dlw_923 ?_
  refine lv_iload hx hb dlw_924 (lv_at hl 0 rfl) ?_
  refine lv_i2l (v := r9.toInt64) hx hb dlw_926 rfl ?_
  refine W.lcmp hx hb dlw_927 ?_
  refine lv_if_eq (tgt := 933) hx hb dlw_928 (by decide) (fun _ => fin) (fun cq => absurd ?_ cq)
  rw [show f2 ((0 : Int32).toNatClampNeg) = r9.toInt64 from (hv9 hk0)]
  exact lg_cmp_self _
