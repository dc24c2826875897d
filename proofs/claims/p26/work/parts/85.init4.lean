/-! constructor of Vertices: a row of 90 points -/
def pSt (S : CS) (b : Nat) : Nat → CS
  | 0 => S
  | i + 1 => sAdd (pSt S b i) (b + i) 2 0
def pPt (D : CD) (pa q i : Nat) : CD := cpR (dPt (dNew D q) q) pa (va_up ((dPt (dNew D q) q).2.2.2 pa) i (some q))
def pDt (D : CD) (pa b : Nat) : Nat → CD
  | 0 => D
  | i + 1 => pPt (pDt D pa b i) pa (b + i) i
theorem pSt_L (S : CS) (b i : Nat) : (pSt S b i).1 = S.1 ++ (List.range i).map (b + ·) := by
  induction i with
  | zero => simp [pSt]
  | succ i ih =>
    show (pSt S b i).1 ++ [b + i] = _
    rw [ih, List.range_succ, List.map_append, List.append_assoc]
    rfl
theorem pSt_mem {S : CS} {b i q : Nat} (h : q ∈ S.1) : q ∈ (pSt S b i).1 := by rw [pSt_L]; exact List.mem_append_left _ h
theorem pSt_old (S : CS) (b i x : Nat) (h : x < b) : (pSt S b i).2.1 x = S.2.1 x ∧ (pSt S b i).2.2.1 x = S.2.2.1 x ∧ (pSt S b i).2.2.2 x = S.2.2.2 x := by
  induction i with
  | zero => exact ⟨rfl, rfl, rfl⟩
  | succ i ih => exact ⟨(va_up_ne _ _ (by omega)).trans ih.1, (va_up_ne _ _ (by omega)).trans ih.2.1, (va_up_ne _ _ (by omega)).trans ih.2.2⟩
theorem pSt_new (S : CS) (b i j : Nat) (h : j < i) : (pSt S b i).2.1 (b + j) = 2 := by
  induction i with
  | zero => omega
  | succ i ih =>
    by_cases e : j = i
    · subst e; exact va_up_self _ _ _
    · exact (va_up_ne _ _ (by omega)).trans (ih (by omega))
theorem dPt_4 (D : CD) (a : Nat) : (dPt D a).2.2 = D.2.2 := rfl
theorem dPt_x (D : CD) (a x : Nat) (h : x ≠ a) : (dPt D a).1 x = D.1 x ∧ (dPt D a).2.1 x = D.2.1 x := ⟨rfl, by simp [dPt, cpG, va_up, h]⟩
theorem dNew_x (D : CD) (a x : Nat) (h : x ≠ a) : (dNew D a).1 x = D.1 x ∧ (dNew D a).2.1 x = D.2.1 x ∧ (dNew D a).2.2.1 x = D.2.2.1 x ∧ (dNew D a).2.2.2 x = D.2.2.2 x := ⟨va_up_ne _ _ h, va_up_ne _ _ h, va_up_ne _ _ h, va_up_ne _ _ h⟩
theorem pPt_x (D : CD) (pa q i x : Nat) (h : x ≠ q) (h2 : x ≠ pa) : (pPt D pa q i).1 x = D.1 x ∧ (pPt D pa q i).2.1 x = D.2.1 x ∧ (pPt D pa q i).2.2.1 x = D.2.2.1 x ∧ (pPt D pa q i).2.2.2 x = D.2.2.2 x := by
  obtain ⟨a1, a2, a3, a4⟩ := dNew_x D q x h
  obtain ⟨b1, b2⟩ := dPt_x (dNew D q) q x h
  exact ⟨b1.trans a1, b2.trans a2, a3, (va_up_ne _ _ h2).trans a4⟩
theorem pDt_x (D : CD) (pa b i x : Nat) (h : x < b) (h2 : x ≠ pa) : (pDt D pa b i).1 x = D.1 x ∧ (pDt D pa b i).2.1 x = D.2.1 x ∧ (pDt D pa b i).2.2.1 x = D.2.2.1 x ∧ (pDt D pa b i).2.2.2 x = D.2.2.2 x := by
  induction i with
  | zero => exact ⟨rfl, rfl, rfl, rfl⟩
  | succ i ih =>
    obtain ⟨a1, a2, a3, a4⟩ := pPt_x (pDt D pa b i) pa (b + i) i x (by omega) h2
    exact ⟨a1.trans ih.1, a2.trans ih.2.1, a3.trans ih.2.2.1, a4.trans ih.2.2.2⟩
theorem pDt_p (D : CD) (pa b i j : Nat) (hb : pa < b) (h : j < i) : (pDt D pa b i).2.2.2 pa j = some (b + j) := by
  induction i with
  | zero => omega
  | succ i ih =>
    have e0 : (pDt D pa b (i + 1)).2.2.2 pa = va_up ((pDt D pa b i).2.2.2 pa) i (some (b + i)) := by
      show va_up _ pa _ pa = _
      rw [va_up_self]
      show va_up ((dNew (pDt D pa b i) (b + i)).2.2.2 pa) i _ = _
      rw [(dNew_x _ _ _ (by omega)).2.2.2]
    rw [e0]
    by_cases e : j = i
    · subst e; exact va_up_self _ _ _
    · exact (va_up_ne _ _ e).trans (ih (by omega))
theorem dX5_init_0 : decode cX5_init 0 = .ok (.aload_n 0, 1) := by decide +kernel
theorem dX5_init_1 : decode cX5_init 1 = .ok (.invokespecial 3, 3) := by decide +kernel
theorem dX5_init_4 : decode cX5_init 4 = .ok (.aload_n 0, 1) := by decide +kernel
theorem dX5_init_5 : decode cX5_init 5 = .ok (.bipush 90, 2) := by decide +kernel
theorem dX5_init_7 : decode cX5_init 7 = .ok (.anewarray 9, 3) := by decide +kernel
theorem dX5_init_10 : decode cX5_init 10 = .ok (.putfield 11, 3) := by decide +kernel
theorem dX5_init_13 : decode cX5_init 13 = .ok (.iconst 0, 1) := by decide +kernel
theorem dX5_init_14 : decode cX5_init 14 = .ok (.istore_n 1, 1) := by decide +kernel
theorem dX5_init_15 : decode cX5_init 15 = .ok (.iload_n 1, 1) := by decide +kernel
theorem dX5_init_16 : decode cX5_init 16 = .ok (.aload_n 0, 1) := by decide +kernel
theorem dX5_init_17 : decode cX5_init 17 = .ok (.getfield 11, 3) := by decide +kernel
theorem dX5_init_20 : decode cX5_init 20 = .ok (.arraylength, 1) := by decide +kernel
theorem dX5_init_21 : decode cX5_init 21 = .ok (.if_icmp .ge 22, 3) := by decide +kernel
theorem dX5_init_24 : decode cX5_init 24 = .ok (.aload_n 0, 1) := by decide +kernel
theorem dX5_init_25 : decode cX5_init 25 = .ok (.getfield 11, 3) := by decide +kernel
theorem dX5_init_28 : decode cX5_init 28 = .ok (.iload_n 1, 1) := by decide +kernel
theorem dX5_init_29 : decode cX5_init 29 = .ok (.new 9, 3) := by decide +kernel
theorem dX5_init_32 : decode cX5_init 32 = .ok (.dup, 1) := by decide +kernel
theorem dX5_init_33 : decode cX5_init 33 = .ok (.invokespecial 17, 3) := by decide +kernel
theorem dX5_init_36 : decode cX5_init 36 = .ok (.aastore, 1) := by decide +kernel
theorem dX5_init_37 : decode cX5_init 37 = .ok (.iinc 1 1, 3) := by decide +kernel
theorem dX5_init_40 : decode cX5_init 40 = .ok (.goto (-25), 3) := by decide +kernel
theorem dX5_init_43 : decode cX5_init 43 = .ok (.aload_n 0, 1) := by decide +kernel
theorem dX5_init_44 : decode cX5_init 44 = .ok (.new 9, 3) := by decide +kernel
theorem dX5_init_47 : decode cX5_init 47 = .ok (.dup, 1) := by decide +kernel
theorem dX5_init_48 : decode cX5_init 48 = .ok (.invokespecial 17, 3) := by decide +kernel
theorem dX5_init_51 : decode cX5_init 51 = .ok (.putfield 18, 3) := by decide +kernel
theorem dX5_init_54 : decode cX5_init 54 = .ok (.aload_n 0, 1) := by decide +kernel
theorem dX5_init_55 : decode cX5_init 55 = .ok (.new 22, 3) := by decide +kernel
theorem dX5_init_58 : decode cX5_init 58 = .ok (.dup, 1) := by decide +kernel
theorem dX5_init_59 : decode cX5_init 59 = .ok (.bipush 90, 2) := by decide +kernel
theorem dX5_init_61 : decode cX5_init 61 = .ok (.invokespecial 24, 3) := by decide +kernel
theorem dX5_init_64 : decode cX5_init 64 = .ok (.putfield 27, 3) := by decide +kernel
theorem dX5_init_67 : decode cX5_init 67 = .ok (.aload_n 0, 1) := by decide +kernel
theorem dX5_init_68 : decode cX5_init 68 = .ok (.new 22, 3) := by decide +kernel
theorem dX5_init_71 : decode cX5_init 71 = .ok (.dup, 1) := by decide +kernel
theorem dX5_init_72 : decode cX5_init 72 = .ok (.bipush 90, 2) := by decide +kernel
theorem dX5_init_74 : decode cX5_init 74 = .ok (.invokespecial 24, 3) := by decide +kernel
theorem dX5_init_77 : decode cX5_init 77 = .ok (.putfield 31, 3) := by decide +kernel
theorem dX5_init_80 : decode cX5_init 80 = .ok (.aload_n 0, 1) := by decide +kernel
theorem dX5_init_81 : decode cX5_init 81 = .ok (.new 22, 3) := by decide +kernel
theorem dX5_init_84 : decode cX5_init 84 = .ok (.dup, 1) := by decide +kernel
theorem dX5_init_85 : decode cX5_init 85 = .ok (.bipush 90, 2) := by decide +kernel
theorem dX5_init_87 : decode cX5_init 87 = .ok (.invokespecial 24, 3) := by decide +kernel
theorem dX5_init_90 : decode cX5_init 90 = .ok (.putfield 34, 3) := by decide +kernel
theorem dX5_init_93 : decode cX5_init 93 = .ok (.aload_n 0, 1) := by decide +kernel
theorem dX5_init_94 : decode cX5_init 94 = .ok (.new 22, 3) := by decide +kernel
theorem dX5_init_97 : decode cX5_init 97 = .ok (.dup, 1) := by decide +kernel
theorem dX5_init_98 : decode cX5_init 98 = .ok (.bipush 90, 2) := by decide +kernel
theorem dX5_init_100 : decode cX5_init 100 = .ok (.invokespecial 24, 3) := by decide +kernel
theorem dX5_init_103 : decode cX5_init 103 = .ok (.putfield 37, 3) := by decide +kernel
theorem dX5_init_106 : decode cX5_init 106 = .ok (.aload_n 0, 1) := by decide +kernel
theorem dX5_init_107 : decode cX5_init 107 = .ok (.iconst 0, 1) := by decide +kernel
theorem dX5_init_108 : decode cX5_init 108 = .ok (.putfield 40, 3) := by decide +kernel
theorem dX5_init_111 : decode cX5_init 111 = .ok (.return_, 1) := by decide +kernel
def wX5_init : List Cond := Cond.code yX5_init cX5_init 2 none :: WA
def rX5_a (S : CS) (a0 sz : Nat) : CS := sRef (sAdd S sz 9 90) a0 0 sz
def rX5_b (N : Nat) (S : CS) (a0 sz : Nat) : CS := sRef (sAdd (pSt (rX5_a S a0 sz) (sz + 1) N) (sz + 91) 2 0) a0 1 (sz + 91)
def rX5_init (N : Nat) (S : CS) (a0 sz : Nat) : CS := sRef (nRow (sRef (nRow (sRef (nRow (sRef (nRow (rX5_b N S a0 sz) (sz + 92) 90) a0 2 (sz + 92)) (sz + 94) 90) a0 3 (sz + 94)) (sz + 96) 90) a0 4 (sz + 96)) (sz + 98) 90) a0 5 (sz + 98)
def qX5_b (N : Nat) (D : CD) (sz : Nat) : CD := dPt (dNew (pDt (dNew D sz) sz (sz + 1) N) (sz + 91)) (sz + 91)
def qX5_init (N : Nat) (D : CD) (a0 sz : Nat) : CD := cpF (dNew (dNew (dNew (dNew (dNew (dNew (dNew (dNew (qX5_b N D sz) (sz + 92)) (sz + 93)) (sz + 94)) (sz + 95)) (sz + 96)) (sz + 97)) (sz + 98)) (sz + 99)) a0 6 0
theorem rX5_L (N : Nat) (S : CS) (a0 sz : Nat) : (rX5_init N S a0 sz).1 = (S.1 ++ [sz] ++ (List.range N).map (sz + 1 + ·)) ++ [sz + 91, sz + 92, sz + 93, sz + 94, sz + 95, sz + 96, sz + 97, sz + 98, sz + 99] := by
  simp only [rX5_init, rX5_b, nRow, sRef, sAdd, pSt_L, rX5_a, List.append_assoc, List.cons_append, List.nil_append]
theorem rX5_mem {N : Nat} {S : CS} {a0 sz q : Nat} (h : q ∈ (rX5_init N S a0 sz).1) : q ∈ S.1 ∨ sz ≤ q := by
  rw [rX5_L] at h
  simp only [List.mem_append, List.mem_map, List.mem_cons, List.not_mem_nil, or_false] at h
  rcases h with ((h | h) | ⟨j, -, h⟩) | h
  · exact Or.inl h
  · exact Or.inr (by omega)
  · exact Or.inr (by omega)
  · exact Or.inr (by omega)
set_option maxRecDepth 100000 in
set_option maxHeartbeats 4000000 in
theorem i_X5 (N : Nat) (hN : N = 90) (l : Launch) (G : cG) (S : CS) (z : Nat × Nat) (D : CD) (a0 : Nat) (hm0 : a0 ∈ S.1) (hk0 : S.2.1 a0 = 5) : cMKz l yX5_init wX5_init ({ frames := 2, cells := 100, slots := 818, locals := 50 }) G S z [.ref a0] D 100 100 818 (fun sz S2 D2 => S2 = rX5_init N S a0 sz ∧ D2 = qX5_init N D a0 sz) := by
  refine cBodyKz (cc := cX5_init) (maxL := 2) (ret := none) (own := RX5) (by decide) rfl rfl ?_
  intro sz p e s m below meth c hC hP hZ hname
  have hC0 := hC
  obtain ⟨hx, hb, -, hts, hown, -, hml, -, -, hz, -⟩ := hC0
  have hS : va_S (cA G S sz) s.heap s.heap [] := va_S.rf
  have hlt : a0 < sz := by rw [← hz]; exact cW_lt hP hm0
  have hin_X2 : ∀ w ∈ wsX20, w ∈ wX5_init := fun w h => List.mem_cons_of_mem _ (hWCA _ (hWC2 w h))
  have hin_X3 : ∀ w ∈ wsX30, w ∈ wX5_init := fun w h => List.mem_cons_of_mem _ (hWCA _ (hWC3 w h))
  have hin_X5 : ∀ w ∈ wsX50, w ∈ wX5_init := fun w h => List.mem_cons_of_mem _ (hWCA _ (hWC5 w h))
  have hS0m : ∀ i, a0 ∈ (pSt (rX5_a S a0 sz) (sz + 1) i).1 := fun i => pSt_mem (List.mem_append_left _ hm0)
  have hS0k : ∀ i, (pSt (rX5_a S a0 sz) (sz + 1) i).2.1 a0 = 5 := fun i => (pSt_old _ _ i a0 (by omega)).1.trans ((va_up_ne _ _ (by omega)).trans hk0)
  have hS0r : ∀ i, (pSt (rX5_a S a0 sz) (sz + 1) i).2.2.1 a0 0 = some sz := fun i => by rw [(pSt_old _ _ i a0 (by omega)).2.1]; show va_up (sAdd S sz 9 90).2.2.1 a0 (va_up ((sAdd S sz 9 90).2.2.1 a0) 0 (some sz)) a0 0 = some sz; rw [va_up_self, va_up_self]
  have hSzm : ∀ i, sz ∈ (pSt (rX5_a S a0 sz) (sz + 1) i).1 := fun i => pSt_mem (List.mem_append_right _ (List.mem_singleton.mpr rfl))
  have hSzk : ∀ i, (pSt (rX5_a S a0 sz) (sz + 1) i).2.1 sz = 9 := fun i => (pSt_old _ _ i sz (by omega)).1.trans (va_up_self _ _ _)
  have hSzl : ∀ i, (pSt (rX5_a S a0 sz) (sz + 1) i).2.2.2 sz = 90 := fun i => (pSt_old _ _ i sz (by omega)).2.2.trans (va_up_self _ _ _)
  have LP : ∀ (k i : Nat), i + k = 90 → ∀ (H : Heap) (locs : List Loc) (ls : Array Slot), va_P G.1 vwCl (cW G (pSt (rX5_a S a0 sz) (sz + 1) i) (pDt (dNew D sz) sz (sz + 1) i)) H → H.size = sz + 1 + i → va_S (cA G (pSt (rX5_a S a0 sz) (sz + 1) i) sz) s.heap H locs → cC RX5 p s m ([.ref a0] : List Value).toArray meth c wX5_init cX5_init 2 none G (pSt (rX5_a S a0 sz) (sz + 1) i) sz → lv_has ls 2 [(1, .int (nI i)), (0, .ref a0)] → W p l e (headSpec wX5_init ({ frames := 2, cells := 100, slots := 818, locals := 50 })).room s m ([.ref a0] : List Value).toArray below meth c H locs (1 + i) (90 + 4 * i) (MQ below (va_Qv (fun (u : CS × CD) => (fun sz S2 D2 => S2 = rX5_init N S a0 sz ∧ D2 = qX5_init N D a0 sz) sz u.1 u.2 ∧ cGr G S u.1 sz) (fun u t => cIs G u.1 u.2 t ∧ t.heap.size = sz + 100) (cA G S sz)) ([.ref a0] : List Value).toArray s 100 818 (cA G S sz)) (F0 m 15 ls []) := by
    intro k
    induction k with
    | zero =>
      intro i hi H locs ls hP hz hS hC hl
      have hiN : N = i := by omega
      subst hiN
      have hm1 := hS0m N
      have hk1 := hS0k N
      have hr1 := hS0r N
      refine lv_iload_n hx hb dX5_init_15 rfl (lv_at hl 0 rfl) ?_
      refine lv_aload_n hx hb dX5_init_16 rfl (lv_at hl 1 rfl) ?_
      refine n_get (C := RX5) (T := TX5) (N := 7) (ref := "SegmentMap$Vertices") (ci := 6) (v := .ref sz) hC hin_X5 hP hm1 (cE_5 hk1) rfl 0 (by decide) (hts _ (List.mem_cons_of_mem _ (hWCA _ wc_83))) rfl (by show some (va_rf _) = _; rw [hr1]; rfl) dX5_init_17 ?_
      refine n_alen hC hP (hSzm N) (by rw [hSzk N]; decide) (by rw [hSzk N]; decide) dX5_init_20 ?_
      rw [hSzl N]
      refine lv_icmp_ge (tgt := 43) hx hb dX5_init_21 (by decide) (fun _ => ?_) (fun u => absurd ((nI_leI (a := 90) (b := N) (by omega) (by omega)).mpr (by omega)) u)
      rw [show 1 + N = 91 from by omega, show 90 + 4 * N = 450 from by omega]
      obtain ⟨S1, eS1⟩ : ∃ x, x = pSt (rX5_a S a0 sz) (sz + 1) N := ⟨_, rfl⟩
      rw [← eS1] at hP hS hC
      obtain ⟨D2, eD2⟩ : ∃ x, x = pDt (dNew D sz) sz (sz + 1) N := ⟨_, rfl⟩
      rw [← eD2] at hP
      have hm0 : a0 ∈ S1.1 := by rw [eS1]; exact hS0m N
      have hk0 : S1.2.1 a0 = 5 := by rw [eS1]; exact hS0k N
      have hz : H.size = (sz + 91) := by omega
      refine lv_aload_n hx hb dX5_init_43 rfl (lv_at hl 1 rfl) ?_
      refine n_obj (C := RX2) (T := TX2) (N := 4) (ci := 3) (kd := 2) (h := (sz + 91)) hC hP hS hz hin_X2 tyX2 tyX2_ok (hts _ (List.mem_cons_of_mem _ wa_22)) (hts _ (List.mem_cons_of_mem _ wa_23)) (hts _ (List.mem_cons_of_mem _ (hWCA _ wc_131))) rfl (cnew_2 G _ _ _) cdef_2 (Nat.le_of_ble_eq_true rfl) (Nat.le_of_ble_eq_true rfl) dX5_init_44 (fun H hP hz hS hC => ?_)
      obtain ⟨S3, eS3⟩ : ∃ x, x = sAdd S1 (sz + 91) 2 0 := ⟨_, rfl⟩
      rw [← eS3] at hP hS hC
      obtain ⟨D4, eD4⟩ : ∃ x, x = dNew D2 (sz + 91) := ⟨_, rfl⟩
      rw [← eD4] at hP
      have hm0 : a0 ∈ S3.1 := by rw [eS3]; exact List.mem_append_left _ hm0
      have hk0 : S3.2.1 a0 = 5 := by rw [eS3]; exact (va_up_ne _ _ (Nat.ne_of_lt (Nat.lt_of_lt_of_le hlt (Nat.le_add_right _ _)))).trans hk0
      have hz : H.size = (sz + 92) := hz
      refine lv_dup hx hb dX5_init_47 rfl ?_
      refine n_initN (As := []) (rest := [.ref ((sz + 91)), .ref a0]) (h := (sz + 92)) hC hP hS hz (i_X2 l G _ _ ((sz + 91)) (by first | (rw [eS3]; exact List.mem_append_right _ (List.mem_singleton.mpr rfl))) (by first | (rw [eS3]; exact va_up_self _ _ _))) ⟨va_cnB 0 hts (gIA wa_16 (fun w h => h)) rfl rfl rfl hZ.2.2.2.2.2.2.2.1 (hts _ (List.mem_cons_of_mem _ (hWCA _ wc_131))) (by decide +kernel) ⟨Nat.le_of_ble_eq_true rfl, Nat.le_of_ble_eq_true rfl⟩, rfl, hts _ (List.mem_cons_of_mem _ wa_25)⟩ rfl hl.1 rfl (Nat.le_of_ble_eq_true rfl) ⟨Nat.le_of_ble_eq_true rfl, Nat.le_of_ble_eq_true rfl⟩ dX5_init_48 (fun S2 D2 H locs hRl hGr hP hz hS hC => ?_)
      have hz : H.size = (sz + 92) := hz
      have hS2 := hRl.1
      have hD2 := hRl.2
      rw [hS2] at hP hS hC
      obtain ⟨D5, eD5⟩ : ∃ x, x = D2 := ⟨_, rfl⟩
      rw [← eD5] at hP hD2
      have eD5 := hD2
      refine n_put (C := RX5) (T := TX5) (N := 7) (ref := "SegmentMap$Vertices") (ci := 6) (S2 := sRef S3 a0 1 ((sz + 91))) (D2 := D5) hC hin_X5 tyX5 tyX5_ok nmX5 hP hS hz hm0 (cE_5 hk0) rfl 1 (by decide) (hts _ (List.mem_cons_of_mem _ (hWCA _ wc_84))) rfl (Or.inr ⟨rfl, hname, rfl⟩) (ty := (.object "SegmentMap$Point")) (by decide +kernel) rfl rfl (Nat.le_of_ble_eq_true rfl) rfl (csi_5_1 G hk0 _) (cne_R G) dX5_init_51 (fun H locs hP hz hS hC => ?_)
      obtain ⟨S6, eS6⟩ : ∃ x, x = sRef S3 a0 1 ((sz + 91)) := ⟨_, rfl⟩
      rw [← eS6] at hP hS hC
      have hm0 : a0 ∈ S6.1 := by rw [eS6]; exact hm0
      have hk0 : S6.2.1 a0 = 5 := by rw [eS6]; exact hk0
      refine lv_aload_n hx hb dX5_init_54 rfl (lv_at hl 1 rfl) ?_
      refine n_obj (C := RX3) (T := TX3) (N := 1) (ci := 4) (kd := 3) (h := (sz + 92)) hC hP hS hz hin_X3 tyX3 tyX3_ok (hts _ (List.mem_cons_of_mem _ wa_24)) (hts _ (List.mem_cons_of_mem _ wa_8)) (hts _ (List.mem_cons_of_mem _ (hWCA _ wc_102))) rfl (cnew_3 G _ _ _) cdef_3 (Nat.le_of_ble_eq_true rfl) (Nat.le_of_ble_eq_true rfl) dX5_init_55 (fun H hP hz hS hC => ?_)
      obtain ⟨S7, eS7⟩ : ∃ x, x = sAdd S6 (sz + 92) 3 0 := ⟨_, rfl⟩
      rw [← eS7] at hP hS hC
      obtain ⟨D8, eD8⟩ : ∃ x, x = dNew D5 (sz + 92) := ⟨_, rfl⟩
      rw [← eD8] at hP
      have hm0 : a0 ∈ S7.1 := by rw [eS7]; exact List.mem_append_left _ hm0
      have hk0 : S7.2.1 a0 = 5 := by rw [eS7]; exact (va_up_ne _ _ (Nat.ne_of_lt (Nat.lt_of_lt_of_le hlt (Nat.le_add_right _ _)))).trans hk0
      have hz : H.size = (sz + 93) := hz
      refine lv_dup hx hb dX5_init_58 rfl ?_
      refine lv_bipush (v := 90) hx hb dX5_init_59 (by decide) ?_
      refine n_init (As := [.int 90]) (rest := [.ref ((sz + 92)), .ref a0]) (h := (sz + 93)) hC hP hS hz (i_X3 l G _ _ ((sz + 92)) (by rw [eS7]; exact List.mem_append_right _ (List.mem_singleton.mpr rfl)) (by rw [eS7]; exact va_up_self _ _ _) (n := 90) (N := 90) (by decide) (by decide) (Nat.le_of_ble_eq_true rfl)) (cwI 1 hts (gIA wa_0 (fun w h => h)) rfl rfl rfl (hts _ (List.mem_cons_of_mem _ (hWCA _ wc_102))) (hts _ (List.mem_cons_of_mem _ wa_26)) (hts _ (List.mem_cons_of_mem _ wa_11)) rfl (by decide +kernel) ⟨Nat.le_of_ble_eq_true rfl, Nat.le_of_ble_eq_true rfl⟩) rfl hl.1 rfl (Nat.le_of_ble_eq_true rfl) ⟨Nat.le_of_ble_eq_true rfl, Nat.le_of_ble_eq_true rfl⟩ dX5_init_61 (fun S2 D2 H locs hRl hGr hP hz hS hC => ?_)
      have hz : H.size = (sz + 94) := hz
      obtain ⟨hS2, hD2⟩ := hRl
      obtain ⟨S9, eS9⟩ : ∃ x, x = S2 := ⟨_, rfl⟩
      rw [← eS9] at hP hS hC hS2
      have eS9 := hS2
      obtain ⟨D10, eD10⟩ : ∃ x, x = D2 := ⟨_, rfl⟩
      rw [← eD10] at hP hD2
      have eD10 := hD2
      have hm0 : a0 ∈ S9.1 := by rw [eS9]; exact List.mem_append_left _ hm0
      have hk0 : S9.2.1 a0 = 5 := by rw [eS9]; exact (va_up_ne _ _ (Nat.ne_of_lt (Nat.lt_of_lt_of_le hlt (Nat.le_add_right _ _)))).trans hk0
      refine n_put (C := RX5) (T := TX5) (N := 7) (ref := "SegmentMap$Vertices") (ci := 6) (S2 := sRef S9 a0 2 ((sz + 92))) (D2 := D10) hC hin_X5 tyX5 tyX5_ok nmX5 hP hS hz hm0 (cE_5 hk0) rfl 2 (by decide) (hts _ (List.mem_cons_of_mem _ (hWCA _ wc_261))) rfl (Or.inr ⟨rfl, hname, rfl⟩) (ty := (.object "SegmentMap$Row")) (by decide +kernel) rfl rfl (Nat.le_of_ble_eq_true rfl) rfl (csi_5_2 G hk0 _) (cne_R G) dX5_init_64 (fun H locs hP hz hS hC => ?_)
      obtain ⟨S11, eS11⟩ : ∃ x, x = sRef S9 a0 2 ((sz + 92)) := ⟨_, rfl⟩
      rw [← eS11] at hP hS hC
      have hm0 : a0 ∈ S11.1 := by rw [eS11]; exact hm0
      have hk0 : S11.2.1 a0 = 5 := by rw [eS11]; exact hk0
      refine lv_aload_n hx hb dX5_init_67 rfl (lv_at hl 1 rfl) ?_
      refine n_obj (C := RX3) (T := TX3) (N := 1) (ci := 4) (kd := 3) (h := (sz + 94)) hC hP hS hz hin_X3 tyX3 tyX3_ok (hts _ (List.mem_cons_of_mem _ wa_24)) (hts _ (List.mem_cons_of_mem _ wa_8)) (hts _ (List.mem_cons_of_mem _ (hWCA _ wc_102))) rfl (cnew_3 G _ _ _) cdef_3 (Nat.le_of_ble_eq_true rfl) (Nat.le_of_ble_eq_true rfl) dX5_init_68 (fun H hP hz hS hC => ?_)
      obtain ⟨S12, eS12⟩ : ∃ x, x = sAdd S11 (sz + 94) 3 0 := ⟨_, rfl⟩
      rw [← eS12] at hP hS hC
      obtain ⟨D13, eD13⟩ : ∃ x, x = dNew D10 (sz + 94) := ⟨_, rfl⟩
      rw [← eD13] at hP
      have hm0 : a0 ∈ S12.1 := by rw [eS12]; exact List.mem_append_left _ hm0
      have hk0 : S12.2.1 a0 = 5 := by rw [eS12]; exact (va_up_ne _ _ (Nat.ne_of_lt (Nat.lt_of_lt_of_le hlt (Nat.le_add_right _ _)))).trans hk0
      have hz : H.size = (sz + 95) := hz
      refine lv_dup hx hb dX5_init_71 rfl ?_
      refine lv_bipush (v := 90) hx hb dX5_init_72 (by decide) ?_
      refine n_init (As := [.int 90]) (rest := [.ref ((sz + 94)), .ref a0]) (h := (sz + 95)) hC hP hS hz (i_X3 l G _ _ ((sz + 94)) (by rw [eS12]; exact List.mem_append_right _ (List.mem_singleton.mpr rfl)) (by rw [eS12]; exact va_up_self _ _ _) (n := 90) (N := 90) (by decide) (by decide) (Nat.le_of_ble_eq_true rfl)) (cwI 1 hts (gIA wa_0 (fun w h => h)) rfl rfl rfl (hts _ (List.mem_cons_of_mem _ (hWCA _ wc_102))) (hts _ (List.mem_cons_of_mem _ wa_26)) (hts _ (List.mem_cons_of_mem _ wa_11)) rfl (by decide +kernel) ⟨Nat.le_of_ble_eq_true rfl, Nat.le_of_ble_eq_true rfl⟩) rfl hl.1 rfl (Nat.le_of_ble_eq_true rfl) ⟨Nat.le_of_ble_eq_true rfl, Nat.le_of_ble_eq_true rfl⟩ dX5_init_74 (fun S2 D2 H locs hRl hGr hP hz hS hC => ?_)
      have hz : H.size = (sz + 96) := hz
      obtain ⟨hS2, hD2⟩ := hRl
      obtain ⟨S14, eS14⟩ : ∃ x, x = S2 := ⟨_, rfl⟩
      rw [← eS14] at hP hS hC hS2
      have eS14 := hS2
      obtain ⟨D15, eD15⟩ : ∃ x, x = D2 := ⟨_, rfl⟩
      rw [← eD15] at hP hD2
      have eD15 := hD2
      have hm0 : a0 ∈ S14.1 := by rw [eS14]; exact List.mem_append_left _ hm0
      have hk0 : S14.2.1 a0 = 5 := by rw [eS14]; exact (va_up_ne _ _ (Nat.ne_of_lt (Nat.lt_of_lt_of_le hlt (Nat.le_add_right _ _)))).trans hk0
      refine n_put (C := RX5) (T := TX5) (N := 7) (ref := "SegmentMap$Vertices") (ci := 6) (S2 := sRef S14 a0 3 ((sz + 94))) (D2 := D15) hC hin_X5 tyX5 tyX5_ok nmX5 hP hS hz hm0 (cE_5 hk0) rfl 3 (by decide) (hts _ (List.mem_cons_of_mem _ (hWCA _ wc_262))) rfl (Or.inr ⟨rfl, hname, rfl⟩) (ty := (.object "SegmentMap$Row")) (by decide +kernel) rfl rfl (Nat.le_of_ble_eq_true rfl) rfl (csi_5_3 G hk0 _) (cne_R G) dX5_init_77 (fun H locs hP hz hS hC => ?_)
      obtain ⟨S16, eS16⟩ : ∃ x, x = sRef S14 a0 3 ((sz + 94)) := ⟨_, rfl⟩
      rw [← eS16] at hP hS hC
      have hm0 : a0 ∈ S16.1 := by rw [eS16]; exact hm0
      have hk0 : S16.2.1 a0 = 5 := by rw [eS16]; exact hk0
      refine lv_aload_n hx hb dX5_init_80 rfl (lv_at hl 1 rfl) ?_
      refine n_obj (C := RX3) (T := TX3) (N := 1) (ci := 4) (kd := 3) (h := (sz + 96)) hC hP hS hz hin_X3 tyX3 tyX3_ok (hts _ (List.mem_cons_of_mem _ wa_24)) (hts _ (List.mem_cons_of_mem _ wa_8)) (hts _ (List.mem_cons_of_mem _ (hWCA _ wc_102))) rfl (cnew_3 G _ _ _) cdef_3 (Nat.le_of_ble_eq_true rfl) (Nat.le_of_ble_eq_true rfl) dX5_init_81 (fun H hP hz hS hC => ?_)
      obtain ⟨S17, eS17⟩ : ∃ x, x = sAdd S16 (sz + 96) 3 0 := ⟨_, rfl⟩
      rw [← eS17] at hP hS hC
      obtain ⟨D18, eD18⟩ : ∃ x, x = dNew D15 (sz + 96) := ⟨_, rfl⟩
      rw [← eD18] at hP
      have hm0 : a0 ∈ S17.1 := by rw [eS17]; exact List.mem_append_left _ hm0
      have hk0 : S17.2.1 a0 = 5 := by rw [eS17]; exact (va_up_ne _ _ (Nat.ne_of_lt (Nat.lt_of_lt_of_le hlt (Nat.le_add_right _ _)))).trans hk0
      have hz : H.size = (sz + 97) := hz
      refine lv_dup hx hb dX5_init_84 rfl ?_
      refine lv_bipush (v := 90) hx hb dX5_init_85 (by decide) ?_
      refine n_init (As := [.int 90]) (rest := [.ref ((sz + 96)), .ref a0]) (h := (sz + 97)) hC hP hS hz (i_X3 l G _ _ ((sz + 96)) (by rw [eS17]; exact List.mem_append_right _ (List.mem_singleton.mpr rfl)) (by rw [eS17]; exact va_up_self _ _ _) (n := 90) (N := 90) (by decide) (by decide) (Nat.le_of_ble_eq_true rfl)) (cwI 1 hts (gIA wa_0 (fun w h => h)) rfl rfl rfl (hts _ (List.mem_cons_of_mem _ (hWCA _ wc_102))) (hts _ (List.mem_cons_of_mem _ wa_26)) (hts _ (List.mem_cons_of_mem _ wa_11)) rfl (by decide +kernel) ⟨Nat.le_of_ble_eq_true rfl, Nat.le_of_ble_eq_true rfl⟩) rfl hl.1 rfl (Nat.le_of_ble_eq_true rfl) ⟨Nat.le_of_ble_eq_true rfl, Nat.le_of_ble_eq_true rfl⟩ dX5_init_87 (fun S2 D2 H locs hRl hGr hP hz hS hC => ?_)
      have hz : H.size = (sz + 98) := hz
      obtain ⟨hS2, hD2⟩ := hRl
      obtain ⟨S19, eS19⟩ : ∃ x, x = S2 := ⟨_, rfl⟩
      rw [← eS19] at hP hS hC hS2
      have eS19 := hS2
      obtain ⟨D20, eD20⟩ : ∃ x, x = D2 := ⟨_, rfl⟩
      rw [← eD20] at hP hD2
      have eD20 := hD2
      have hm0 : a0 ∈ S19.1 := by rw [eS19]; exact List.mem_append_left _ hm0
      have hk0 : S19.2.1 a0 = 5 := by rw [eS19]; exact (va_up_ne _ _ (Nat.ne_of_lt (Nat.lt_of_lt_of_le hlt (Nat.le_add_right _ _)))).trans hk0
      refine n_put (C := RX5) (T := TX5) (N := 7) (ref := "SegmentMap$Vertices") (ci := 6) (S2 := sRef S19 a0 4 ((sz + 96))) (D2 := D20) hC hin_X5 tyX5 tyX5_ok nmX5 hP hS hz hm0 (cE_5 hk0) rfl 4 (by decide) (hts _ (List.mem_cons_of_mem _ (hWCA _ wc_263))) rfl (Or.inr ⟨rfl, hname, rfl⟩) (ty := (.object "SegmentMap$Row")) (by decide +kernel) rfl rfl (Nat.le_of_ble_eq_true rfl) rfl (csi_5_4 G hk0 _) (cne_R G) dX5_init_90 (fun H locs hP hz hS hC => ?_)
      obtain ⟨S21, eS21⟩ : ∃ x, x = sRef S19 a0 4 ((sz + 96)) := ⟨_, rfl⟩
      rw [← eS21] at hP hS hC
      have hm0 : a0 ∈ S21.1 := by rw [eS21]; exact hm0
      have hk0 : S21.2.1 a0 = 5 := by rw [eS21]; exact hk0
      refine lv_aload_n hx hb dX5_init_93 rfl (lv_at hl 1 rfl) ?_
      refine n_obj (C := RX3) (T := TX3) (N := 1) (ci := 4) (kd := 3) (h := (sz + 98)) hC hP hS hz hin_X3 tyX3 tyX3_ok (hts _ (List.mem_cons_of_mem _ wa_24)) (hts _ (List.mem_cons_of_mem _ wa_8)) (hts _ (List.mem_cons_of_mem _ (hWCA _ wc_102))) rfl (cnew_3 G _ _ _) cdef_3 (Nat.le_of_ble_eq_true rfl) (Nat.le_of_ble_eq_true rfl) dX5_init_94 (fun H hP hz hS hC => ?_)
      obtain ⟨S22, eS22⟩ : ∃ x, x = sAdd S21 (sz + 98) 3 0 := ⟨_, rfl⟩
      rw [← eS22] at hP hS hC
      obtain ⟨D23, eD23⟩ : ∃ x, x = dNew D20 (sz + 98) := ⟨_, rfl⟩
      rw [← eD23] at hP
      have hm0 : a0 ∈ S22.1 := by rw [eS22]; exact List.mem_append_left _ hm0
      have hk0 : S22.2.1 a0 = 5 := by rw [eS22]; exact (va_up_ne _ _ (Nat.ne_of_lt (Nat.lt_of_lt_of_le hlt (Nat.le_add_right _ _)))).trans hk0
      have hz : H.size = (sz + 99) := hz
      refine lv_dup hx hb dX5_init_97 rfl ?_
      refine lv_bipush (v := 90) hx hb dX5_init_98 (by decide) ?_
      refine n_init (As := [.int 90]) (rest := [.ref ((sz + 98)), .ref a0]) (h := (sz + 99)) hC hP hS hz (i_X3 l G _ _ ((sz + 98)) (by rw [eS22]; exact List.mem_append_right _ (List.mem_singleton.mpr rfl)) (by rw [eS22]; exact va_up_self _ _ _) (n := 90) (N := 90) (by decide) (by decide) (Nat.le_of_ble_eq_true rfl)) (cwI 1 hts (gIA wa_0 (fun w h => h)) rfl rfl rfl (hts _ (List.mem_cons_of_mem _ (hWCA _ wc_102))) (hts _ (List.mem_cons_of_mem _ wa_26)) (hts _ (List.mem_cons_of_mem _ wa_11)) rfl (by decide +kernel) ⟨Nat.le_of_ble_eq_true rfl, Nat.le_of_ble_eq_true rfl⟩) rfl hl.1 rfl (Nat.le_of_ble_eq_true rfl) ⟨Nat.le_of_ble_eq_true rfl, Nat.le_of_ble_eq_true rfl⟩ dX5_init_100 (fun S2 D2 H locs hRl hGr hP hz hS hC => ?_)
      have hz : H.size = (sz + 100) := hz
      obtain ⟨hS2, hD2⟩ := hRl
      obtain ⟨S24, eS24⟩ : ∃ x, x = S2 := ⟨_, rfl⟩
      rw [← eS24] at hP hS hC hS2
      have eS24 := hS2
      obtain ⟨D25, eD25⟩ : ∃ x, x = D2 := ⟨_, rfl⟩
      rw [← eD25] at hP hD2
      have eD25 := hD2
      have hm0 : a0 ∈ S24.1 := by rw [eS24]; exact List.mem_append_left _ hm0
      have hk0 : S24.2.1 a0 = 5 := by rw [eS24]; exact (va_up_ne _ _ (Nat.ne_of_lt (Nat.lt_of_lt_of_le hlt (Nat.le_add_right _ _)))).trans hk0
      refine n_put (C := RX5) (T := TX5) (N := 7) (ref := "SegmentMap$Vertices") (ci := 6) (S2 := sRef S24 a0 5 ((sz + 98))) (D2 := D25) hC hin_X5 tyX5 tyX5_ok nmX5 hP hS hz hm0 (cE_5 hk0) rfl 5 (by decide) (hts _ (List.mem_cons_of_mem _ (hWCA _ wc_264))) rfl (Or.inr ⟨rfl, hname, rfl⟩) (ty := (.object "SegmentMap$Row")) (by decide +kernel) rfl rfl (Nat.le_of_ble_eq_true rfl) rfl (csi_5_5 G hk0 _) (cne_R G) dX5_init_103 (fun H locs hP hz hS hC => ?_)
      obtain ⟨S26, eS26⟩ : ∃ x, x = sRef S24 a0 5 ((sz + 98)) := ⟨_, rfl⟩
      rw [← eS26] at hP hS hC
      have hm0 : a0 ∈ S26.1 := by rw [eS26]; exact hm0
      have hk0 : S26.2.1 a0 = 5 := by rw [eS26]; exact hk0
      refine lv_aload_n hx hb dX5_init_106 rfl (lv_at hl 1 rfl) ?_
      refine lv_iconst (v := 0) hx hb dX5_init_107 (by decide) ?_
      refine n_put (C := RX5) (T := TX5) (N := 7) (ref := "SegmentMap$Vertices") (ci := 6) (S2 := S26) (D2 := cpF D25 a0 6 0) hC hin_X5 tyX5 tyX5_ok nmX5 hP hS hz hm0 (cE_5 hk0) rfl 6 (by decide) (hts _ (List.mem_cons_of_mem _ (hWCA _ wc_198))) rfl (Or.inl rfl) (ty := .int) (by decide +kernel) rfl rfl (Nat.le_of_ble_eq_true rfl) rfl (csi_5_6 G hk0 _) (cne_F G) dX5_init_108 (fun H locs hP hz hS hC => ?_)
      obtain ⟨D27, eD27⟩ : ∃ x, x = cpF D25 a0 6 0 := ⟨_, rfl⟩
      rw [← eD27] at hP
      have fS : S26 = rX5_init N S a0 sz := by subst eS26 eS24 eS22 eS21 eS19 eS17 eS16 eS14 eS12 eS11 eS9 eS7 eS6 eS3 eS1; rfl
      have fD : D27 = qX5_init N D a0 sz := by subst eD27 eD25 eD23 eD20 eD18 eD15 eD13 eD10 eD8 eD5 eD4 eD2; rfl
      exact n_vret (S0 := S) (Rl := (fun sz S2 D2 => S2 = rX5_init N S a0 sz ∧ D2 = qX5_init N D a0 sz)) (k := 100) hC hP hS hz ⟨fS, fD⟩ (fun q h => by rw [fS, rX5_L]; exact List.mem_append_left _ (List.mem_append_left _ (List.mem_append_left _ h))) (fun q h => rX5_mem (by rw [← fS]; exact h)) dX5_init_111 (Nat.le_of_ble_eq_true rfl) (Nat.le_of_ble_eq_true rfl)
    | succ k ih =>
      intro i hi H locs ls hP hz hS hC hl
      have hm1 := hS0m i
      have hk1 := hS0k i
      have hr1 := hS0r i
      refine lv_iload_n hx hb dX5_init_15 rfl (lv_at hl 0 rfl) ?_
      refine lv_aload_n hx hb dX5_init_16 rfl (lv_at hl 1 rfl) ?_
      refine n_get (C := RX5) (T := TX5) (N := 7) (ref := "SegmentMap$Vertices") (ci := 6) (v := .ref sz) hC hin_X5 hP hm1 (cE_5 hk1) rfl 0 (by decide) (hts _ (List.mem_cons_of_mem _ (hWCA _ wc_83))) rfl (by show some (va_rf _) = _; rw [hr1]; rfl) dX5_init_17 ?_
      refine n_alen hC hP (hSzm i) (by rw [hSzk i]; decide) (by rw [hSzk i]; decide) dX5_init_20 ?_
      rw [hSzl i]
      refine lv_icmp_ge (tgt := 43) hx hb dX5_init_21 (by decide) (fun u => absurd ((nI_leI (a := 90) (b := i) (by omega) (by omega)).mp u) (by omega)) (fun _ => ?_)
      refine lv_aload_n hx hb dX5_init_24 rfl (lv_at hl 1 rfl) ?_
      refine n_get (C := RX5) (T := TX5) (N := 7) (ref := "SegmentMap$Vertices") (ci := 6) (v := .ref sz) hC hin_X5 hP hm1 (cE_5 hk1) rfl 0 (by decide) (hts _ (List.mem_cons_of_mem _ (hWCA _ wc_83))) rfl (by show some (va_rf _) = _; rw [hr1]; rfl) dX5_init_25 ?_
      refine lv_iload_n hx hb dX5_init_28 rfl (lv_at hl 0 rfl) ?_
      refine n_obj (C := RX2) (T := TX2) (N := 4) (ci := 3) (kd := 2) (h := sz + 1 + i) hC hP hS hz hin_X2 tyX2 tyX2_ok (hts _ (List.mem_cons_of_mem _ wa_22)) (hts _ (List.mem_cons_of_mem _ wa_23)) (hts _ (List.mem_cons_of_mem _ (hWCA _ wc_131))) rfl (cnew_2 G _ _ _) cdef_2 (by show 1 + i + 1 ≤ 100; omega) (by show 90 + 4 * i + 4 ≤ 818; omega) dX5_init_29 (fun H hP hz hS hC => ?_)
      refine lv_dup hx hb dX5_init_32 rfl ?_
      refine n_initN (As := []) (rest := [.ref (sz + 1 + i), .int (nI i), .ref sz]) (h := sz + 1 + i + 1) hC hP hS hz (i_X2 l G _ _ (sz + 1 + i) (List.mem_append_right _ (List.mem_singleton.mpr rfl)) (va_up_self _ _ _)) ⟨va_cnB 0 hts (gIA wa_16 (fun w h => h)) rfl rfl rfl hZ.2.2.2.2.2.2.2.1 (hts _ (List.mem_cons_of_mem _ (hWCA _ wc_131))) (by decide +kernel) ⟨Nat.le_of_ble_eq_true rfl, Nat.le_of_ble_eq_true rfl⟩, rfl, hts _ (List.mem_cons_of_mem _ wa_25)⟩ rfl hl.1 rfl (Nat.le_of_ble_eq_true rfl) ⟨by show 1 + i + 1 + 0 ≤ 100; omega, by show 90 + 4 * i + 4 + 0 ≤ 818; omega⟩ dX5_init_33 (fun S2 D2 H locs hRl hGr hP hz hS hC => ?_)
      obtain ⟨rfl, rfl⟩ := hRl
      refine n_ast (E := "SegmentMap$Point") (C := RX2) (T := TX2) (N := 4) (ci := 3) (t0 := 1) (kd := 9) (a := sz) (v := sz + 1 + i) hC hP hS (h := sz + 1 + i + 1) hz rfl (fun S D a h => cE_9 h) (hSzm (i + 1)) (hSzk (i + 1)) (List.mem_append_right _ (List.mem_singleton.mpr rfl)) (cE_2 (va_up_self _ _ _)) rfl (fun comp c0 g1 g2 => vb_asgS comp c0 g1 g2) (i := nI i) (by show vp_in (nI i) ((pSt (rX5_a S a0 sz) (sz + 1) (i + 1)).2.2.2 sz); rw [hSzl (i + 1)]; exact vp_in_nI (by omega) (by decide)) dX5_init_36 (fun H locs hP hz hS => ?_)
      refine lv_iinc (v := nI i + 1) (lv' := [(1, .int (nI i + 1)), (0, .ref a0)]) hx hb dX5_init_37 hl (k := 0) rfl rfl (by decide) rfl (fun ls hl => ?_)
      refine lv_goto (tgt := 15) hx hb dX5_init_40 (by decide) ?_
      rw [nI_clamp (by omega)] at hP
      rw [show nI i + 1 = nI (i + 1) from nI_add i 1] at hl
      exact ih (i + 1) (by omega) H locs ls hP (by omega) hS hC hl
  refine m_entry (Nat.le_of_ble_eq_true rfl) (fun ls hl => ?_)
  have hl : lv_has ls 2 [(0, .ref a0)] := hl
  refine lv_aload_n hx hb dX5_init_0 rfl (lv_at hl 0 rfl) ?_
  refine n_objInit hC (hts _ (List.mem_cons_of_mem _ wa_21)) (hts _ (List.mem_cons_of_mem _ wa_2)) (hts _ (List.mem_cons_of_mem _ wa_3)) hl.1 dX5_init_1 ⟨Nat.le_of_ble_eq_true rfl, Nat.le_of_ble_eq_true rfl⟩ ?_
  refine lv_aload_n hx hb dX5_init_4 rfl (lv_at hl 0 rfl) ?_
  refine lv_bipush (v := 90) hx hb dX5_init_5 (by decide) ?_
  refine n_qarr (C := "SegmentMap$Point") (t0 := 1) (kd := 9) (h := sz) hC hP hS hz (hts _ (List.mem_cons_of_mem _ wa_22)) (va_AO.use hZ.2.2.2.2.1) rfl (fun S D a h => cE_9 h) (n := 90) (N' := 90) (by decide) (by decide) (Nat.le_of_ble_eq_true rfl) (Nat.le_of_ble_eq_true rfl) (Nat.le_of_ble_eq_true rfl) dX5_init_7 (fun H hP hz hS hC => ?_)
  have hm0 : a0 ∈ (sAdd S sz 9 90).1 := List.mem_append_left _ hm0
  have hk0 : (sAdd S sz 9 90).2.1 a0 = 5 := (va_up_ne _ _ (by omega)).trans hk0
  refine n_put (C := RX5) (T := TX5) (N := 7) (ref := "SegmentMap$Vertices") (ci := 6) (v := .ref sz) (S2 := rX5_a S a0 sz) (D2 := dNew D sz) hC hin_X5 tyX5 tyX5_ok nmX5 hP hS hz hm0 (cE_5 hk0) rfl 0 (by decide) (hts _ (List.mem_cons_of_mem _ (hWCA _ wc_83))) rfl (Or.inr ⟨rfl, hname, rfl⟩) (ty := (.array (.object "SegmentMap$Point"))) (by decide +kernel) rfl rfl (Nat.le_of_ble_eq_true rfl) rfl (csi_5_0 G hk0 _) (cne_R G) dX5_init_10 (fun H locs hP hz hS hC => ?_)
  refine lv_iconst (v := 0) hx hb dX5_init_13 (by decide) ?_
  refine lv_istore_n (lv' := [(1, .int 0), (0, .ref a0)]) hx hb dX5_init_14 rfl hl (by decide) rfl (fun ls hl => ?_)
  exact LP 90 0 rfl H locs ls hP hz hS hC hl
