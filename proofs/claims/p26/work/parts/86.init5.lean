/-! constructors of ArrayList and of SegmentMap; what older objects keep -/
def sOld (S S2 : CS) (b a : Nat) : Prop := ∀ x, x < b → S2.2.1 x = S.2.1 x ∧ S2.2.2.2 x = S.2.2.2 x ∧ (x ≠ a → S2.2.2.1 x = S.2.2.1 x)
theorem sOld.rfl {S : CS} {b a : Nat} : sOld S S b a := fun _ _ => ⟨Eq.refl _, Eq.refl _, fun _ => Eq.refl _⟩
theorem sOld.add {S S1 : CS} {b a q kd len : Nat} (h : sOld S S1 b a) (hq : b ≤ q) : sOld S (sAdd S1 q kd len) b a := fun x hx => by
  have hn : x ≠ q := by omega
  obtain ⟨h1, h2, h3⟩ := h x hx
  exact ⟨(va_up_ne _ _ hn).trans h1, (va_up_ne _ _ hn).trans h2, fun ha => (va_up_ne _ _ hn).trans (h3 ha)⟩
theorem sOld.ref {S S1 : CS} {b a k v : Nat} (h : sOld S S1 b a) : sOld S (sRef S1 a k v) b a := fun x hx => by
  obtain ⟨h1, h2, h3⟩ := h x hx
  exact ⟨h1, h2, fun ha => (va_up_ne _ _ ha).trans (h3 ha)⟩
theorem sOld.refN {S S1 : CS} {b a q k v : Nat} (h : sOld S S1 b a) (hq : b ≤ q) : sOld S (sRef S1 q k v) b a := fun x hx => by
  have hn : x ≠ q := by omega
  obtain ⟨h1, h2, h3⟩ := h x hx
  exact ⟨h1, h2, fun ha => (va_up_ne _ _ hn).trans (h3 ha)⟩
theorem sOld.row {S S1 : CS} {b a q n : Nat} (h : sOld S S1 b a) (hq : b ≤ q) : sOld S (nRow S1 q n) b a := sOld.refN (sOld.add (sOld.add h hq) (Nat.le_succ_of_le hq)) hq
theorem sOld.pts {S S1 : CS} {b a q n : Nat} (h : sOld S S1 b a) (hq : b ≤ q) : sOld S (pSt S1 q n) b a := fun x hx => by
  obtain ⟨h1, h2, h3⟩ := h x hx
  obtain ⟨p1, p2, p3⟩ := pSt_old S1 q n x (Nat.lt_of_lt_of_le hx hq)
  exact ⟨p1.trans h1, p3.trans h2, fun ha => p2.trans (h3 ha)⟩
theorem sOld.tr {S S1 S2 : CS} {b a b2 a2 : Nat} (h : sOld S S1 b a) (h2 : sOld S1 S2 b2 a2) (hb : b ≤ b2) (ha : b ≤ a2) : sOld S S2 b a := fun x hx => by
  obtain ⟨p1, p2, p3⟩ := h x hx
  obtain ⟨q1, q2, q3⟩ := h2 x (Nat.lt_of_lt_of_le hx hb)
  exact ⟨q1.trans p1, q2.trans p2, fun hxa => (q3 (by omega)).trans (p3 hxa)⟩
def dOld (D D2 : CD) (b a : Nat) : Prop := ∀ x, x < b → x ≠ a → D2.1 x = D.1 x ∧ D2.2.1 x = D.2.1 x ∧ D2.2.2.1 x = D.2.2.1 x ∧ D2.2.2.2 x = D.2.2.2 x
theorem dOld.rfl {D : CD} {b a : Nat} : dOld D D b a := fun _ _ _ => ⟨Eq.refl _, Eq.refl _, Eq.refl _, Eq.refl _⟩
theorem dOld.new {D D1 : CD} {b a q : Nat} (h : dOld D D1 b a) (hq : b ≤ q) : dOld D (dNew D1 q) b a := fun x hx hxa => by
  obtain ⟨h1, h2, h3, h4⟩ := h x hx hxa
  obtain ⟨p1, p2, p3, p4⟩ := dNew_x D1 q x (by omega)
  exact ⟨p1.trans h1, p2.trans h2, p3.trans h3, p4.trans h4⟩
theorem dOld.pt {D D1 : CD} {b a q : Nat} (h : dOld D D1 b a) (hq : b ≤ q) : dOld D (dPt D1 q) b a := fun x hx hxa => by
  obtain ⟨h1, h2, h3, h4⟩ := h x hx hxa
  obtain ⟨p1, p2⟩ := dPt_x D1 q x (by omega)
  exact ⟨p1.trans h1, p2.trans h2, h3, h4⟩
theorem dOld.F {D D1 : CD} {b a k : Nat} {v : Int32} (h : dOld D D1 b a) : dOld D (cpF D1 a k v) b a := fun x hx hxa => by
  obtain ⟨h1, h2, h3, h4⟩ := h x hx hxa
  exact ⟨(va_up_ne _ _ hxa).trans h1, h2, h3, h4⟩
theorem dOld.FN {D D1 : CD} {b a q k : Nat} {v : Int32} (h : dOld D D1 b a) (hq : b ≤ q) : dOld D (cpF D1 q k v) b a := fun x hx hxa => by
  obtain ⟨h1, h2, h3, h4⟩ := h x hx hxa
  exact ⟨(va_up_ne _ _ (by omega)).trans h1, h2, h3, h4⟩
theorem dOld.GN {D D1 : CD} {b a q k : Nat} {v : Int64} (h : dOld D D1 b a) (hq : b ≤ q) : dOld D (cpG D1 q k v) b a := fun x hx hxa => by
  obtain ⟨h1, h2, h3, h4⟩ := h x hx hxa
  exact ⟨h1, (va_up_ne _ _ (by omega)).trans h2, h3, h4⟩
theorem dOld.sg {D D1 : CD} {b a q : Nat} {x1 y1 x2 y2 : Int32} (h : dOld D D1 b a) (hq : b ≤ q) : dOld D (dSg D1 q x1 y1 x2 y2) b a := by
  unfold dSg
  split <;> exact dOld.GN (dOld.GN (dOld.FN (dOld.FN (dOld.FN (dOld.FN h hq) hq) hq) hq) hq) hq
theorem dOld.pts {D D1 : CD} {b a pa q n : Nat} (h : dOld D D1 b a) (hq : b ≤ q) (hp : b ≤ pa) : dOld D (pDt D1 pa q n) b a := fun x hx hxa => by
  obtain ⟨h1, h2, h3, h4⟩ := h x hx hxa
  obtain ⟨p1, p2, p3, p4⟩ := pDt_x D1 pa q n x (by omega) (by omega)
  exact ⟨p1.trans h1, p2.trans h2, p3.trans h3, p4.trans h4⟩
theorem dOld.tr {D D1 D2 : CD} {b a b2 a2 : Nat} (h : dOld D D1 b a) (h2 : dOld D1 D2 b2 a2) (hb : b ≤ b2) (ha : b ≤ a2) : dOld D D2 b a := fun x hx hxa => by
  obtain ⟨p1, p2, p3, p4⟩ := h x hx hxa
  obtain ⟨q1, q2, q3, q4⟩ := h2 x (by omega) (by omega)
  exact ⟨q1.trans p1, q2.trans p2, q3.trans p3, q4.trans p4⟩
theorem rX0_old (S : CS) (a0 sz : Nat) : sOld S (rX0_init S a0 sz) sz a0 := by
  unfold rX0_init
  exact (sOld.row (sOld.row (sOld.row (sOld.row (sOld.row sOld.rfl (by omega)).ref (by omega)).ref (by omega)).ref (by omega)).ref (by omega)).ref
theorem rX1_old (S : CS) (a0 sz : Nat) : sOld S (rX1_init S a0 sz) sz a0 := by
  unfold rX1_init
  exact (sOld.row (sOld.row sOld.rfl (by omega)).ref (by omega)).ref
theorem rX5_old (N : Nat) (S : CS) (a0 sz : Nat) : sOld S (rX5_init N S a0 sz) sz a0 := by
  unfold rX5_init rX5_b rX5_a
  exact (sOld.row (sOld.row (sOld.row (sOld.row (sOld.add (sOld.pts (sOld.add sOld.rfl (by omega)).ref (by omega)) (by omega)).ref (by omega)).ref (by omega)).ref (by omega)).ref (by omega)).ref
theorem qX0_old (D : CD) (a0 sz : Nat) : dOld D (qX0_init D a0 sz) sz a0 := by
  unfold qX0_init
  exact (dOld.new (dOld.new (dOld.new (dOld.new (dOld.new (dOld.new (dOld.new (dOld.new (dOld.new (dOld.new dOld.rfl (by omega)) (by omega)) (by omega)) (by omega)) (by omega)) (by omega)) (by omega)) (by omega)) (by omega)) (by omega)).F
theorem qX1_old (D : CD) (a0 sz : Nat) : dOld D (qX1_init D a0 sz) sz a0 := by
  unfold qX1_init
  exact (dOld.new (dOld.new (dOld.new (dOld.new dOld.rfl (by omega)) (by omega)) (by omega)) (by omega)).F
theorem qX5_old (N : Nat) (D : CD) (a0 sz : Nat) : dOld D (qX5_init N D a0 sz) sz a0 := by
  unfold qX5_init qX5_b
  exact (dOld.new (dOld.new (dOld.new (dOld.new (dOld.new (dOld.new (dOld.new (dOld.new (dOld.pt (dOld.new (dOld.pts (dOld.new dOld.rfl (by omega)) (by omega) (by omega)) (by omega)) (by omega)) (by omega)) (by omega)) (by omega)) (by omega)) (by omega)) (by omega)) (by omega)) (by omega)).F
theorem rX0_sub {S : CS} {a0 sz q : Nat} (h : q ∈ S.1) : q ∈ (rX0_init S a0 sz).1 := by
  simp only [rX0_init, nRow, sRef, sAdd, List.append_assoc]
  exact List.mem_append_left _ h
theorem rX1_sub {S : CS} {a0 sz q : Nat} (h : q ∈ S.1) : q ∈ (rX1_init S a0 sz).1 := by
  simp only [rX1_init, nRow, sRef, sAdd, List.append_assoc]
  exact List.mem_append_left _ h
theorem rX5_sub {N : Nat} {S : CS} {a0 sz q : Nat} (h : q ∈ S.1) : q ∈ (rX5_init N S a0 sz).1 := by
  rw [rX5_L]; exact List.mem_append_left _ (List.mem_append_left _ (List.mem_append_left _ h))
theorem dJxa1e45_init_da8c8_0 : decode cJxa1e45_init_da8c8 0 = .ok (.aload_n 0, 1) := by decide +kernel
theorem dJxa1e45_init_da8c8_1 : decode cJxa1e45_init_da8c8 1 = .ok (.invokespecial 1, 3) := by decide +kernel
theorem dJxa1e45_init_da8c8_4 : decode cJxa1e45_init_da8c8 4 = .ok (.return_, 1) := by decide +kernel
def wJxa1e45_init_da8c8 : List Cond := Cond.code yJxa1e45_init_da8c8 cJxa1e45_init_da8c8 1 none :: WA
set_option maxRecDepth 100000 in
set_option maxHeartbeats 4000000 in
theorem i_JA (l : Launch) (G : cG) (S : CS) (D : CD) (a0 : Nat) (hm0 : a0 ∈ S.1) (hk0 : S.2.1 a0 = 7) : cMK l yJxa1e45_init_da8c8 wJxa1e45_init_da8c8 ({ frames := 1, cells := 0, slots := 0, locals := 20 }) G S [.ref a0] D 0 0 0 (fun _ S2 D2 => S2 = S ∧ D2 = D) := by
  refine cBodyK (cc := cJxa1e45_init_da8c8) (maxL := 1) (ret := none) (own := RJxa1e45) (by decide) rfl rfl ?_
  intro sz p e s m below meth c hC hP hname
  have hC0 := hC
  obtain ⟨hx, hb, -, hts, hown, -, hml, -, -, hz, -⟩ := hC0
  have hS : va_S (cA G S sz) s.heap s.heap [] := va_S.rf
  have hlt : a0 < sz := by rw [← hz]; exact cW_lt hP hm0
  refine m_entry (Nat.le_of_ble_eq_true rfl) (fun ls hl => ?_)
  have hl : lv_has ls 1 [(0, .ref a0)] := hl
  refine lv_aload_n hx hb dJxa1e45_init_da8c8_0 rfl (lv_at hl 0 rfl) ?_
  refine n_objInit hC (hts _ (List.mem_cons_of_mem _ wa_54)) (hts _ (List.mem_cons_of_mem _ wa_2)) (hts _ (List.mem_cons_of_mem _ wa_3)) hl.1 dJxa1e45_init_da8c8_1 ⟨Nat.le_of_ble_eq_true rfl, Nat.le_of_ble_eq_true rfl⟩ ?_
  exact n_vret (S0 := S) (Rl := (fun _ S2 D2 => S2 = S ∧ D2 = D)) (k := 0) hC hP hS hz ⟨rfl, rfl⟩ (fun _ h => h) (fun _ h => Or.inl h) dJxa1e45_init_da8c8_4 (Nat.le_refl _) (Nat.le_refl _)
theorem dJxc12de_init_da8c8_0 : decode cJxc12de_init_da8c8 0 = .ok (.aload_n 0, 1) := by decide +kernel
theorem dJxc12de_init_da8c8_1 : decode cJxc12de_init_da8c8 1 = .ok (.invokespecial 1, 3) := by decide +kernel
theorem dJxc12de_init_da8c8_4 : decode cJxc12de_init_da8c8 4 = .ok (.aload_n 0, 1) := by decide +kernel
theorem dJxc12de_init_da8c8_5 : decode cJxc12de_init_da8c8 5 = .ok (.iconst 0, 1) := by decide +kernel
theorem dJxc12de_init_da8c8_6 : decode cJxc12de_init_da8c8 6 = .ok (.putfield 7, 3) := by decide +kernel
theorem dJxc12de_init_da8c8_9 : decode cJxc12de_init_da8c8 9 = .ok (.return_, 1) := by decide +kernel
def wJxc12de_init_da8c8 : List Cond := Cond.code yJxc12de_init_da8c8 cJxc12de_init_da8c8 1 none :: WA
set_option maxRecDepth 100000 in
set_option maxHeartbeats 4000000 in
theorem i_JL (l : Launch) (G : cG) (S : CS) (D : CD) (a0 : Nat) (hm0 : a0 ∈ S.1) (hk0 : S.2.1 a0 = 7) : cMK l yJxc12de_init_da8c8 wJxc12de_init_da8c8 ({ frames := 2, cells := 0, slots := 0, locals := 45 }) G S [.ref a0] D 0 0 0 (fun _ S2 D2 => S2 = S ∧ D2 = cpF D a0 0 0) := by
  refine cBodyK (cc := cJxc12de_init_da8c8) (maxL := 1) (ret := none) (own := RJxc12de) (by decide) rfl rfl ?_
  intro sz p e s m below meth c hC hP hname
  have hC0 := hC
  obtain ⟨hx, hb, -, hts, hown, -, hml, -, -, hz, -⟩ := hC0
  have hS : va_S (cA G S sz) s.heap s.heap [] := va_S.rf
  have hlt : a0 < sz := by rw [← hz]; exact cW_lt hP hm0
  have hin_Jx4a65c : ∀ w ∈ wsJx4a65c0, w ∈ wJxc12de_init_da8c8 := fun w h => List.mem_cons_of_mem _ (hWCA _ (hWC7 w h))
  refine m_entry (Nat.le_of_ble_eq_true rfl) (fun ls hl => ?_)
  have hl : lv_has ls 1 [(0, .ref a0)] := hl
  refine lv_aload_n hx hb dJxc12de_init_da8c8_0 rfl (lv_at hl 0 rfl) ?_
  refine n_init (As := []) (rest := []) (h := sz) hC hP hS hz (i_JA l G _ _ a0 hm0 hk0) (cwI 0 hts (gIA wa_53 (fun w h => h)) rfl rfl rfl (hts _ (List.mem_cons_of_mem _ wa_52)) (hts _ (List.mem_cons_of_mem _ wa_50)) (hts _ (List.mem_cons_of_mem _ wa_51)) rfl (by decide +kernel) ⟨Nat.le_of_ble_eq_true rfl, Nat.le_of_ble_eq_true rfl⟩) rfl hl.1 rfl (Nat.le_of_ble_eq_true rfl) ⟨Nat.le_of_ble_eq_true rfl, Nat.le_of_ble_eq_true rfl⟩ dJxc12de_init_da8c8_1 (fun S2 D2 H locs hRl hGr hP hz hS hC => ?_)
  have hz : H.size = sz := hz
  have hS2 := hRl.1
  have hD2 := hRl.2
  rw [hS2, hD2] at hP
  rw [hS2] at hS hC
  refine lv_aload_n hx hb dJxc12de_init_da8c8_4 rfl (lv_at hl 0 rfl) ?_
  refine lv_iconst (v := 0) hx hb dJxc12de_init_da8c8_5 (by decide) ?_
  refine n_put (C := RJx4a65c) (T := TJx4a65c) (N := 3) (ref := "java/util/AbstractList") (ci := 0) (S2 := S) (D2 := cpF D a0 0 0) hC hin_Jx4a65c tyJx4a65c tyJx4a65c_ok nmJx4a65c hP hS hz hm0 (cE_7 hk0) rfl 0 (by decide) (hts _ (List.mem_cons_of_mem _ wa_49)) rfl (Or.inl rfl) (ty := .int) (by decide +kernel) rfl rfl (Nat.le_of_ble_eq_true rfl) rfl (csi_7_0 G hk0 _) (cne_F G) dJxc12de_init_da8c8_6 (fun H locs hP hz hS hC => ?_)
  exact n_vret (S0 := S) (Rl := (fun _ S2 D2 => S2 = S ∧ D2 = cpF D a0 0 0)) (k := 0) hC hP hS hz ⟨rfl, rfl⟩ (fun _ h => h) (fun _ h => Or.inl h) dJxc12de_init_da8c8_9 (Nat.le_refl _) (Nat.le_refl _)
theorem dJx4a65c_init_da8c8_0 : decode cJx4a65c_init_da8c8 0 = .ok (.aload_n 0, 1) := by decide +kernel
theorem dJx4a65c_init_da8c8_1 : decode cJx4a65c_init_da8c8 1 = .ok (.invokespecial 1, 3) := by decide +kernel
theorem dJx4a65c_init_da8c8_4 : decode cJx4a65c_init_da8c8 4 = .ok (.aload_n 0, 1) := by decide +kernel
theorem dJx4a65c_init_da8c8_5 : decode cJx4a65c_init_da8c8 5 = .ok (.getstatic 39, 3) := by decide +kernel
theorem dJx4a65c_init_da8c8_8 : decode cJx4a65c_init_da8c8 8 = .ok (.putfield 9, 3) := by decide +kernel
theorem dJx4a65c_init_da8c8_11 : decode cJx4a65c_init_da8c8 11 = .ok (.return_, 1) := by decide +kernel
def wJx4a65c_init_da8c8 : List Cond := Cond.code yJx4a65c_init_da8c8 cJx4a65c_init_da8c8 1 none :: WA
set_option maxRecDepth 100000 in
set_option maxHeartbeats 4000000 in
theorem i_J7 (l : Launch) (G : cG) (S : CS) (z : Nat × Nat) (D : CD) (a0 : Nat) (hm0 : a0 ∈ S.1) (hk0 : S.2.1 a0 = 7) : cMKz l yJx4a65c_init_da8c8 wJx4a65c_init_da8c8 ({ frames := 3, cells := 0, slots := 0, locals := 70 }) G S z [.ref a0] D 0 0 0 (fun _ S2 D2 => S2 = sRef S a0 1 z.1 ∧ D2 = cpF D a0 0 0) := by
  refine cBodyKz (cc := cJx4a65c_init_da8c8) (maxL := 1) (ret := none) (own := RJx4a65c) (by decide) rfl rfl ?_
  intro sz p e s m below meth c hC hP hZ hname
  have hC0 := hC
  obtain ⟨hx, hb, -, hts, hown, -, hml, -, -, hz, -⟩ := hC0
  have hS : va_S (cA G S sz) s.heap s.heap [] := va_S.rf
  have hlt : a0 < sz := by rw [← hz]; exact cW_lt hP hm0
  have hin_Jx4a65c : ∀ w ∈ wsJx4a65c0, w ∈ wJx4a65c_init_da8c8 := fun w h => List.mem_cons_of_mem _ (hWCA _ (hWC7 w h))
  refine m_entry (Nat.le_of_ble_eq_true rfl) (fun ls hl => ?_)
  have hl : lv_has ls 1 [(0, .ref a0)] := hl
  refine lv_aload_n hx hb dJx4a65c_init_da8c8_0 rfl (lv_at hl 0 rfl) ?_
  refine n_init (As := []) (rest := []) (h := sz) hC hP hS hz (i_JL l G _ _ a0 hm0 hk0) (cwI 0 hts (gIA wa_48 (fun w h => h)) rfl rfl rfl (hts _ (List.mem_cons_of_mem _ wa_47)) (hts _ (List.mem_cons_of_mem _ wa_45)) (hts _ (List.mem_cons_of_mem _ wa_46)) rfl (by decide +kernel) ⟨Nat.le_of_ble_eq_true rfl, Nat.le_of_ble_eq_true rfl⟩) rfl hl.1 rfl (Nat.le_of_ble_eq_true rfl) ⟨Nat.le_of_ble_eq_true rfl, Nat.le_of_ble_eq_true rfl⟩ dJx4a65c_init_da8c8_1 (fun S2 D2 H locs hRl hGr hP hz hS hC => ?_)
  have hz : H.size = sz := hz
  have hS2 := hRl.1
  have hD2 := hRl.2
  rw [hS2, hD2] at hP
  rw [hS2] at hS hC
  refine lv_aload_n hx hb dJx4a65c_init_da8c8_4 rfl (lv_at hl 0 rfl) ?_
  refine va_gets (A := cA G S sz) hx hb hZ.1 hS hown (hts _ (List.mem_cons_of_mem _ wa_44)) (fun _ h => h) dJx4a65c_init_da8c8_5 ?_
  refine n_put (C := RJx4a65c) (T := TJx4a65c) (N := 3) (ref := "java/util/ArrayList") (ci := 0) (v := .ref z.1) (S2 := sRef S a0 1 z.1) (D2 := cpF D a0 0 0) hC hin_Jx4a65c tyJx4a65c tyJx4a65c_ok nmJx4a65c hP hS hz hm0 (cE_7 hk0) rfl 1 (by decide) (hts _ (List.mem_cons_of_mem _ (hWCA _ wc_15))) rfl (Or.inl rfl) (ty := (.array (.object "java/lang/Object"))) (by decide +kernel) rfl rfl (Nat.le_of_ble_eq_true rfl) rfl (csi_7_1 G hk0 _) (cne_R G) dJx4a65c_init_da8c8_8 (fun H locs hP hz hS hC => ?_)
  exact n_vret (S0 := S) (Rl := (fun _ S2 D2 => S2 = sRef S a0 1 z.1 ∧ D2 = cpF D a0 0 0)) (k := 0) hC hP hS hz ⟨rfl, rfl⟩ (fun _ h => h) (fun _ h => Or.inl h) dJx4a65c_init_da8c8_11 (Nat.le_refl _) (Nat.le_refl _)
