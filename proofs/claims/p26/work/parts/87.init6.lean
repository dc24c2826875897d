/-! constructor of SegmentMap -/
def gr0 (S0 S : CS) (sz : Nat) : Prop := (∀ q ∈ S0.1, q ∈ S.1) ∧ ∀ q ∈ S.1, q ∈ S0.1 ∨ sz ≤ q
theorem gr0.rfl {S : CS} {sz : Nat} : gr0 S S sz := ⟨fun _ h => h, fun _ h => Or.inl h⟩
theorem gr0.add {S0 S : CS} {sz q kd len : Nat} (h : gr0 S0 S sz) (hq : sz ≤ q) : gr0 S0 (sAdd S q kd len) sz := ⟨fun x hx => List.mem_append_left _ (h.1 x hx), fun x hx => by
  rcases List.mem_append.mp hx with hx | hx
  · exact h.2 x hx
  · rw [List.mem_singleton.mp hx]; exact Or.inr hq⟩
theorem gr0.tr {G : cG} {S0 S S2 : CS} {sz b : Nat} (h : gr0 S0 S sz) (g : cGr G S S2 b) (hb : sz ≤ b) : gr0 S0 S2 sz := ⟨fun x hx => g.1 x (h.1 x hx), fun x hx => by
  rcases g.2.1 x hx with hx | hx
  · exact h.2 x hx
  · exact Or.inr (Nat.le_trans hb hx)⟩
section NVV
variable {p : Program} {l : Launch} {e : Env} {R : Room} {s : State} {m : MethodId} {args : Array Value} {below : List Frame} {meth : Method} {c : Code} {H : Heap} {locs : List Loc} {Q : State → Prop}
variable {pc : Nat} {ls : Array Slot} {rest st0 : List Value} {ws ws' Ts : List Cond} {cc bytes : ByteArray} {maxL nL index n sz h ce sl : Nat} {ret : Option FieldType} {own : String} {G : cG} {S0 S S2 : CS} {D D2 : CD} {y : MethodName} {rm : Room} {As av : List Value} {z : Nat × Nat}
/-- a method without makings called among makings -/
theorem n_VV {C : String} {T : u_T} {N ci a : Nat} {fs : List Value} (hC : cC own p s m args meth c Ts cc nL ret G S sz) (hP : va_P G.1 vwCl (cW G S D) H) (hS : va_S (cA G S sz) s.heap H locs) (hm : a ∈ S.1) (hE : cE G S D a = .inr (ci, fs)) (hc : vwCl[ci]? = some (C, T, N)) {ret' : Option FieldType} (hM : cMV l y ws rm G S (.ref a :: As) D D2) (cw : CallW R s args own C index y bytes maxL ret' ws rm 0 0 n) (hn : As.length = n) (hsize : ls.size = nL) (hst : st0 = As.reverse ++ .ref a :: rest) (hr8 : (rest.map fun v => v.category).sum ≤ 8) (hR : ce + 0 ≤ R.cells ∧ sl + 0 ≤ R.slots) (hdg : decode cc pc = .ok (.invokevirtual index, 3))
    (kk : ∀ (H1 : Heap) (locs1 : List Loc), va_P G.1 vwCl (cW G S D2) H1 → va_S (cA G S sz) s.heap H1 locs1 → W p l e R s m args below meth c H1 locs1 ce sl Q (F0 m (pc + 3) ls rest)) : W p l e R s m args below meth c H locs ce sl Q (F0 m pc ls st0) := by
  refine va_callv (va_runV (As := As) (rest := rest) (g := F0 m pc ls st0) (c_fix hC) (hM H.size) cw ⟨cBlind, c_rec hC hP hm hE hc, fun U hU hW => c_pre (av := .ref a :: As) hC hP U hU hW⟩ rfl hn hsize hst (lv_room hr8) hdg hR) hS (fun q _ h => c_sub hC hS q h) (c_sub hC hS) (fun u t H1 locs1 ht hvm hw hB hz1 hk1 hS1 => ?_)
  exact kk H1 locs1 (by rw [← ht]; exact hB.1) hS1
/-- the end of a maker that tells no size -/
theorem n_vretw {S0 : CS} {mc ms : Nat} {Rl : Nat → CS → CD → Prop} (hC : cC own p s m args meth c Ts cc nL none G S sz) (hP : va_P G.1 vwCl (cW G S D) H) (hS : va_S (cA G S sz) s.heap H locs) (hRl : Rl sz S D) (hg : gr0 S0 S sz) (hdg : decode cc pc = .ok (.return_, 1)) (hm : ce ≤ mc) (hs : sl ≤ ms) : W p l e R s m args below meth c H locs ce sl (MQ below (va_Qv (fun (u : CS × CD) => Rl sz u.1 u.2 ∧ cGr G S0 u.1 sz) (fun u t => cIs G u.1 u.2 t) (cA G S0 sz)) args s mc ms (cA G S0 sz)) (F0 m pc ls []) := by
  obtain ⟨hx, hb, hr, hts, hown, hlocks, hml, hK, hD, hsz, hN⟩ := hC
  have hS' := va_S.mono hS (cA_mono (S2 := S0) hg.2)
  exact W.widen hm hs (W.vret hx hb hr (fun t ht hW => ⟨⟨(S, D), rfl, ⟨hRl, hg.1, hg.2, fun D' => (cD_any D' (hD D)).weaken (fun _ _ _ _ => trivial)⟩, ⟨by rw [ht]; exact hP, va_K.moved hW.alike hK⟩⟩, hS'.F ht⟩) hS'.2.2 hdg hlocks)
end NVV
theorem dX6_init_0 : decode cX6_init 0 = .ok (.aload_n 0, 1) := by decide +kernel
theorem dX6_init_1 : decode cX6_init 1 = .ok (.invokespecial 3, 3) := by decide +kernel
theorem dX6_init_4 : decode cX6_init 4 = .ok (.aload_n 0, 1) := by decide +kernel
theorem dX6_init_5 : decode cX6_init 5 = .ok (.new 9, 3) := by decide +kernel
theorem dX6_init_8 : decode cX6_init 8 = .ok (.dup, 1) := by decide +kernel
theorem dX6_init_9 : decode cX6_init 9 = .ok (.invokespecial 11, 3) := by decide +kernel
theorem dX6_init_12 : decode cX6_init 12 = .ok (.putfield 12, 3) := by decide +kernel
theorem dX6_init_15 : decode cX6_init 15 = .ok (.aload_n 0, 1) := by decide +kernel
theorem dX6_init_16 : decode cX6_init 16 = .ok (.new 16, 3) := by decide +kernel
theorem dX6_init_19 : decode cX6_init 19 = .ok (.dup, 1) := by decide +kernel
theorem dX6_init_20 : decode cX6_init 20 = .ok (.iconst 0, 1) := by decide +kernel
theorem dX6_init_21 : decode cX6_init 21 = .ok (.iconst 0, 1) := by decide +kernel
theorem dX6_init_22 : decode cX6_init 22 = .ok (.iconst 0, 1) := by decide +kernel
theorem dX6_init_23 : decode cX6_init 23 = .ok (.iconst 0, 1) := by decide +kernel
theorem dX6_init_24 : decode cX6_init 24 = .ok (.invokespecial 18, 3) := by decide +kernel
theorem dX6_init_27 : decode cX6_init 27 = .ok (.putfield 21, 3) := by decide +kernel
theorem dX6_init_30 : decode cX6_init 30 = .ok (.aload_n 0, 1) := by decide +kernel
theorem dX6_init_31 : decode cX6_init 31 = .ok (.new 25, 3) := by decide +kernel
theorem dX6_init_34 : decode cX6_init 34 = .ok (.dup, 1) := by decide +kernel
theorem dX6_init_35 : decode cX6_init 35 = .ok (.invokespecial 27, 3) := by decide +kernel
theorem dX6_init_38 : decode cX6_init 38 = .ok (.putfield 28, 3) := by decide +kernel
theorem dX6_init_41 : decode cX6_init 41 = .ok (.aload_n 0, 1) := by decide +kernel
theorem dX6_init_42 : decode cX6_init 42 = .ok (.new 32, 3) := by decide +kernel
theorem dX6_init_45 : decode cX6_init 45 = .ok (.dup, 1) := by decide +kernel
theorem dX6_init_46 : decode cX6_init 46 = .ok (.invokespecial 34, 3) := by decide +kernel
theorem dX6_init_49 : decode cX6_init 49 = .ok (.putfield 35, 3) := by decide +kernel
theorem dX6_init_52 : decode cX6_init 52 = .ok (.aload_n 0, 1) := by decide +kernel
theorem dX6_init_53 : decode cX6_init 53 = .ok (.new 39, 3) := by decide +kernel
theorem dX6_init_56 : decode cX6_init 56 = .ok (.dup, 1) := by decide +kernel
theorem dX6_init_57 : decode cX6_init 57 = .ok (.invokespecial 41, 3) := by decide +kernel
theorem dX6_init_60 : decode cX6_init 60 = .ok (.putfield 42, 3) := by decide +kernel
theorem dX6_init_63 : decode cX6_init 63 = .ok (.aload_n 0, 1) := by decide +kernel
theorem dX6_init_64 : decode cX6_init 64 = .ok (.new 46, 3) := by decide +kernel
theorem dX6_init_67 : decode cX6_init 67 = .ok (.dup, 1) := by decide +kernel
theorem dX6_init_68 : decode cX6_init 68 = .ok (.bipush 12, 2) := by decide +kernel
theorem dX6_init_70 : decode cX6_init 70 = .ok (.invokespecial 48, 3) := by decide +kernel
theorem dX6_init_73 : decode cX6_init 73 = .ok (.putfield 51, 3) := by decide +kernel
theorem dX6_init_76 : decode cX6_init 76 = .ok (.aload_n 0, 1) := by decide +kernel
theorem dX6_init_77 : decode cX6_init 77 = .ok (.new 55, 3) := by decide +kernel
theorem dX6_init_80 : decode cX6_init 80 = .ok (.dup, 1) := by decide +kernel
theorem dX6_init_81 : decode cX6_init 81 = .ok (.invokespecial 57, 3) := by decide +kernel
theorem dX6_init_84 : decode cX6_init 84 = .ok (.putfield 58, 3) := by decide +kernel
theorem dX6_init_87 : decode cX6_init 87 = .ok (.aload_n 0, 1) := by decide +kernel
theorem dX6_init_88 : decode cX6_init 88 = .ok (.invokevirtual 62, 3) := by decide +kernel
theorem dX6_init_91 : decode cX6_init 91 = .ok (.return_, 1) := by decide +kernel
def wX6_init : List Cond := Cond.code yX6_init cX6_init 1 none :: WA
def sX6_1 (S : CS) (a0 sz e : Nat) : CS := sRef (sAdd S sz 7 0) sz 1 e
def sX6_2 (S : CS) (a0 sz e : Nat) : CS := sAdd (sRef (sX6_1 S a0 sz e) a0 0 sz) (sz + 1) 4 0
def sX6_3 (N : Nat) (S : CS) (a0 sz e : Nat) : CS := rX5_init N (sAdd (sRef (sX6_2 S a0 sz e) a0 1 (sz + 1)) (sz + 2) 5 0) (sz + 2) (sz + 3)
def sX6_4 (N : Nat) (S : CS) (a0 sz e : Nat) : CS := rX0_init (sAdd (sRef (sX6_3 N S a0 sz e) a0 2 (sz + 2)) (sz + 103) 0 0) (sz + 103) (sz + 104)
def sX6_5 (N : Nat) (S : CS) (a0 sz e : Nat) : CS := rX1_init (sAdd (sRef (sX6_4 N S a0 sz e) a0 3 (sz + 103)) (sz + 114) 1 0) (sz + 114) (sz + 115)
def sX6_6 (N : Nat) (S : CS) (a0 sz e : Nat) : CS := sRef (sAdd (sAdd (sRef (sX6_5 N S a0 sz e) a0 4 (sz + 114)) (sz + 119) 3 0) (sz + 120) 8 12) (sz + 119) 0 (sz + 120)
def sX6 (N : Nat) (S : CS) (a0 sz e : Nat) : CS := sRef (sAdd (sRef (sX6_6 N S a0 sz e) a0 5 (sz + 119)) (sz + 121) 2 0) a0 6 (sz + 121)
def dX6_1 (D : CD) (sz : Nat) : CD := cpF (dNew D sz) sz 0 0
def dX6_2 (D : CD) (sz : Nat) : CD := dSg (dNew (dX6_1 D sz) (sz + 1)) (sz + 1) 0 0 0 0
def dX6_3 (N : Nat) (D : CD) (sz : Nat) : CD := qX5_init N (dNew (dX6_2 D sz) (sz + 2)) (sz + 2) (sz + 3)
def dX6_4 (N : Nat) (D : CD) (sz : Nat) : CD := qX0_init (dNew (dX6_3 N D sz) (sz + 103)) (sz + 103) (sz + 104)
def dX6_5 (N : Nat) (D : CD) (sz : Nat) : CD := qX1_init (dNew (dX6_4 N D sz) (sz + 114)) (sz + 114) (sz + 115)
def dX6 (N : Nat) (D : CD) (sz : Nat) : CD := dPt (dNew (dNew (dNew (dX6_5 N D sz) (sz + 119)) (sz + 120)) (sz + 121)) (sz + 121)
set_option maxRecDepth 100000 in
set_option maxHeartbeats 4000000 in
theorem i_X6 (N : Nat) (hN : N = 90) (l : Launch) (G : cG) (F : Nat) (S : CS) (z : Nat × Nat) (D : CD) (a0 : Nat) (hm0 : a0 ∈ S.1) (hk0 : S.2.1 a0 = 6) (Rl : Nat → CS → CD → Prop) (hR : ∀ sz, a0 < sz → (z.1 ∉ S.1 ∧ z.1 < sz) → ∃ D2, f_X6_rebuild F (sX6 N S a0 sz z.1) (dX6 N D sz) a0 = some D2 ∧ Rl sz (sX6 N S a0 sz z.1) D2) : ∀ sz : Nat, Met l yX6_init wX6_init ({ frames := 8, cells := 122, slots := 2021, locals := 200 }) (cPz G sz S D z [.ref a0]) (va_Qv (fun (u : CS × CD) => Rl sz u.1 u.2 ∧ cGr G S u.1 sz) (fun u t => cIs G u.1 u.2 t) (cA G S sz)) 122 2021 (cA G S sz) := by
  refine cBodyKz (Qc := fun sz => (va_Qv (fun (u : CS × CD) => Rl sz u.1 u.2 ∧ cGr G S u.1 sz) (fun u t => cIs G u.1 u.2 t) (cA G S sz))) (cc := cX6_init) (maxL := 1) (ret := none) (own := RX6) (by decide) rfl rfl ?_
  intro sz p e s m below meth c hC hP hZ hname
  have hC0 := hC
  obtain ⟨hx, hb, -, hts, hown, -, hml, -, -, hz, -⟩ := hC0
  have hS : va_S (cA G S sz) s.heap s.heap [] := va_S.rf
  have hlt : a0 < sz := by rw [← hz]; exact cW_lt hP hm0
  have hin_X0 : ∀ w ∈ wsX00, w ∈ wX6_init := fun w h => List.mem_cons_of_mem _ (hWCA _ (hWC0 w h))
  have hin_X1 : ∀ w ∈ wsX10, w ∈ wX6_init := fun w h => List.mem_cons_of_mem _ (hWCA _ (hWC1 w h))
  have hin_X2 : ∀ w ∈ wsX20, w ∈ wX6_init := fun w h => List.mem_cons_of_mem _ (hWCA _ (hWC2 w h))
  have hin_X3 : ∀ w ∈ wsX30, w ∈ wX6_init := fun w h => List.mem_cons_of_mem _ (hWCA _ (hWC3 w h))
  have hin_X4 : ∀ w ∈ wsX40, w ∈ wX6_init := fun w h => List.mem_cons_of_mem _ (hWCA _ (hWC4 w h))
  have hin_X5 : ∀ w ∈ wsX50, w ∈ wX6_init := fun w h => List.mem_cons_of_mem _ (hWCA _ (hWC5 w h))
  have hin_X6 : ∀ w ∈ wsX60, w ∈ wX6_init := fun w h => List.mem_cons_of_mem _ (hWCA _ (hWC6 w h))
  have hin_Jx4a65c : ∀ w ∈ wsJx4a65c0, w ∈ wX6_init := fun w h => List.mem_cons_of_mem _ (hWCA _ (hWC7 w h))
  have hG : gr0 S S sz := gr0.rfl
  have hze : z.1 ∉ S.1 ∧ z.1 < sz := by
    have h9 := va_T.out hZ.2.1
    rw [cA_mem] at h9
    exact ⟨fun w => h9 (Or.inl w), Nat.lt_of_not_le (fun w => h9 (Or.inr w))⟩
  obtain ⟨DD, hf, hRl0⟩ := hR sz hlt hze
  refine m_entry (Nat.le_of_ble_eq_true rfl) (fun ls hl => ?_)
  have hl : lv_has ls 1 [(0, .ref a0)] := hl
  refine lv_aload_n hx hb dX6_init_0 rfl (lv_at hl 0 rfl) ?_
  refine n_objInit hC (hts _ (List.mem_cons_of_mem _ wa_28)) (hts _ (List.mem_cons_of_mem _ wa_2)) (hts _ (List.mem_cons_of_mem _ wa_3)) hl.1 dX6_init_1 ⟨Nat.le_of_ble_eq_true rfl, Nat.le_of_ble_eq_true rfl⟩ ?_
  refine lv_aload_n hx hb dX6_init_4 rfl (lv_at hl 0 rfl) ?_
  refine n_obj (C := RJx4a65c) (T := TJx4a65c) (N := 3) (ci := 0) (kd := 7) (h := sz) hC hP hS hz hin_Jx4a65c tyJx4a65c tyJx4a65c_ok (hts _ (List.mem_cons_of_mem _ wa_29)) (hts _ (List.mem_cons_of_mem _ wa_30)) (hts _ (List.mem_cons_of_mem _ (hWCA _ wc_7))) rfl (cnew_7 G _ _ _) cdef_7 (Nat.le_of_ble_eq_true rfl) (Nat.le_of_ble_eq_true rfl) dX6_init_5 (fun H hP hz hS hC => ?_)
  obtain ⟨S1, eS1⟩ : ∃ x, x = sAdd S sz 7 0 := ⟨_, rfl⟩
  rw [← eS1] at hP hS hC
  have hG : gr0 S S1 sz := by rw [eS1]; exact gr0.add hG (Nat.le_refl _)
  obtain ⟨D2, eD2⟩ : ∃ x, x = dNew D sz := ⟨_, rfl⟩
  rw [← eD2] at hP
  have hm0 : a0 ∈ S1.1 := by rw [eS1]; exact List.mem_append_left _ hm0
  have hk0 : S1.2.1 a0 = 6 := by rw [eS1]; exact (va_up_ne _ _ (Nat.ne_of_lt hlt)).trans hk0
  have hz : H.size = (sz + 1) := hz
  refine lv_dup hx hb dX6_init_8 rfl ?_
  refine n_initz (As := []) (rest := [.ref sz, .ref a0]) (h := (sz + 1)) hC hP hS hz hZ hG.2 (i_J7 l G _ z _ sz (by rw [eS1]; exact List.mem_append_right _ (List.mem_singleton.mpr rfl)) (by rw [eS1]; exact va_up_self _ _ _)) (cwI 0 hts (gIA wa_43 (fun w h => h)) rfl rfl rfl (hts _ (List.mem_cons_of_mem _ (hWCA _ wc_7))) (hts _ (List.mem_cons_of_mem _ wa_41)) (hts _ (List.mem_cons_of_mem _ wa_42)) rfl (by decide +kernel) ⟨Nat.le_of_ble_eq_true rfl, Nat.le_of_ble_eq_true rfl⟩) rfl hl.1 rfl (Nat.le_of_ble_eq_true rfl) ⟨Nat.le_of_ble_eq_true rfl, Nat.le_of_ble_eq_true rfl⟩ dX6_init_9 (fun S2 D2 H locs hRl hGr hP hz hS hC => ?_)
  have hz : H.size = (sz + 1) := hz
  have hS2 := hRl.1
  have hD2 := hRl.2
  obtain ⟨S3, eS3⟩ : ∃ x, x = S2 := ⟨_, rfl⟩
  rw [← eS3] at hP hS hC hS2 hGr
  have eS3 := hS2
  obtain ⟨D4, eD4⟩ : ∃ x, x = D2 := ⟨_, rfl⟩
  rw [← eD4] at hP hD2
  have eD4 := hD2
  have hG : gr0 S S3 sz := gr0.tr hG hGr (Nat.le_add_right _ _)
  have hm0 : a0 ∈ S3.1 := by rw [eS3]; exact hm0
  have hk0 : S3.2.1 a0 = 6 := by rw [eS3]; exact hk0
  refine n_put (C := RX6) (T := TX6) (N := 8) (ref := "SegmentMap") (ci := 7) (S2 := sRef S3 a0 0 sz) (D2 := D4) hC hin_X6 tyX6 tyX6_ok nmX6 hP hS hz hm0 (cE_6 hk0) rfl 0 (by decide) (hts _ (List.mem_cons_of_mem _ (hWCA _ wc_3))) rfl (Or.inr ⟨rfl, hname, rfl⟩) (ty := (.object "java/util/ArrayList")) (by decide +kernel) rfl rfl (Nat.le_of_ble_eq_true rfl) rfl (csi_6_0 G hk0 _) (cne_R G) dX6_init_12 (fun H locs hP hz hS hC => ?_)
  obtain ⟨S5, eS5⟩ : ∃ x, x = sRef S3 a0 0 sz := ⟨_, rfl⟩
  rw [← eS5] at hP hS hC
  have hG : gr0 S S5 sz := by rw [eS5]; exact hG
  have hm0 : a0 ∈ S5.1 := by rw [eS5]; exact hm0
  have hk0 : S5.2.1 a0 = 6 := by rw [eS5]; exact hk0
  refine lv_aload_n hx hb dX6_init_15 rfl (lv_at hl 0 rfl) ?_
  refine n_obj (C := RX4) (T := TX4) (N := 6) (ci := 5) (kd := 4) (h := (sz + 1)) hC hP hS hz hin_X4 tyX4 tyX4_ok (hts _ (List.mem_cons_of_mem _ wa_31)) (hts _ (List.mem_cons_of_mem _ wa_32)) (hts _ (List.mem_cons_of_mem _ (hWCA _ wc_48))) rfl (cnew_4 G _ _ _) cdef_4 (Nat.le_of_ble_eq_true rfl) (Nat.le_of_ble_eq_true rfl) dX6_init_16 (fun H hP hz hS hC => ?_)
  obtain ⟨S6, eS6⟩ : ∃ x, x = sAdd S5 (sz + 1) 4 0 := ⟨_, rfl⟩
  rw [← eS6] at hP hS hC
  have hG : gr0 S S6 sz := by rw [eS6]; exact gr0.add hG (Nat.le_add_right _ _)
  obtain ⟨D7, eD7⟩ : ∃ x, x = dNew D4 (sz + 1) := ⟨_, rfl⟩
  rw [← eD7] at hP
  have hm0 : a0 ∈ S6.1 := by rw [eS6]; exact List.mem_append_left _ hm0
  have hk0 : S6.2.1 a0 = 6 := by rw [eS6]; exact (va_up_ne _ _ (Nat.ne_of_lt (Nat.lt_of_lt_of_le hlt (Nat.le_add_right _ _)))).trans hk0
  have hz : H.size = (sz + 2) := hz
  refine lv_dup hx hb dX6_init_19 rfl ?_
  refine lv_iconst (v := 0) hx hb dX6_init_20 (by decide) ?_
  refine lv_iconst (v := 0) hx hb dX6_init_21 (by decide) ?_
  refine lv_iconst (v := 0) hx hb dX6_init_22 (by decide) ?_
  refine lv_iconst (v := 0) hx hb dX6_init_23 (by decide) ?_
  refine n_init (As := [.int 0, .int 0, .int 0, .int 0]) (rest := [.ref ((sz + 1)), .ref a0]) (h := (sz + 2)) hC hP hS hz (i_X4 l G _ _ ((sz + 1)) (by rw [eS6]; exact List.mem_append_right _ (List.mem_singleton.mpr rfl)) (by rw [eS6]; exact va_up_self _ _ _) 0 0 0 0) (cwI 4 hts (gIA wa_18 (fun w h => h)) rfl rfl rfl (hts _ (List.mem_cons_of_mem _ (hWCA _ wc_48))) (hts _ (List.mem_cons_of_mem _ wa_55)) (hts _ (List.mem_cons_of_mem _ wa_56)) rfl (by decide +kernel) ⟨Nat.le_of_ble_eq_true rfl, Nat.le_of_ble_eq_true rfl⟩) rfl hl.1 rfl (Nat.le_of_ble_eq_true rfl) ⟨Nat.le_of_ble_eq_true rfl, Nat.le_of_ble_eq_true rfl⟩ dX6_init_24 (fun S2 D2 H locs hRl hGr hP hz hS hC => ?_)
  have hz : H.size = (sz + 2) := hz
  have hS2 := hRl.1
  have hD2 := hRl.2
  obtain ⟨S8, eS8⟩ : ∃ x, x = S2 := ⟨_, rfl⟩
  rw [← eS8] at hP hS hC hS2 hGr
  have eS8 := hS2
  obtain ⟨D9, eD9⟩ : ∃ x, x = D2 := ⟨_, rfl⟩
  rw [← eD9] at hP hD2
  have eD9 := hD2
  have hG : gr0 S S8 sz := gr0.tr hG hGr (Nat.le_add_right _ _)
  have hm0 : a0 ∈ S8.1 := by rw [eS8]; exact hm0
  have hk0 : S8.2.1 a0 = 6 := by rw [eS8]; exact hk0
  refine n_put (C := RX6) (T := TX6) (N := 8) (ref := "SegmentMap") (ci := 7) (S2 := sRef S8 a0 1 ((sz + 1))) (D2 := D9) hC hin_X6 tyX6 tyX6_ok nmX6 hP hS hz hm0 (cE_6 hk0) rfl 1 (by decide) (hts _ (List.mem_cons_of_mem _ (hWCA _ wc_25))) rfl (Or.inr ⟨rfl, hname, rfl⟩) (ty := (.object "SegmentMap$Segment")) (by decide +kernel) rfl rfl (Nat.le_of_ble_eq_true rfl) rfl (csi_6_1 G hk0 _) (cne_R G) dX6_init_27 (fun H locs hP hz hS hC => ?_)
  obtain ⟨S10, eS10⟩ : ∃ x, x = sRef S8 a0 1 ((sz + 1)) := ⟨_, rfl⟩
  rw [← eS10] at hP hS hC
  have hG : gr0 S S10 sz := by rw [eS10]; exact hG
  have hm0 : a0 ∈ S10.1 := by rw [eS10]; exact hm0
  have hk0 : S10.2.1 a0 = 6 := by rw [eS10]; exact hk0
  refine lv_aload_n hx hb dX6_init_30 rfl (lv_at hl 0 rfl) ?_
  refine n_obj (C := RX5) (T := TX5) (N := 7) (ci := 6) (kd := 5) (h := (sz + 2)) hC hP hS hz hin_X5 tyX5 tyX5_ok (hts _ (List.mem_cons_of_mem _ wa_33)) (hts _ (List.mem_cons_of_mem _ wa_34)) (hts _ (List.mem_cons_of_mem _ (hWCA _ wc_92))) rfl (cnew_5 G _ _ _) cdef_5 (Nat.le_of_ble_eq_true rfl) (Nat.le_of_ble_eq_true rfl) dX6_init_31 (fun H hP hz hS hC => ?_)
  obtain ⟨S11, eS11⟩ : ∃ x, x = sAdd S10 (sz + 2) 5 0 := ⟨_, rfl⟩
  rw [← eS11] at hP hS hC
  have hG : gr0 S S11 sz := by rw [eS11]; exact gr0.add hG (Nat.le_add_right _ _)
  obtain ⟨D12, eD12⟩ : ∃ x, x = dNew D9 (sz + 2) := ⟨_, rfl⟩
  rw [← eD12] at hP
  have hm0 : a0 ∈ S11.1 := by rw [eS11]; exact List.mem_append_left _ hm0
  have hk0 : S11.2.1 a0 = 6 := by rw [eS11]; exact (va_up_ne _ _ (Nat.ne_of_lt (Nat.lt_of_lt_of_le hlt (Nat.le_add_right _ _)))).trans hk0
  have hz : H.size = (sz + 3) := hz
  refine lv_dup hx hb dX6_init_34 rfl ?_
  refine n_initz (As := []) (rest := [.ref ((sz + 2)), .ref a0]) (h := (sz + 3)) hC hP hS hz hZ hG.2 (i_X5 N hN l G _ z _ ((sz + 2)) (by rw [eS11]; exact List.mem_append_right _ (List.mem_singleton.mpr rfl)) (by rw [eS11]; exact va_up_self _ _ _)) (cwI 0 hts (gIA wa_20 (fun w h => h)) rfl rfl rfl (hts _ (List.mem_cons_of_mem _ (hWCA _ wc_92))) (hts _ (List.mem_cons_of_mem _ wa_57)) (hts _ (List.mem_cons_of_mem _ wa_58)) rfl (by decide +kernel) ⟨Nat.le_of_ble_eq_true rfl, Nat.le_of_ble_eq_true rfl⟩) rfl hl.1 rfl (Nat.le_of_ble_eq_true rfl) ⟨Nat.le_of_ble_eq_true rfl, Nat.le_of_ble_eq_true rfl⟩ dX6_init_35 (fun S2 D2 H locs hRl hGr hP hz hS hC => ?_)
  have hz : H.size = (sz + 103) := hz
  have hS2 := hRl.1
  have hD2 := hRl.2
  obtain ⟨S13, eS13⟩ : ∃ x, x = S2 := ⟨_, rfl⟩
  rw [← eS13] at hP hS hC hS2 hGr
  have eS13 := hS2
  obtain ⟨D14, eD14⟩ : ∃ x, x = D2 := ⟨_, rfl⟩
  rw [← eD14] at hP hD2
  have eD14 := hD2
  have hG : gr0 S S13 sz := gr0.tr hG hGr (Nat.le_add_right _ _)
  have hm0 : a0 ∈ S13.1 := by rw [eS13]; exact rX5_sub hm0
  have hk0 : S13.2.1 a0 = 6 := by rw [eS13]; exact (rX5_old N _ _ _ a0 (Nat.lt_of_lt_of_le hlt (Nat.le_add_right _ _))).1.trans hk0
  refine n_put (C := RX6) (T := TX6) (N := 8) (ref := "SegmentMap") (ci := 7) (S2 := sRef S13 a0 2 ((sz + 2))) (D2 := D14) hC hin_X6 tyX6 tyX6_ok nmX6 hP hS hz hm0 (cE_6 hk0) rfl 2 (by decide) (hts _ (List.mem_cons_of_mem _ (hWCA _ wc_74))) rfl (Or.inr ⟨rfl, hname, rfl⟩) (ty := (.object "SegmentMap$Vertices")) (by decide +kernel) rfl rfl (Nat.le_of_ble_eq_true rfl) rfl (csi_6_2 G hk0 _) (cne_R G) dX6_init_38 (fun H locs hP hz hS hC => ?_)
  obtain ⟨S15, eS15⟩ : ∃ x, x = sRef S13 a0 2 ((sz + 2)) := ⟨_, rfl⟩
  rw [← eS15] at hP hS hC
  have hG : gr0 S S15 sz := by rw [eS15]; exact hG
  have hm0 : a0 ∈ S15.1 := by rw [eS15]; exact hm0
  have hk0 : S15.2.1 a0 = 6 := by rw [eS15]; exact hk0
  refine lv_aload_n hx hb dX6_init_41 rfl (lv_at hl 0 rfl) ?_
  refine n_obj (C := RX0) (T := TX0) (N := 6) (ci := 1) (kd := 0) (h := (sz + 103)) hC hP hS hz hin_X0 tyX0 tyX0_ok (hts _ (List.mem_cons_of_mem _ wa_35)) (hts _ (List.mem_cons_of_mem _ wa_36)) (hts _ (List.mem_cons_of_mem _ (hWCA _ wc_253))) rfl (cnew_0 G _ _ _) cdef_0 (Nat.le_of_ble_eq_true rfl) (Nat.le_of_ble_eq_true rfl) dX6_init_42 (fun H hP hz hS hC => ?_)
  obtain ⟨S16, eS16⟩ : ∃ x, x = sAdd S15 (sz + 103) 0 0 := ⟨_, rfl⟩
  rw [← eS16] at hP hS hC
  have hG : gr0 S S16 sz := by rw [eS16]; exact gr0.add hG (Nat.le_add_right _ _)
  obtain ⟨D17, eD17⟩ : ∃ x, x = dNew D14 (sz + 103) := ⟨_, rfl⟩
  rw [← eD17] at hP
  have hm0 : a0 ∈ S16.1 := by rw [eS16]; exact List.mem_append_left _ hm0
  have hk0 : S16.2.1 a0 = 6 := by rw [eS16]; exact (va_up_ne _ _ (Nat.ne_of_lt (Nat.lt_of_lt_of_le hlt (Nat.le_add_right _ _)))).trans hk0
  have hz : H.size = (sz + 104) := hz
  refine lv_dup hx hb dX6_init_45 rfl ?_
  refine n_init (As := []) (rest := [.ref ((sz + 103)), .ref a0]) (h := (sz + 104)) hC hP hS hz (i_X0 l G _ _ ((sz + 103)) (by rw [eS16]; exact List.mem_append_right _ (List.mem_singleton.mpr rfl)) (by rw [eS16]; exact va_up_self _ _ _)) (cwI 0 hts (gIA wa_5 (fun w h => h)) rfl rfl rfl (hts _ (List.mem_cons_of_mem _ (hWCA _ wc_253))) (hts _ (List.mem_cons_of_mem _ wa_59)) (hts _ (List.mem_cons_of_mem _ wa_60)) rfl (by decide +kernel) ⟨Nat.le_of_ble_eq_true rfl, Nat.le_of_ble_eq_true rfl⟩) rfl hl.1 rfl (Nat.le_of_ble_eq_true rfl) ⟨Nat.le_of_ble_eq_true rfl, Nat.le_of_ble_eq_true rfl⟩ dX6_init_46 (fun S2 D2 H locs hRl hGr hP hz hS hC => ?_)
  have hz : H.size = (sz + 114) := hz
  have hS2 := hRl.1
  have hD2 := hRl.2
  obtain ⟨S18, eS18⟩ : ∃ x, x = S2 := ⟨_, rfl⟩
  rw [← eS18] at hP hS hC hS2 hGr
  have eS18 := hS2
  obtain ⟨D19, eD19⟩ : ∃ x, x = D2 := ⟨_, rfl⟩
  rw [← eD19] at hP hD2
  have eD19 := hD2
  have hG : gr0 S S18 sz := gr0.tr hG hGr (Nat.le_add_right _ _)
  have hm0 : a0 ∈ S18.1 := by rw [eS18]; exact rX0_sub hm0
  have hk0 : S18.2.1 a0 = 6 := by rw [eS18]; exact (rX0_old _ _ _ a0 (Nat.lt_of_lt_of_le hlt (Nat.le_add_right _ _))).1.trans hk0
  refine n_put (C := RX6) (T := TX6) (N := 8) (ref := "SegmentMap") (ci := 7) (S2 := sRef S18 a0 3 ((sz + 103))) (D2 := D19) hC hin_X6 tyX6 tyX6_ok nmX6 hP hS hz hm0 (cE_6 hk0) rfl 3 (by decide) (hts _ (List.mem_cons_of_mem _ (hWCA _ wc_76))) rfl (Or.inr ⟨rfl, hname, rfl⟩) (ty := (.object "SegmentMap$Edges")) (by decide +kernel) rfl rfl (Nat.le_of_ble_eq_true rfl) rfl (csi_6_3 G hk0 _) (cne_R G) dX6_init_49 (fun H locs hP hz hS hC => ?_)
  obtain ⟨S20, eS20⟩ : ∃ x, x = sRef S18 a0 3 ((sz + 103)) := ⟨_, rfl⟩
  rw [← eS20] at hP hS hC
  have hG : gr0 S S20 sz := by rw [eS20]; exact hG
  have hm0 : a0 ∈ S20.1 := by rw [eS20]; exact hm0
  have hk0 : S20.2.1 a0 = 6 := by rw [eS20]; exact hk0
  refine lv_aload_n hx hb dX6_init_52 rfl (lv_at hl 0 rfl) ?_
  refine n_obj (C := RX1) (T := TX1) (N := 3) (ci := 2) (kd := 1) (h := (sz + 114)) hC hP hS hz hin_X1 tyX1 tyX1_ok (hts _ (List.mem_cons_of_mem _ wa_37)) (hts _ (List.mem_cons_of_mem _ wa_38)) (hts _ (List.mem_cons_of_mem _ (hWCA _ wc_295))) rfl (cnew_1 G _ _ _) cdef_1 (Nat.le_of_ble_eq_true rfl) (Nat.le_of_ble_eq_true rfl) dX6_init_53 (fun H hP hz hS hC => ?_)
  obtain ⟨S21, eS21⟩ : ∃ x, x = sAdd S20 (sz + 114) 1 0 := ⟨_, rfl⟩
  rw [← eS21] at hP hS hC
  have hG : gr0 S S21 sz := by rw [eS21]; exact gr0.add hG (Nat.le_add_right _ _)
  obtain ⟨D22, eD22⟩ : ∃ x, x = dNew D19 (sz + 114) := ⟨_, rfl⟩
  rw [← eD22] at hP
  have hm0 : a0 ∈ S21.1 := by rw [eS21]; exact List.mem_append_left _ hm0
  have hk0 : S21.2.1 a0 = 6 := by rw [eS21]; exact (va_up_ne _ _ (Nat.ne_of_lt (Nat.lt_of_lt_of_le hlt (Nat.le_add_right _ _)))).trans hk0
  have hz : H.size = (sz + 115) := hz
  refine lv_dup hx hb dX6_init_56 rfl ?_
  refine n_init (As := []) (rest := [.ref ((sz + 114)), .ref a0]) (h := (sz + 115)) hC hP hS hz (i_X1 l G _ _ ((sz + 114)) (by rw [eS21]; exact List.mem_append_right _ (List.mem_singleton.mpr rfl)) (by rw [eS21]; exact va_up_self _ _ _)) (cwI 0 hts (gIA wa_12 (fun w h => h)) rfl rfl rfl (hts _ (List.mem_cons_of_mem _ (hWCA _ wc_295))) (hts _ (List.mem_cons_of_mem _ wa_61)) (hts _ (List.mem_cons_of_mem _ wa_62)) rfl (by decide +kernel) ⟨Nat.le_of_ble_eq_true rfl, Nat.le_of_ble_eq_true rfl⟩) rfl hl.1 rfl (Nat.le_of_ble_eq_true rfl) ⟨Nat.le_of_ble_eq_true rfl, Nat.le_of_ble_eq_true rfl⟩ dX6_init_57 (fun S2 D2 H locs hRl hGr hP hz hS hC => ?_)
  have hz : H.size = (sz + 119) := hz
  have hS2 := hRl.1
  have hD2 := hRl.2
  obtain ⟨S23, eS23⟩ : ∃ x, x = S2 := ⟨_, rfl⟩
  rw [← eS23] at hP hS hC hS2 hGr
  have eS23 := hS2
  obtain ⟨D24, eD24⟩ : ∃ x, x = D2 := ⟨_, rfl⟩
  rw [← eD24] at hP hD2
  have eD24 := hD2
  have hG : gr0 S S23 sz := gr0.tr hG hGr (Nat.le_add_right _ _)
  have hm0 : a0 ∈ S23.1 := by rw [eS23]; exact rX1_sub hm0
  have hk0 : S23.2.1 a0 = 6 := by rw [eS23]; exact (rX1_old _ _ _ a0 (Nat.lt_of_lt_of_le hlt (Nat.le_add_right _ _))).1.trans hk0
  refine n_put (C := RX6) (T := TX6) (N := 8) (ref := "SegmentMap") (ci := 7) (S2 := sRef S23 a0 4 ((sz + 114))) (D2 := D24) hC hin_X6 tyX6 tyX6_ok nmX6 hP hS hz hm0 (cE_6 hk0) rfl 4 (by decide) (hts _ (List.mem_cons_of_mem _ (hWCA _ wc_78))) rfl (Or.inr ⟨rfl, hname, rfl⟩) (ty := (.object "SegmentMap$Faces")) (by decide +kernel) rfl rfl (Nat.le_of_ble_eq_true rfl) rfl (csi_6_4 G hk0 _) (cne_R G) dX6_init_60 (fun H locs hP hz hS hC => ?_)
  obtain ⟨S25, eS25⟩ : ∃ x, x = sRef S23 a0 4 ((sz + 114)) := ⟨_, rfl⟩
  rw [← eS25] at hP hS hC
  have hG : gr0 S S25 sz := by rw [eS25]; exact hG
  have hm0 : a0 ∈ S25.1 := by rw [eS25]; exact hm0
  have hk0 : S25.2.1 a0 = 6 := by rw [eS25]; exact hk0
  refine lv_aload_n hx hb dX6_init_63 rfl (lv_at hl 0 rfl) ?_
  refine n_obj (C := RX3) (T := TX3) (N := 1) (ci := 4) (kd := 3) (h := (sz + 119)) hC hP hS hz hin_X3 tyX3 tyX3_ok (hts _ (List.mem_cons_of_mem _ wa_39)) (hts _ (List.mem_cons_of_mem _ wa_8)) (hts _ (List.mem_cons_of_mem _ (hWCA _ wc_102))) rfl (cnew_3 G _ _ _) cdef_3 (Nat.le_of_ble_eq_true rfl) (Nat.le_of_ble_eq_true rfl) dX6_init_64 (fun H hP hz hS hC => ?_)
  obtain ⟨S26, eS26⟩ : ∃ x, x = sAdd S25 (sz + 119) 3 0 := ⟨_, rfl⟩
  rw [← eS26] at hP hS hC
  have hG : gr0 S S26 sz := by rw [eS26]; exact gr0.add hG (Nat.le_add_right _ _)
  obtain ⟨D27, eD27⟩ : ∃ x, x = dNew D24 (sz + 119) := ⟨_, rfl⟩
  rw [← eD27] at hP
  have hm0 : a0 ∈ S26.1 := by rw [eS26]; exact List.mem_append_left _ hm0
  have hk0 : S26.2.1 a0 = 6 := by rw [eS26]; exact (va_up_ne _ _ (Nat.ne_of_lt (Nat.lt_of_lt_of_le hlt (Nat.le_add_right _ _)))).trans hk0
  have hz : H.size = (sz + 120) := hz
  refine lv_dup hx hb dX6_init_67 rfl ?_
  refine lv_bipush (v := 12) hx hb dX6_init_68 (by decide) ?_
  refine n_init (As := [.int 12]) (rest := [.ref ((sz + 119)), .ref a0]) (h := (sz + 120)) hC hP hS hz (i_X3 l G _ _ ((sz + 119)) (by rw [eS26]; exact List.mem_append_right _ (List.mem_singleton.mpr rfl)) (by rw [eS26]; exact va_up_self _ _ _) (n := 12) (N := 12) (by decide) (by decide) (Nat.le_of_ble_eq_true rfl)) (cwI 1 hts (gIA wa_0 (fun w h => h)) rfl rfl rfl (hts _ (List.mem_cons_of_mem _ (hWCA _ wc_102))) (hts _ (List.mem_cons_of_mem _ wa_63)) (hts _ (List.mem_cons_of_mem _ wa_11)) rfl (by decide +kernel) ⟨Nat.le_of_ble_eq_true rfl, Nat.le_of_ble_eq_true rfl⟩) rfl hl.1 rfl (Nat.le_of_ble_eq_true rfl) ⟨Nat.le_of_ble_eq_true rfl, Nat.le_of_ble_eq_true rfl⟩ dX6_init_70 (fun S2 D2 H locs hRl hGr hP hz hS hC => ?_)
  have hz : H.size = (sz + 121) := hz
  have hS2 := hRl.1
  have hD2 := hRl.2
  obtain ⟨S28, eS28⟩ : ∃ x, x = S2 := ⟨_, rfl⟩
  rw [← eS28] at hP hS hC hS2 hGr
  have eS28 := hS2
  obtain ⟨D29, eD29⟩ : ∃ x, x = D2 := ⟨_, rfl⟩
  rw [← eD29] at hP hD2
  have eD29 := hD2
  have hG : gr0 S S28 sz := gr0.tr hG hGr (Nat.le_add_right _ _)
  have hm0 : a0 ∈ S28.1 := by rw [eS28]; exact List.mem_append_left _ hm0
  have hk0 : S28.2.1 a0 = 6 := by rw [eS28]; exact (va_up_ne _ _ (Nat.ne_of_lt (Nat.lt_of_lt_of_le hlt (Nat.le_add_right _ _)))).trans hk0
  refine n_put (C := RX6) (T := TX6) (N := 8) (ref := "SegmentMap") (ci := 7) (S2 := sRef S28 a0 5 ((sz + 119))) (D2 := D29) hC hin_X6 tyX6 tyX6_ok nmX6 hP hS hz hm0 (cE_6 hk0) rfl 5 (by decide) (hts _ (List.mem_cons_of_mem _ (hWCA _ wc_258))) rfl (Or.inr ⟨rfl, hname, rfl⟩) (ty := (.object "SegmentMap$Row")) (by decide +kernel) rfl rfl (Nat.le_of_ble_eq_true rfl) rfl (csi_6_5 G hk0 _) (cne_R G) dX6_init_73 (fun H locs hP hz hS hC => ?_)
  obtain ⟨S30, eS30⟩ : ∃ x, x = sRef S28 a0 5 ((sz + 119)) := ⟨_, rfl⟩
  rw [← eS30] at hP hS hC
  have hG : gr0 S S30 sz := by rw [eS30]; exact hG
  have hm0 : a0 ∈ S30.1 := by rw [eS30]; exact hm0
  have hk0 : S30.2.1 a0 = 6 := by rw [eS30]; exact hk0
  refine lv_aload_n hx hb dX6_init_76 rfl (lv_at hl 0 rfl) ?_
  refine n_obj (C := RX2) (T := TX2) (N := 4) (ci := 3) (kd := 2) (h := (sz + 121)) hC hP hS hz hin_X2 tyX2 tyX2_ok (hts _ (List.mem_cons_of_mem _ wa_40)) (hts _ (List.mem_cons_of_mem _ wa_23)) (hts _ (List.mem_cons_of_mem _ (hWCA _ wc_131))) rfl (cnew_2 G _ _ _) cdef_2 (Nat.le_of_ble_eq_true rfl) (Nat.le_of_ble_eq_true rfl) dX6_init_77 (fun H hP hz hS hC => ?_)
  obtain ⟨S31, eS31⟩ : ∃ x, x = sAdd S30 (sz + 121) 2 0 := ⟨_, rfl⟩
  rw [← eS31] at hP hS hC
  have hG : gr0 S S31 sz := by rw [eS31]; exact gr0.add hG (Nat.le_add_right _ _)
  obtain ⟨D32, eD32⟩ : ∃ x, x = dNew D29 (sz + 121) := ⟨_, rfl⟩
  rw [← eD32] at hP
  have hm0 : a0 ∈ S31.1 := by rw [eS31]; exact List.mem_append_left _ hm0
  have hk0 : S31.2.1 a0 = 6 := by rw [eS31]; exact (va_up_ne _ _ (Nat.ne_of_lt (Nat.lt_of_lt_of_le hlt (Nat.le_add_right _ _)))).trans hk0
  have hz : H.size = (sz + 122) := hz
  refine lv_dup hx hb dX6_init_80 rfl ?_
  refine n_initN (As := []) (rest := [.ref ((sz + 121)), .ref a0]) (h := (sz + 122)) hC hP hS hz (i_X2 l G _ _ ((sz + 121)) (by first | (rw [eS31]; exact List.mem_append_right _ (List.mem_singleton.mpr rfl))) (by first | (rw [eS31]; exact va_up_self _ _ _))) ⟨va_cnB 0 hts (gIA wa_16 (fun w h => h)) rfl rfl rfl hZ.2.2.2.2.2.2.2.2 (hts _ (List.mem_cons_of_mem _ (hWCA _ wc_131))) (by decide +kernel) ⟨Nat.le_of_ble_eq_true rfl, Nat.le_of_ble_eq_true rfl⟩, rfl, hts _ (List.mem_cons_of_mem _ wa_25)⟩ rfl hl.1 rfl (Nat.le_of_ble_eq_true rfl) ⟨Nat.le_of_ble_eq_true rfl, Nat.le_of_ble_eq_true rfl⟩ dX6_init_81 (fun S2 D2 H locs hRl hGr hP hz hS hC => ?_)
  have hz : H.size = (sz + 122) := hz
  have hS2 := hRl.1
  have hD2 := hRl.2
  rw [hS2] at hP hS hC
  obtain ⟨D33, eD33⟩ : ∃ x, x = D2 := ⟨_, rfl⟩
  rw [← eD33] at hP hD2
  have eD33 := hD2
  refine n_put (C := RX6) (T := TX6) (N := 8) (ref := "SegmentMap") (ci := 7) (S2 := sRef S31 a0 6 ((sz + 121))) (D2 := D33) hC hin_X6 tyX6 tyX6_ok nmX6 hP hS hz hm0 (cE_6 hk0) rfl 6 (by decide) (hts _ (List.mem_cons_of_mem _ (hWCA _ wc_169))) rfl (Or.inr ⟨rfl, hname, rfl⟩) (ty := (.object "SegmentMap$Point")) (by decide +kernel) rfl rfl (Nat.le_of_ble_eq_true rfl) rfl (csi_6_6 G hk0 _) (cne_R G) dX6_init_84 (fun H locs hP hz hS hC => ?_)
  obtain ⟨S34, eS34⟩ : ∃ x, x = sRef S31 a0 6 ((sz + 121)) := ⟨_, rfl⟩
  rw [← eS34] at hP hS hC
  have hG : gr0 S S34 sz := by rw [eS34]; exact hG
  have hm0 : a0 ∈ S34.1 := by rw [eS34]; exact hm0
  have hk0 : S34.2.1 a0 = 6 := by rw [eS34]; exact hk0
  refine lv_aload_n hx hb dX6_init_87 rfl (lv_at hl 0 rfl) ?_
  have fS : S34 = sX6 N S a0 sz z.1 := by subst eS34 eS31 eS30 eS28 eS26 eS25 eS23 eS21 eS20 eS18 eS16 eS15 eS13 eS11 eS10 eS8 eS6 eS5 eS3 eS1; rfl
  have fD : D33 = dX6 N D sz := by subst eD33 eD32 eD29 eD27 eD24 eD22 eD19 eD17 eD14 eD12 eD9 eD7 eD4 eD2; rfl
  rw [← fS, ← fD] at hf
  rw [← fS] at hRl0
  refine n_VV (As := []) (rest := []) hC hP hS hm0 (cE_6 hk0) (C := RX6) (T := TX6) (N := 8) rfl (m_X6_rebuild l G F S34 D33 DD a0 hf) (cwV 0 hts (gVA wa_64 wa_65 wa_66 (hWCA _ wc_66) (hWCA _ wc_310) hWCA) rfl rfl rfl (by decide +kernel) ⟨Nat.le_of_ble_eq_true rfl, Nat.le_of_ble_eq_true rfl⟩) rfl hl.1 rfl (Nat.le_of_ble_eq_true rfl) ⟨Nat.le_of_ble_eq_true rfl, Nat.le_of_ble_eq_true rfl⟩ dX6_init_88 (fun H locs hP hS => ?_)
  exact n_vretw (S0 := S) (Rl := Rl) hC hP hS hRl0 hG dX6_init_91 (Nat.le_of_ble_eq_true rfl) (Nat.le_of_ble_eq_true rfl)
