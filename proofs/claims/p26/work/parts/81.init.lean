/-! constructors of the class -/
theorem cnew_0 (G : cG) (S : CS) (D : CD) (h : Nat) : cE G (sAdd S h 0 0) (dNew D h) h = .inr (1, [.null, .null, .null, .null, .null, .int 0]) := by
  rw [cE_0 (va_up_self _ _ _)]; simp [cX0, sAdd, dNew, va_up_self, va_rf]
theorem cdef_0 : ∀ j, j < 6 → defaultValue (tyX0 j) = vp_V [.null, .null, .null, .null, .null, .int 0] j := by decide +kernel
theorem csi_0_3 (G : cG) {S : CS} {D : CD} {a : Nat} (h : S.2.1 a = 0) (v : Nat) : .inr (1, (cX0 S D a).set 3 (.ref v)) = cE G (sRef S a 3 v) D a := by rw [cE_0 (show (sRef S a 3 v).2.1 a = 0 from h)]; simp [cX0, sRef, va_up, va_rf]
theorem csi_0_5 (G : cG) {S : CS} {D : CD} {a : Nat} (h : S.2.1 a = 0) (v : Int32) : .inr (1, (cX0 S D a).set 5 (.int v)) = cE G S (cpF D a 5 v) a := by rw [cE_0 h]; simp [cX0, cpF, va_up]
theorem csi_0_2 (G : cG) {S : CS} {D : CD} {a : Nat} (h : S.2.1 a = 0) (v : Nat) : .inr (1, (cX0 S D a).set 2 (.ref v)) = cE G (sRef S a 2 v) D a := by rw [cE_0 (show (sRef S a 2 v).2.1 a = 0 from h)]; simp [cX0, sRef, va_up, va_rf]
theorem csi_0_4 (G : cG) {S : CS} {D : CD} {a : Nat} (h : S.2.1 a = 0) (v : Nat) : .inr (1, (cX0 S D a).set 4 (.ref v)) = cE G (sRef S a 4 v) D a := by rw [cE_0 (show (sRef S a 4 v).2.1 a = 0 from h)]; simp [cX0, sRef, va_up, va_rf]
theorem csi_0_0 (G : cG) {S : CS} {D : CD} {a : Nat} (h : S.2.1 a = 0) (v : Nat) : .inr (1, (cX0 S D a).set 0 (.ref v)) = cE G (sRef S a 0 v) D a := by rw [cE_0 (show (sRef S a 0 v).2.1 a = 0 from h)]; simp [cX0, sRef, va_up, va_rf]
theorem csi_0_1 (G : cG) {S : CS} {D : CD} {a : Nat} (h : S.2.1 a = 0) (v : Nat) : .inr (1, (cX0 S D a).set 1 (.ref v)) = cE G (sRef S a 1 v) D a := by rw [cE_0 (show (sRef S a 1 v).2.1 a = 0 from h)]; simp [cX0, sRef, va_up, va_rf]
theorem cnew_1 (G : cG) (S : CS) (D : CD) (h : Nat) : cE G (sAdd S h 1 0) (dNew D h) h = .inr (2, [.null, .null, .int 0]) := by
  rw [cE_1 (va_up_self _ _ _)]; simp [cX1, sAdd, dNew, va_up_self, va_rf]
theorem cdef_1 : ∀ j, j < 3 → defaultValue (tyX1 j) = vp_V [.null, .null, .int 0] j := by decide +kernel
theorem csi_1_2 (G : cG) {S : CS} {D : CD} {a : Nat} (h : S.2.1 a = 1) (v : Int32) : .inr (2, (cX1 S D a).set 2 (.int v)) = cE G S (cpF D a 2 v) a := by rw [cE_1 h]; simp [cX1, cpF, va_up]
theorem csi_1_0 (G : cG) {S : CS} {D : CD} {a : Nat} (h : S.2.1 a = 1) (v : Nat) : .inr (2, (cX1 S D a).set 0 (.ref v)) = cE G (sRef S a 0 v) D a := by rw [cE_1 (show (sRef S a 0 v).2.1 a = 1 from h)]; simp [cX1, sRef, va_up, va_rf]
theorem csi_1_1 (G : cG) {S : CS} {D : CD} {a : Nat} (h : S.2.1 a = 1) (v : Nat) : .inr (2, (cX1 S D a).set 1 (.ref v)) = cE G (sRef S a 1 v) D a := by rw [cE_1 (show (sRef S a 1 v).2.1 a = 1 from h)]; simp [cX1, sRef, va_up, va_rf]
theorem cnew_2 (G : cG) (S : CS) (D : CD) (h : Nat) : cE G (sAdd S h 2 0) (dNew D h) h = .inr (3, [.long 0, .long 0, .long 0, .long 0]) := by
  rw [cE_2 (va_up_self _ _ _)]; simp [cX2, sAdd, dNew, va_up_self, va_rf]
theorem cdef_2 : ∀ j, j < 4 → defaultValue (tyX2 j) = vp_V [.long 0, .long 0, .long 0, .long 0] j := by decide +kernel
theorem csi_2_0 (G : cG) {S : CS} {D : CD} {a : Nat} (h : S.2.1 a = 2) (v : Int64) : .inr (3, (cX2 S D a).set 0 (.long v)) = cE G S (cpG D a 0 v) a := by rw [cE_2 h]; simp [cX2, cpG, va_up]
theorem csi_2_1 (G : cG) {S : CS} {D : CD} {a : Nat} (h : S.2.1 a = 2) (v : Int64) : .inr (3, (cX2 S D a).set 1 (.long v)) = cE G S (cpG D a 1 v) a := by rw [cE_2 h]; simp [cX2, cpG, va_up]
theorem csi_2_2 (G : cG) {S : CS} {D : CD} {a : Nat} (h : S.2.1 a = 2) (v : Int64) : .inr (3, (cX2 S D a).set 2 (.long v)) = cE G S (cpG D a 2 v) a := by rw [cE_2 h]; simp [cX2, cpG, va_up]
theorem csi_2_3 (G : cG) {S : CS} {D : CD} {a : Nat} (h : S.2.1 a = 2) (v : Int64) : .inr (3, (cX2 S D a).set 3 (.long v)) = cE G S (cpG D a 3 v) a := by rw [cE_2 h]; simp [cX2, cpG, va_up]
theorem cnew_3 (G : cG) (S : CS) (D : CD) (h : Nat) : cE G (sAdd S h 3 0) (dNew D h) h = .inr (4, [.null]) := by
  rw [cE_3 (va_up_self _ _ _)]; simp [cX3, sAdd, dNew, va_up_self, va_rf]
theorem cdef_3 : ∀ j, j < 1 → defaultValue (tyX3 j) = vp_V [.null] j := by decide +kernel
theorem csi_3_0 (G : cG) {S : CS} {D : CD} {a : Nat} (h : S.2.1 a = 3) (v : Nat) : .inr (4, (cX3 S D a).set 0 (.ref v)) = cE G (sRef S a 0 v) D a := by rw [cE_3 (show (sRef S a 0 v).2.1 a = 3 from h)]; simp [cX3, sRef, va_up, va_rf]
theorem cnew_4 (G : cG) (S : CS) (D : CD) (h : Nat) : cE G (sAdd S h 4 0) (dNew D h) h = .inr (5, [.int 0, .int 0, .int 0, .int 0, .long 0, .long 0]) := by
  rw [cE_4 (va_up_self _ _ _)]; simp [cX4, sAdd, dNew, va_up_self, va_rf]
theorem cdef_4 : ∀ j, j < 6 → defaultValue (tyX4 j) = vp_V [.int 0, .int 0, .int 0, .int 0, .long 0, .long 0] j := by decide +kernel
theorem csi_4_2 (G : cG) {S : CS} {D : CD} {a : Nat} (h : S.2.1 a = 4) (v : Int32) : .inr (5, (cX4 S D a).set 2 (.int v)) = cE G S (cpF D a 2 v) a := by rw [cE_4 h]; simp [cX4, cpF, va_up]
theorem csi_4_3 (G : cG) {S : CS} {D : CD} {a : Nat} (h : S.2.1 a = 4) (v : Int32) : .inr (5, (cX4 S D a).set 3 (.int v)) = cE G S (cpF D a 3 v) a := by rw [cE_4 h]; simp [cX4, cpF, va_up]
theorem csi_4_5 (G : cG) {S : CS} {D : CD} {a : Nat} (h : S.2.1 a = 4) (v : Int64) : .inr (5, (cX4 S D a).set 5 (.long v)) = cE G S (cpG D a 5 v) a := by rw [cE_4 h]; simp [cX4, cpG, va_up]
theorem csi_4_4 (G : cG) {S : CS} {D : CD} {a : Nat} (h : S.2.1 a = 4) (v : Int64) : .inr (5, (cX4 S D a).set 4 (.long v)) = cE G S (cpG D a 4 v) a := by rw [cE_4 h]; simp [cX4, cpG, va_up]
theorem csi_4_0 (G : cG) {S : CS} {D : CD} {a : Nat} (h : S.2.1 a = 4) (v : Int32) : .inr (5, (cX4 S D a).set 0 (.int v)) = cE G S (cpF D a 0 v) a := by rw [cE_4 h]; simp [cX4, cpF, va_up]
theorem csi_4_1 (G : cG) {S : CS} {D : CD} {a : Nat} (h : S.2.1 a = 4) (v : Int32) : .inr (5, (cX4 S D a).set 1 (.int v)) = cE G S (cpF D a 1 v) a := by rw [cE_4 h]; simp [cX4, cpF, va_up]
theorem cnew_5 (G : cG) (S : CS) (D : CD) (h : Nat) : cE G (sAdd S h 5 0) (dNew D h) h = .inr (6, [.null, .null, .null, .null, .null, .null, .int 0]) := by
  rw [cE_5 (va_up_self _ _ _)]; simp [cX5, sAdd, dNew, va_up_self, va_rf]
theorem cdef_5 : ∀ j, j < 7 → defaultValue (tyX5 j) = vp_V [.null, .null, .null, .null, .null, .null, .int 0] j := by decide +kernel
theorem csi_5_6 (G : cG) {S : CS} {D : CD} {a : Nat} (h : S.2.1 a = 5) (v : Int32) : .inr (6, (cX5 S D a).set 6 (.int v)) = cE G S (cpF D a 6 v) a := by rw [cE_5 h]; simp [cX5, cpF, va_up]
theorem csi_5_3 (G : cG) {S : CS} {D : CD} {a : Nat} (h : S.2.1 a = 5) (v : Nat) : .inr (6, (cX5 S D a).set 3 (.ref v)) = cE G (sRef S a 3 v) D a := by rw [cE_5 (show (sRef S a 3 v).2.1 a = 5 from h)]; simp [cX5, sRef, va_up, va_rf]
theorem csi_5_1 (G : cG) {S : CS} {D : CD} {a : Nat} (h : S.2.1 a = 5) (v : Nat) : .inr (6, (cX5 S D a).set 1 (.ref v)) = cE G (sRef S a 1 v) D a := by rw [cE_5 (show (sRef S a 1 v).2.1 a = 5 from h)]; simp [cX5, sRef, va_up, va_rf]
theorem csi_5_2 (G : cG) {S : CS} {D : CD} {a : Nat} (h : S.2.1 a = 5) (v : Nat) : .inr (6, (cX5 S D a).set 2 (.ref v)) = cE G (sRef S a 2 v) D a := by rw [cE_5 (show (sRef S a 2 v).2.1 a = 5 from h)]; simp [cX5, sRef, va_up, va_rf]
theorem csi_5_0 (G : cG) {S : CS} {D : CD} {a : Nat} (h : S.2.1 a = 5) (v : Nat) : .inr (6, (cX5 S D a).set 0 (.ref v)) = cE G (sRef S a 0 v) D a := by rw [cE_5 (show (sRef S a 0 v).2.1 a = 5 from h)]; simp [cX5, sRef, va_up, va_rf]
theorem csi_5_5 (G : cG) {S : CS} {D : CD} {a : Nat} (h : S.2.1 a = 5) (v : Nat) : .inr (6, (cX5 S D a).set 5 (.ref v)) = cE G (sRef S a 5 v) D a := by rw [cE_5 (show (sRef S a 5 v).2.1 a = 5 from h)]; simp [cX5, sRef, va_up, va_rf]
theorem csi_5_4 (G : cG) {S : CS} {D : CD} {a : Nat} (h : S.2.1 a = 5) (v : Nat) : .inr (6, (cX5 S D a).set 4 (.ref v)) = cE G (sRef S a 4 v) D a := by rw [cE_5 (show (sRef S a 4 v).2.1 a = 5 from h)]; simp [cX5, sRef, va_up, va_rf]
theorem cnew_6 (G : cG) (S : CS) (D : CD) (h : Nat) : cE G (sAdd S h 6 0) (dNew D h) h = .inr (7, [.null, .null, .null, .null, .null, .null, .null, .int 0]) := by
  rw [cE_6 (va_up_self _ _ _)]; simp [cX6, sAdd, dNew, va_up_self, va_rf]
theorem cdef_6 : ∀ j, j < 8 → defaultValue (tyX6 j) = vp_V [.null, .null, .null, .null, .null, .null, .null, .int 0] j := by decide +kernel
theorem csi_6_5 (G : cG) {S : CS} {D : CD} {a : Nat} (h : S.2.1 a = 6) (v : Nat) : .inr (7, (cX6 S D a).set 5 (.ref v)) = cE G (sRef S a 5 v) D a := by rw [cE_6 (show (sRef S a 5 v).2.1 a = 6 from h)]; simp [cX6, sRef, va_up, va_rf]
theorem csi_6_7 (G : cG) {S : CS} {D : CD} {a : Nat} (h : S.2.1 a = 6) (v : Int32) : .inr (7, (cX6 S D a).set 7 (.int v)) = cE G S (cpF D a 7 v) a := by rw [cE_6 h]; simp [cX6, cpF, va_up]
theorem csi_6_2 (G : cG) {S : CS} {D : CD} {a : Nat} (h : S.2.1 a = 6) (v : Nat) : .inr (7, (cX6 S D a).set 2 (.ref v)) = cE G (sRef S a 2 v) D a := by rw [cE_6 (show (sRef S a 2 v).2.1 a = 6 from h)]; simp [cX6, sRef, va_up, va_rf]
theorem csi_6_0 (G : cG) {S : CS} {D : CD} {a : Nat} (h : S.2.1 a = 6) (v : Nat) : .inr (7, (cX6 S D a).set 0 (.ref v)) = cE G (sRef S a 0 v) D a := by rw [cE_6 (show (sRef S a 0 v).2.1 a = 6 from h)]; simp [cX6, sRef, va_up, va_rf]
theorem csi_6_1 (G : cG) {S : CS} {D : CD} {a : Nat} (h : S.2.1 a = 6) (v : Nat) : .inr (7, (cX6 S D a).set 1 (.ref v)) = cE G (sRef S a 1 v) D a := by rw [cE_6 (show (sRef S a 1 v).2.1 a = 6 from h)]; simp [cX6, sRef, va_up, va_rf]
theorem csi_6_3 (G : cG) {S : CS} {D : CD} {a : Nat} (h : S.2.1 a = 6) (v : Nat) : .inr (7, (cX6 S D a).set 3 (.ref v)) = cE G (sRef S a 3 v) D a := by rw [cE_6 (show (sRef S a 3 v).2.1 a = 6 from h)]; simp [cX6, sRef, va_up, va_rf]
theorem csi_6_6 (G : cG) {S : CS} {D : CD} {a : Nat} (h : S.2.1 a = 6) (v : Nat) : .inr (7, (cX6 S D a).set 6 (.ref v)) = cE G (sRef S a 6 v) D a := by rw [cE_6 (show (sRef S a 6 v).2.1 a = 6 from h)]; simp [cX6, sRef, va_up, va_rf]
theorem csi_6_4 (G : cG) {S : CS} {D : CD} {a : Nat} (h : S.2.1 a = 6) (v : Nat) : .inr (7, (cX6 S D a).set 4 (.ref v)) = cE G (sRef S a 4 v) D a := by rw [cE_6 (show (sRef S a 4 v).2.1 a = 6 from h)]; simp [cX6, sRef, va_up, va_rf]
theorem cnew_7 (G : cG) (S : CS) (D : CD) (h : Nat) : cE G (sAdd S h 7 0) (dNew D h) h = .inr (0, [.int 0, .null, .int 0]) := by
  rw [cE_7 (va_up_self _ _ _)]; simp [cX7, sAdd, dNew, va_up_self, va_rf]
theorem cdef_7 : ∀ j, j < 3 → defaultValue (tyJx4a65c j) = vp_V [.int 0, .null, .int 0] j := by decide +kernel
theorem csi_7_1 (G : cG) {S : CS} {D : CD} {a : Nat} (h : S.2.1 a = 7) (v : Nat) : .inr (0, (cX7 S D a).set 1 (.ref v)) = cE G (sRef S a 1 v) D a := by rw [cE_7 (show (sRef S a 1 v).2.1 a = 7 from h)]; simp [cX7, sRef, va_up, va_rf]
theorem csi_7_0 (G : cG) {S : CS} {D : CD} {a : Nat} (h : S.2.1 a = 7) (v : Int32) : .inr (0, (cX7 S D a).set 0 (.int v)) = cE G S (cpF D a 0 v) a := by rw [cE_7 h]; simp [cX7, cpF, va_up]
theorem csi_7_2 (G : cG) {S : CS} {D : CD} {a : Nat} (h : S.2.1 a = 7) (v : Int32) : .inr (0, (cX7 S D a).set 2 (.int v)) = cE G S (cpF D a 2 v) a := by rw [cE_7 h]; simp [cX7, cpF, va_up]
theorem cne_F (G : cG) {S : CS} {D : CD} {a k : Nat} {v : Int32} : ∀ b, b ≠ a → cE G S D b = cE G S (cpF D a k v) b := fun b hb => cE_ext (by simp [cpF, va_up, hb]) (by simp [cpF, va_up, hb]) rfl rfl
theorem cne_G (G : cG) {S : CS} {D : CD} {a k : Nat} {v : Int64} : ∀ b, b ≠ a → cE G S D b = cE G S (cpG D a k v) b := fun b hb => cE_ext (by simp [cpG, va_up, hb]) (by simp [cpG, va_up, hb]) rfl rfl
theorem cne_R (G : cG) {S : CS} {D : CD} {a k v : Nat} : ∀ b, b ≠ a → cE G S D b = cE G (sRef S a k v) D b := fun b hb => cE_cong rfl (va_up_ne _ _ hb).symm rfl rfl rfl rfl rfl
theorem gIA {k0 : Cond} {y : MethodName} {b : ByteArray} {n : Nat} {ret : Option FieldType} {ws : List Cond} (h : Cond.code y b n ret ∈ WA) (hw : ∀ w ∈ ws, w ∈ WA) : GoodIn (k0 :: WA) (Cond.code y b n ret :: ws) := fun w hw1 => by
  have h1 : w ∈ WA := by
    rcases List.mem_cons.mp hw1 with rfl | h2
    · exact h
    · exact hw w h2
  exact ⟨List.mem_cons_of_mem _ h1, WA_good w h1⟩
theorem dX2_init_0 : decode cX2_init 0 = .ok (.aload_n 0, 1) := by decide +kernel
theorem dX2_init_1 : decode cX2_init 1 = .ok (.invokespecial 3, 3) := by decide +kernel
theorem dX2_init_4 : decode cX2_init 4 = .ok (.aload_n 0, 1) := by decide +kernel
theorem dX2_init_5 : decode cX2_init 5 = .ok (.lconst 0, 1) := by decide +kernel
theorem dX2_init_6 : decode cX2_init 6 = .ok (.putfield 9, 3) := by decide +kernel
theorem dX2_init_9 : decode cX2_init 9 = .ok (.aload_n 0, 1) := by decide +kernel
theorem dX2_init_10 : decode cX2_init 10 = .ok (.lconst 1, 1) := by decide +kernel
theorem dX2_init_11 : decode cX2_init 11 = .ok (.putfield 15, 3) := by decide +kernel
theorem dX2_init_14 : decode cX2_init 14 = .ok (.aload_n 0, 1) := by decide +kernel
theorem dX2_init_15 : decode cX2_init 15 = .ok (.lconst 0, 1) := by decide +kernel
theorem dX2_init_16 : decode cX2_init 16 = .ok (.putfield 18, 3) := by decide +kernel
theorem dX2_init_19 : decode cX2_init 19 = .ok (.aload_n 0, 1) := by decide +kernel
theorem dX2_init_20 : decode cX2_init 20 = .ok (.lconst 1, 1) := by decide +kernel
theorem dX2_init_21 : decode cX2_init 21 = .ok (.putfield 21, 3) := by decide +kernel
theorem dX2_init_24 : decode cX2_init 24 = .ok (.return_, 1) := by decide +kernel
def wX2_init : List Cond := Cond.code yX2_init cX2_init 1 none :: WA
def dPt (D : CD) (a : Nat) : CD := cpG (cpG (cpG (cpG D a 0 0) a 1 1) a 2 0) a 3 1
set_option maxRecDepth 100000 in
set_option maxHeartbeats 4000000 in
theorem i_X2 (l : Launch) (G : cG) (S : CS) (D : CD) (a0 : Nat) (hm0 : a0 ∈ S.1) (hk0 : S.2.1 a0 = 2) : cMK l yX2_init wX2_init ({ frames := 1, cells := 0, slots := 0, locals := 20 }) G S [.ref a0] D 0 0 0 (fun _ S2 D2 => S2 = S ∧ D2 = dPt D a0) := by
  refine cBodyK (cc := cX2_init) (maxL := 1) (ret := none) (own := RX2) (by decide) rfl rfl ?_
  intro sz p e s m below meth c hC hP hname
  have hC0 := hC
  obtain ⟨hx, hb, -, hts, hown, -, hml, -, -, hz, -⟩ := hC0
  have hS : va_S (cA G S sz) s.heap s.heap [] := va_S.rf
  have hlt : a0 < sz := by rw [← hz]; exact cW_lt hP hm0
  have hin_X2 : ∀ w ∈ wsX20, w ∈ wX2_init := fun w h => List.mem_cons_of_mem _ (hWCA _ (hWC2 w h))
  refine m_entry (Nat.le_of_ble_eq_true rfl) (fun ls hl => ?_)
  have hl : lv_has ls 1 [(0, .ref a0)] := hl
  refine lv_aload_n hx hb dX2_init_0 rfl (lv_at hl 0 rfl) ?_
  refine n_objInit hC (hts _ (List.mem_cons_of_mem _ wa_17)) (hts _ (List.mem_cons_of_mem _ wa_2)) (hts _ (List.mem_cons_of_mem _ wa_3)) hl.1 dX2_init_1 ⟨Nat.le_of_ble_eq_true rfl, Nat.le_of_ble_eq_true rfl⟩ ?_
  refine lv_aload_n hx hb dX2_init_4 rfl (lv_at hl 0 rfl) ?_
  refine lv_lconst (v := 0) hx hb dX2_init_5 (by decide) ?_
  refine n_put (C := RX2) (T := TX2) (N := 4) (ref := "SegmentMap$Point") (ci := 3) (S2 := S) (D2 := cpG D a0 0 0) hC hin_X2 tyX2 tyX2_ok nmX2 hP hS hz hm0 (cE_2 hk0) rfl 0 (by decide) (hts _ (List.mem_cons_of_mem _ (hWCA _ wc_125))) rfl (Or.inl rfl) (ty := .long) (by decide +kernel) rfl rfl (Nat.le_of_ble_eq_true rfl) rfl (csi_2_0 G hk0 _) (cne_G G) dX2_init_6 (fun H locs hP hz hS hC => ?_)
  obtain ⟨D1, eD1⟩ : ∃ x, x = cpG D a0 0 0 := ⟨_, rfl⟩
  rw [← eD1] at hP
  refine lv_aload_n hx hb dX2_init_9 rfl (lv_at hl 0 rfl) ?_
  refine lv_lconst (v := 1) hx hb dX2_init_10 (by decide) ?_
  refine n_put (C := RX2) (T := TX2) (N := 4) (ref := "SegmentMap$Point") (ci := 3) (S2 := S) (D2 := cpG D1 a0 1 1) hC hin_X2 tyX2 tyX2_ok nmX2 hP hS hz hm0 (cE_2 hk0) rfl 1 (by decide) (hts _ (List.mem_cons_of_mem _ (hWCA _ wc_126))) rfl (Or.inl rfl) (ty := .long) (by decide +kernel) rfl rfl (Nat.le_of_ble_eq_true rfl) rfl (csi_2_1 G hk0 _) (cne_G G) dX2_init_11 (fun H locs hP hz hS hC => ?_)
  obtain ⟨D2, eD2⟩ : ∃ x, x = cpG D1 a0 1 1 := ⟨_, rfl⟩
  rw [← eD2] at hP
  refine lv_aload_n hx hb dX2_init_14 rfl (lv_at hl 0 rfl) ?_
  refine lv_lconst (v := 0) hx hb dX2_init_15 (by decide) ?_
  refine n_put (C := RX2) (T := TX2) (N := 4) (ref := "SegmentMap$Point") (ci := 3) (S2 := S) (D2 := cpG D2 a0 2 0) hC hin_X2 tyX2 tyX2_ok nmX2 hP hS hz hm0 (cE_2 hk0) rfl 2 (by decide) (hts _ (List.mem_cons_of_mem _ (hWCA _ wc_127))) rfl (Or.inl rfl) (ty := .long) (by decide +kernel) rfl rfl (Nat.le_of_ble_eq_true rfl) rfl (csi_2_2 G hk0 _) (cne_G G) dX2_init_16 (fun H locs hP hz hS hC => ?_)
  obtain ⟨D3, eD3⟩ : ∃ x, x = cpG D2 a0 2 0 := ⟨_, rfl⟩
  rw [← eD3] at hP
  refine lv_aload_n hx hb dX2_init_19 rfl (lv_at hl 0 rfl) ?_
  refine lv_lconst (v := 1) hx hb dX2_init_20 (by decide) ?_
  refine n_put (C := RX2) (T := TX2) (N := 4) (ref := "SegmentMap$Point") (ci := 3) (S2 := S) (D2 := cpG D3 a0 3 1) hC hin_X2 tyX2 tyX2_ok nmX2 hP hS hz hm0 (cE_2 hk0) rfl 3 (by decide) (hts _ (List.mem_cons_of_mem _ (hWCA _ wc_128))) rfl (Or.inl rfl) (ty := .long) (by decide +kernel) rfl rfl (Nat.le_of_ble_eq_true rfl) rfl (csi_2_3 G hk0 _) (cne_G G) dX2_init_21 (fun H locs hP hz hS hC => ?_)
  obtain ⟨D4, eD4⟩ : ∃ x, x = cpG D3 a0 3 1 := ⟨_, rfl⟩
  rw [← eD4] at hP
  exact n_vret (S0 := S) (Rl := (fun _ S2 D2 => S2 = S ∧ D2 = dPt D a0)) (k := 0) hC hP hS hz ⟨rfl, by rw [eD4, eD3, eD2, eD1]; rfl⟩ (fun _ h => h) (fun _ h => Or.inl h) dX2_init_24 (Nat.le_refl _) (Nat.le_refl _)
theorem dX3_init_0 : decode cX3_init 0 = .ok (.aload_n 0, 1) := by decide +kernel
theorem dX3_init_1 : decode cX3_init 1 = .ok (.invokespecial 3, 3) := by decide +kernel
theorem dX3_init_4 : decode cX3_init 4 = .ok (.aload_n 0, 1) := by decide +kernel
theorem dX3_init_5 : decode cX3_init 5 = .ok (.iload_n 1, 1) := by decide +kernel
theorem dX3_init_6 : decode cX3_init 6 = .ok (.ifCond .ge 7, 3) := by decide +kernel
theorem dX3_init_9 : decode cX3_init 9 = .ok (.iconst 0, 1) := by decide +kernel
theorem dX3_init_10 : decode cX3_init 10 = .ok (.goto 4, 3) := by decide +kernel
theorem dX3_init_13 : decode cX3_init 13 = .ok (.iload_n 1, 1) := by decide +kernel
theorem dX3_init_14 : decode cX3_init 14 = .ok (.newarray .int, 2) := by decide +kernel
theorem dX3_init_16 : decode cX3_init 16 = .ok (.putfield 9, 3) := by decide +kernel
theorem dX3_init_19 : decode cX3_init 19 = .ok (.return_, 1) := by decide +kernel
def wX3_init : List Cond := Cond.code yX3_init cX3_init 2 none :: WA
set_option maxRecDepth 100000 in
set_option maxHeartbeats 4000000 in
theorem i_X3 (l : Launch) (G : cG) (S : CS) (D : CD) (a0 : Nat) (hm0 : a0 ∈ S.1) (hk0 : S.2.1 a0 = 3) {n : Int32} {N : Nat} (hn : ¬ n < 0) (hN : n.toNatClampNeg = N) (hNb : N * 4 ≤ 536870912) : cMK l yX3_init wX3_init ({ frames := 1, cells := 1, slots := N, locals := 20 }) G S [.ref a0, .int n] D 1 1 N (fun sz S2 D2 => S2 = sRef (sAdd S sz 8 N) a0 0 sz ∧ D2 = dNew D sz) := by
  refine cBodyK (cc := cX3_init) (maxL := 2) (ret := none) (own := RX3) (by decide) rfl rfl ?_
  intro sz p e s m below meth c hC hP hname
  have hC0 := hC
  obtain ⟨hx, hb, -, hts, hown, -, hml, -, -, hz, -⟩ := hC0
  have hS : va_S (cA G S sz) s.heap s.heap [] := va_S.rf
  have hlt : a0 < sz := by rw [← hz]; exact cW_lt hP hm0
  have hin_X3 : ∀ w ∈ wsX30, w ∈ wX3_init := fun w h => List.mem_cons_of_mem _ (hWCA _ (hWC3 w h))
  refine m_entry (Nat.le_of_ble_eq_true rfl) (fun ls hl => ?_)
  have hl : lv_has ls 2 [(0, .ref a0), (1, .int n)] := hl
  refine lv_aload_n hx hb dX3_init_0 rfl (lv_at hl 0 rfl) ?_
  refine n_objInit hC (hts _ (List.mem_cons_of_mem _ wa_1)) (hts _ (List.mem_cons_of_mem _ wa_2)) (hts _ (List.mem_cons_of_mem _ wa_3)) hl.1 dX3_init_1 ⟨Nat.le_of_ble_eq_true rfl, Nat.le_of_ble_eq_true rfl⟩ ?_
  refine lv_aload_n hx hb dX3_init_4 rfl (lv_at hl 0 rfl) ?_
  refine lv_iload_n hx hb dX3_init_5 rfl (lv_at hl 1 rfl) ?_
  refine lv_if_ge (tgt := 13) hx hb dX3_init_6 (by decide) (fun _ => ?_) (fun u => absurd (Int32.not_lt.mp hn) u)
  refine lv_iload_n hx hb dX3_init_13 rfl (lv_at hl 1 rfl) ?_
  refine n_iarr (h := sz) hC hP hS hz (hts _ (List.mem_cons_of_mem _ wa_4)) hn hN hNb (Nat.le_of_ble_eq_true rfl) (by show 0 + N ≤ N; omega) dX3_init_14 (fun H hP hz hS hC => ?_)
  obtain ⟨S1, eS1⟩ : ∃ x, x = sAdd S sz 8 N := ⟨_, rfl⟩
  rw [← eS1] at hP hS hC
  obtain ⟨D2, eD2⟩ : ∃ x, x = dNew D sz := ⟨_, rfl⟩
  rw [← eD2] at hP
  have hm0 : a0 ∈ S1.1 := by rw [eS1]; exact List.mem_append_left _ hm0
  have hk0 : S1.2.1 a0 = 3 := by rw [eS1]; exact (va_up_ne _ _ (by omega)).trans hk0
  have hz : H.size = (sz + 1) := hz
  refine n_put (C := RX3) (T := TX3) (N := 1) (ref := "SegmentMap$Row") (ci := 4) (S2 := sRef S1 a0 0 sz) (D2 := D2) hC hin_X3 tyX3 tyX3_ok nmX3 hP hS hz hm0 (cE_3 hk0) rfl 0 (by decide) (hts _ (List.mem_cons_of_mem _ (hWCA _ wc_97))) rfl (Or.inr ⟨rfl, hname, rfl⟩) (ty := (.array .int)) (by decide +kernel) rfl rfl (Nat.le_of_ble_eq_true rfl) rfl (csi_3_0 G hk0 _) (cne_R G) dX3_init_16 (fun H locs hP hz hS hC => ?_)
  obtain ⟨S3, eS3⟩ : ∃ x, x = sRef S1 a0 0 sz := ⟨_, rfl⟩
  rw [← eS3] at hP hS hC
  have hm0 : a0 ∈ S3.1 := by rw [eS3]; exact hm0
  have hk0 : S3.2.1 a0 = 3 := by rw [eS3]; exact hk0
  have e1 : S3.1 = S.1 ++ [sz] := by rw [eS3, eS1]; rfl
  refine n_vret (S0 := S) (Rl := (fun sz S2 D2 => S2 = sRef (sAdd S sz 8 N) a0 0 sz ∧ D2 = dNew D sz)) (k := 1) hC hP hS hz ⟨by rw [eS3, eS1], eD2⟩ (fun q h => by rw [e1]; exact List.mem_append_left _ h) (fun q h => ?_) dX3_init_19 (Nat.le_refl _) (by show 0 + N ≤ N; omega)
  rw [e1] at h
  rcases List.mem_append.mp h with h | h
  · exact Or.inl h
  · exact Or.inr (by rw [List.mem_singleton.mp h]; exact Nat.le_refl _)
