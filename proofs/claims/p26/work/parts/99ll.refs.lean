/-! What the law's isRefused comes to. -/
section REF
variable {F : Nat} {S : CS} {D : CD} {A sg w : Nat → Nat} {n : Nat} {g : Nat → Sg} {root rd : Nat → Nat} {c : Nat} {lo ou : Nat → Nat} {gA mA : Nat}
theorem r_add (P : cPic S D A sg w n g root rd c lo ou) {x y x2 y2 : Int} (hx : i32 x) (hy : i32 y) (hx2 : i32 x2) (hy2 : i32 y2) (h : adP x y x2 y2 = false) : f_L_add F S D (A 0) (zI x) (zI y) (zI x2) (zI y2) = some (D, -602) := by
  unfold f_L_add
  rw [ly_k P.1 0 (by decide) (by decide), tp_addA P hx hy hx2 hy2 h, th2_a]
theorem r_addS (P : cPic S D A sg w n g root rd c lo ou) {x y x2 y2 : Int} (h : adP x y x2 y2 = true) (hn : n = 12) : f_L_add F S D (A 0) (zI x) (zI y) (zI x2) (zI y2) = some (D, -603) := by
  unfold f_L_add
  rw [ly_k P.1 0 (by decide) (by decide), tp_addS P h hn, th2_b (by decide)]
theorem e_Lref254 (P : cPic S D A sg w n g root rd c lo ou) (hF : 1000 ≤ F) (hm : mOn S mA) (hn0 : D.2.2.1 mA 0 = nI n) {no : Int} (h1 : i32 no) (h2 : inB no n = false) : f_L_isRefused_b254 F S D (A 0) mA (zI no) (allV n g root rd c lo ou) 1 = some (D, 1) := by
  have hn := P.2.2.1
  have b295 : f_L_isRefused_b295 F S D (A 0) (allV n g root rd c lo ou) = some (D, 1) := by
    unfold f_L_isRefused_b295
    rw [e_Lall P hF, cal_some, if_pos (by unfold lg_cmp; rw [if_neg (fun w => Int64.lt_irrefl w), if_pos rfl])]
    rfl
  unfold f_L_isRefused_b254
  rw [if_neg (by decide), ck_ok hm.1, m_rd hm, hn0]
  by_cases z : n = 0
  · rw [if_pos (show nI n = 0 by rw [z]; rfl)]; exact b295
  · have o1 : f_L_at F S D (A 0) 3 0 (zI no) = some (D, -601) := by
      unfold f_L_at
      rw [ly_k P.1 0 (by decide) (by decide), if_neg (by decide), if_neg (by decide), if_neg (by decide), show (0 : Int32) = zI 0 from rfl, tp_meet P (x := 0) ⟨by omega, by omega⟩ h1 (Or.inr ⟨⟨0, by omega, rfl⟩, h2⟩), th2_b (by decide)]
    have o2 : f_L_at F S D (A 0) 3 (zI no) 0 = some (D, -601) := by
      unfold f_L_at
      rw [ly_k P.1 0 (by decide) (by decide), if_neg (by decide), if_neg (by decide), if_neg (by decide), show (0 : Int32) = zI 0 from rfl, tp_meet P h1 ⟨by omega, by omega⟩ (Or.inl h2), th2_b (by decide)]
    rw [if_neg (show ¬ nI n = 0 from fun w => z ((nI_eq (b := 0) (by omega) (by omega)).mp w)), o1, caM_some, if_pos rfl, o2, caM_some, if_pos rfl]
    exact b295
theorem e_Lref165 (P : cPic S D A sg w n g root rd c lo ou) (hF : 1000 ≤ F) (hm : mOn S mA) (hn0 : D.2.2.1 mA 0 = nI n) {no far : Int} (h1 : i32 no) (h2 : inB no n = false) (h3 : i32 far) (h4 : ¬ inR far) : f_L_isRefused_b165 F S D (A 0) mA (zI far) (zI no) (allV n g root rd c lo ou) = some (D, 1) := by
  have five : i32 5 := ⟨by omega, by omega⟩
  have o1 : f_L_of F S D (A 0) 0 (zI no) = some (D, -601) := by
    unfold f_L_of
    rw [ly_k P.1 0 (by decide) (by decide), if_pos rfl, tp_remove P h1 h2, th1_of]
  have o2 : f_L_at F S D (A 0) 0 (zI far) 5 = some (D, -602) := by
    unfold f_L_at
    rw [ly_k P.1 0 (by decide) (by decide), if_pos rfl, show (5 : Int32) = zI 5 from rfl, tp_faceAt P h3 five (fun w => h4 w.1), th2_a]
  have o3 : f_L_at F S D (A 0) 0 5 (zI far) = some (D, -602) := by
    unfold f_L_at
    rw [ly_k P.1 0 (by decide) (by decide), if_pos rfl, show (5 : Int32) = zI 5 from rfl, tp_faceAt P five h3 (fun w => h4 w.2), th2_a]
  have o4 : f_L_at F S D (A 0) 1 (zI far) 0 = some (D, -602) := by
    unfold f_L_at
    rw [ly_k P.1 0 (by decide) (by decide), if_neg (by decide), if_pos rfl, tp_crossing P h3 h4, th2_a]
  have o5 : f_L_at F S D (A 0) 2 (zI far) (-1) = some (D, -602) := by
    unfold f_L_at
    rw [ly_k P.1 0 (by decide) (by decide), if_neg (by decide), if_neg (by decide), if_pos rfl, tp_crossingAtA P h3 h4, th2_a]
  have o6 : f_L_at F S D (A 0) 3 (zI no) (zI no) = some (D, -601) := by
    unfold f_L_at
    rw [ly_k P.1 0 (by decide) (by decide), if_neg (by decide), if_neg (by decide), if_neg (by decide), tp_meet P h1 h1 (Or.inl h2), th2_b (by decide)]
  unfold f_L_isRefused_b165
  rw [o1, caM_some, if_pos rfl, o2, caM_some, if_pos rfl, o3, caM_some, if_pos rfl, o4, caM_some, if_pos rfl, o5, caM_some, if_pos rfl, o6, caM_some, if_pos rfl]
  exact e_Lref254 P hF hm hn0 h1 h2
theorem inP_f {x : Int} (h : ¬ inR x) : inP x = false := decide_eq_false h
theorem e_Lref55 (P : cPic S D A sg w n g root rd c lo ou) (hF : 1000 ≤ F) (hm : mOn S mA) (hn0 : D.2.2.1 mA 0 = nI n) {no far : Int} (h1 : i32 no) (h2 : inB no n = false) (h3 : i32 far) (h4 : ¬ inR far) {x : Nat} (hx : x < 2147483648) : f_L_isRefused_b55 F S D (A 0) mA (nI x) (zI far) (zI no) = some (D, 1) := by
  have hn := P.2.2.1
  have k1 : i32 1 := ⟨by omega, by omega⟩
  have k2 : i32 2 := ⟨by omega, by omega⟩
  have k3 : i32 3 := ⟨by omega, by omega⟩
  have k5 : i32 5 := ⟨by omega, by omega⟩
  have hrem : nI x - nI x / 101 * 101 = nI (x % 101) := pk_rem (a := x) (d := 101) (by omega) (by decide) (by decide)
  have hr1 : i32 ((x % 101 : Nat) : Int) := ⟨by omega, by omega⟩
  have o1 : f_L_add F S D (A 0) (zI far) (zI 1) (zI 2) (zI 3) = some (D, -602) := r_add P (x := far) (y := 1) (x2 := 2) (y2 := 3) h3 k1 k2 k3 (by unfold adP; rw [inP_f h4]; rfl)
  have o2 : f_L_add F S D (A 0) (zI 1) (zI far) (zI 2) (zI 3) = some (D, -602) := r_add P (x := 1) (y := far) (x2 := 2) (y2 := 3) k1 h3 k2 k3 (by unfold adP; rw [inP_f h4, Bool.and_false]; rfl)
  have o3 : f_L_add F S D (A 0) (zI 1) (zI 2) (zI far) (zI 3) = some (D, -602) := r_add P (x := 1) (y := 2) (x2 := far) (y2 := 3) k1 k2 h3 k3 (by unfold adP; rw [inP_f h4, Bool.and_false]; rfl)
  have o4 : f_L_add F S D (A 0) (zI 1) (zI 2) (zI 3) (zI far) = some (D, -602) := r_add P (x := 1) (y := 2) (x2 := 3) (y2 := far) k1 k2 k3 h3 (by unfold adP; rw [inP_f h4, Bool.and_false]; rfl)
  have o5 : f_L_add F S D (A 0) (nI (x % 101)) (zI 5) (nI (x % 101)) (zI 5) = some (D, -602) := by
    rw [nI_zI]
    exact r_add P (x := ((x % 101 : Nat) : Int)) (y := 5) (x2 := ((x % 101 : Nat) : Int)) (y2 := 5) hr1 k5 hr1 k5 (by unfold adP; rw [decide_eq_true (rfl : ((x % 101 : Nat) : Int) = _), decide_eq_true (rfl : (5 : Int) = 5), Bool.and_true, Bool.not_true, Bool.and_false])
  have b165 := e_Lref165 P hF hm hn0 h1 h2 h3 h4
  rw [show zI 1 = (1 : Int32) from rfl, show zI 2 = (2 : Int32) from rfl, show zI 3 = (3 : Int32) from rfl] at o1 o2 o3 o4
  rw [show zI 5 = (5 : Int32) from rfl] at o5
  unfold f_L_isRefused_b55
  rw [e_Lall P hF, cal_some, o1, caM_some, if_pos rfl, o2, caM_some, if_pos rfl, o3, caM_some, if_pos rfl, o4, caM_some, if_pos rfl, hrem, o5, caM_some, if_pos rfl, ck_ok hm.1, m_rd hm, hn0]
  have e12 : nI n < 12 ↔ n < 12 := by
    rw [nI_zI]
    show zI n < zI 12 ↔ _
    rw [zI_lt ⟨by omega, by omega⟩ ⟨by omega, by omega⟩]; omega
  by_cases z : n < 12
  · rw [if_pos (e12.mpr z)]; exact b165
  · have o6 : f_L_add F S D (A 0) (zI 0) (zI 0) (zI 1) (zI 1) = some (D, -603) := r_addS P (x := 0) (y := 0) (x2 := 1) (y2 := 1) (by decide) (by omega)
    rw [show zI 0 = (0 : Int32) from rfl, show zI 1 = (1 : Int32) from rfl] at o6
    rw [if_neg (mt e12.mp z), o6, caM_some, if_pos rfl]
    exact b165
theorem e_LisRefused (P : cPic S D A sg w n g root rd c lo ou) (hF : 1000 ≤ F) (hm : mOn S mA) (hn0 : D.2.2.1 mA 0 = nI n) {x : Nat} (hx : x < 2147483648) : f_L_isRefused F S D (A 0) mA (nI x) = some (D, 1) := by
  have hn := P.2.2.1
  have h2 : nI x - nI x / 2 * 2 = nI (x % 2) := pk_rem (a := x) (d := 2) (by omega) (by decide) (by decide)
  have h50 : nI x - nI x / 50 * 50 = nI (x % 50) := pk_rem (a := x) (d := 50) (by omega) (by decide) (by decide)
  have hl : x % 50 < 50 := Nat.mod_lt _ (by omega)
  unfold f_L_isRefused f_L_isRefused_b11 f_L_isRefused_b32
  rw [h2, h50]
  by_cases z : x % 2 = 0
  · have e1 : (-1 : Int32) - nI (x % 50) = zI (-1 - ((x % 50 : Nat) : Int)) := by
      rw [nI_zI]; show zI (-1) - zI _ = _; rw [zI_sub]
    rw [if_pos (show nI (x % 2) = 0 by rw [z]; rfl), if_neg (by decide), if_neg (by decide), e1]
    exact e_Lref55 P hF hm hn0 ⟨by omega, by omega⟩ (decide_eq_false (by omega)) ⟨by omega, by omega⟩ (fun w => by have := w.1; omega) hx
  · have e1 : (101 : Int32) + nI (x % 50) = zI (101 + ((x % 50 : Nat) : Int)) := by
      rw [nI_zI]; show zI 101 + zI _ = _; rw [zI_add]
    have e2 : nI n + nI (x % 50) = zI ((n : Int) + ((x % 50 : Nat) : Int)) := by
      rw [nI_zI, nI_zI, zI_add]
    rw [if_neg (show ¬ nI (x % 2) = 0 from fun w => z ((nI_eq (b := 0) (by omega) (by omega)).mp w)), if_pos rfl, if_pos rfl, ck_ok hm.1, m_rd hm, hn0, e1, e2]
    exact e_Lref55 P hF hm hn0 ⟨by omega, by omega⟩ (decide_eq_false (by omega)) ⟨by omega, by omega⟩ (fun w => by have := w.2; omega) hx
end REF
