/-! ### the reference: where a vertical line meets, putting, adding, removing -/
theorem com_02 (a b : Sg) : 0 ≤ com a b ∧ com a b ≤ 2 := by
  unfold com onl; repeat' split
  all_goals omega
section MOP4
variable {F : Nat} {M : MS} {n : Nat} {g : Nat → Sg}
theorem e_ca60 {x y : Int} (hx : inR x) (hy : i32 y) (h0 : M.1 0 = nI n) (hn : n ≤ 12) (hco : mCo M n g) (hg : ∀ i, i < n → sOk (g i)) (k45 : MS → Int32 → Int32 → Int32 → Int32 → Option (MS × Int32)) {i : Nat} (hi : i < n) (fd : Int32) :
    ∀ (d m e : Nat), e + d = n → d < m → f_crossingAt_L60 F k45 m M (zI x) (zI y) fd (nI i) (nI (cnt (fun o => crZ (g o) x && crZ (g i) x && belZ g x o i) e)) (nI e) = k45 M (zI x) (zI y) (if crZ (g i) x && decide ((rkZ g x n i : Int) = y) then nI i else fd) (nI (i + 1)) := by
  intro d
  induction d with
  | zero =>
    intro m e he hm
    obtain ⟨m, rfl⟩ : ∃ q, m = q + 1 := ⟨m - 1, by omega⟩
    have e0 : e = n := by omega
    subst e0
    rw [f_crossingAt_L60, h0, if_pos (Int32.le_refl _), e_isCrossed (inR_32 hx) hn hco hg hi, cal_some]
    unfold f_crossingAt_b139
    rw [nI_1 i]
    cases hb : crZ (g i) x
    · rw [if_pos (show bI false = 0 from rfl)]; rfl
    · rw [if_neg (show ¬ bI true = 0 by decide)]
      have hc := cnt_le (fun o => crZ (g o) x && true && belZ g x o i) e
      have hr : rkZ g x e i = cnt (fun o => crZ (g o) x && true && belZ g x o i) e := by unfold rkZ; rw [hb]
      rw [hr]
      by_cases z : ((cnt (fun o => crZ (g o) x && true && belZ g x o i) e : Nat) : Int) = y
      · rw [if_pos (by rw [nI_zI, z]), decide_eq_true z]; rfl
      · rw [if_neg (fun w => z ((zI_eq ⟨by omega, by omega⟩ hy).mp (by rw [← nI_zI]; exact w))), decide_eq_false z]; rfl
  | succ d ih =>
    intro m e he hm
    obtain ⟨m, rfl⟩ : ∃ q, m = q + 1 := ⟨m - 1, by omega⟩
    have hen : e < n := by omega
    have i1 := ih m (e + 1) (by omega) (by omega)
    rw [← cnt_s] at i1
    rw [f_crossingAt_L60, h0, if_neg (by rw [nI_leI (by omega) (by omega)]; omega), e_isCrossed (inR_32 hx) hn hco hg hen, e_isCrossed (inR_32 hx) hn hco hg hi, e_isBelow hx hn hco hg hen hi, cal_some, cal_some, cal_some]
    unfold f_crossingAt_b108
    rw [nI_1 e]
    cases hb : crZ (g e) x
    · rw [hb] at i1
      rw [if_pos (show bI false = 0 from rfl)]; exact i1
    · rw [hb] at i1
      rw [if_neg (show ¬ bI true = 0 by decide)]
      generalize hc : crZ (g i) x = c at i1 ⊢
      cases c
      · rw [if_pos (show bI false = 0 from rfl)]; exact i1
      · rw [if_neg (show ¬ bI true = 0 by decide)]
        cases hd : belZ g x e i
        · rw [hd] at i1
          rw [if_pos (show bI false = 0 from rfl)]; exact i1
        · rw [hd] at i1
          rw [if_neg (show ¬ bI true = 0 by decide)]; exact i1
theorem e_ca45 {x y : Int} (hx : inR x) (hy : i32 y) (hF : 1000 ≤ F) (h0 : M.1 0 = nI n) (hn : n ≤ 12) (hco : mCo M n g) (hg : ∀ i, i < n → sOk (g i)) :
    ∀ (d m e : Nat), e + d = n → d < m → f_crossingAt_L45 F m M (zI x) (zI y) (lstI (fun i => crZ (g i) x && decide ((rkZ g x n i : Int) = y)) (fun i => i) e) (nI e) = some (M, lstI (fun i => crZ (g i) x && decide ((rkZ g x n i : Int) = y)) (fun i => i) n) := by
  intro d
  induction d with
  | zero =>
    intro m e he hm
    obtain ⟨m, rfl⟩ : ∃ q, m = q + 1 := ⟨m - 1, by omega⟩
    have e0 : e = n := by omega
    subst e0
    rw [f_crossingAt_L45, h0, if_pos (Int32.le_refl _)]
  | succ d ih =>
    intro m e he hm
    obtain ⟨m, rfl⟩ : ∃ q, m = q + 1 := ⟨m - 1, by omega⟩
    have hen : e < n := by omega
    rw [f_crossingAt_L45, h0, if_neg (by rw [nI_leI (by omega) (by omega)]; omega)]
    have i1 := ih m (e + 1) (by omega) (by omega)
    rw [lstI] at i1
    exact (e_ca60 (F := F) hx hy h0 hn hco hg (f_crossingAt_L45 F m) hen _ n F 0 (by omega) (by omega)).trans i1
theorem e_crossingAt {x y : Int} (hx : i32 x) (hy : i32 y) (hF : 1000 ≤ F) (h0 : M.1 0 = nI n) (hn : n ≤ 12) (hco : mCo M n g) (hg : ∀ i, i < n → sOk (g i)) :
    f_crossingAt F M (zI x) (zI y) = some (if inP x then (if inB y (cnt (fun i => crZ (g i) x) n) then (mpF M 23 0, lstI (fun i => crZ (g i) x && decide ((rkZ g x n i : Int) = y)) (fun i => i) n) else (mpF M 23 2, 0)) else (mpF M 23 1, 0)) := by
  unfold f_crossingAt f_crossingAt_b32
  have hc := cnt_le (fun i => crZ (g i) x) n
  rw [e_isPlace hx, cal_some]
  cases hb : inP x
  · rw [if_pos (show bI false = 0 from rfl), e_goesB 1 (by decide), caM_some]; rfl
  · have px : inR x := of_decide_eq_true (p := 0 ≤ x ∧ x ≤ 100) hb
    rw [if_neg (show ¬ bI true = 0 by decide), e_crossed hx hF h0 hn hco hg, cal_some, e_isInB hy (by omega), cal_some]
    cases hd : inB y (cnt (fun i => crZ (g i) x) n)
    · rw [if_pos (show bI false = 0 from rfl), e_goesB 2 (by decide), caM_some]; rfl
    · rw [if_neg (show ¬ bI true = 0 by decide), e_goes0, caM_some, if_neg (by decide)]
      exact e_ca45 (M := mpF M 23 0) px hy hF h0 hn hco hg n F 0 (by omega) (by omega)
/-- the segment of two ends, in order -/
def nrm (x y x2 y2 : Int) : Sg := if ltP x y x2 y2 then (x, y, x2, y2) else (x2, y2, x, y)
/-- only the thrown code, and the ends from k on, may differ -/
def mKp (k : Nat) (M M2 : MS) : Prop := M2.2.2 = M.2.2 ∧ (∀ j, j ≠ 23 → M2.1 j = M.1 j) ∧ (∀ j, j ≠ 1 → j ≠ 2 → j ≠ 3 → j ≠ 4 → M2.2.1 j = M.2.1 j) ∧ ∀ j i, i < k → M2.2.1 j i = M.2.1 j i
theorem mKp.trans {k : Nat} {M M2 M3 : MS} (h : mKp k M M2) (h2 : mKp k M2 M3) : mKp k M M3 := ⟨h2.1.trans h.1, fun j hj => (h2.2.1 j hj).trans (h.2.1 j hj), fun j a b c d => (h2.2.2.1 j a b c d).trans (h.2.2.1 j a b c d), fun j i hi => (h2.2.2.2 j i hi).trans (h.2.2.2 j i hi)⟩
theorem mKp_23 {k : Nat} (M : MS) (v : Int32) : mKp k M (mpF M 23 v) := ⟨rfl, fun j hj => va_up_ne _ _ hj, fun _ _ _ _ _ => rfl, fun _ _ _ => rfl⟩
theorem mPic_kp {M M2 : MS} {root : Nat → Nat} {r : Nat → Option Nat} {c : Nat} {lo ou : Nat → Nat} (h : mPic M n g root r c lo ou) (hk : mKp n M M2) : mPic M2 n g root r c lo ou := by
  obtain ⟨a0, a1, a2, a3, a4, a5, a6, a7, a8, a9, a10, a11, a12, a13, a14, a15⟩ := h
  obtain ⟨k1, k2, k3, k4⟩ := hk
  refine ⟨by rw [k2 0 (by decide)]; exact a0, fun i hi => by rw [k4 1 i hi, k4 2 i hi, k4 3 i hi, k4 4 i hi]; exact a1 i hi, ⟨by rw [k2 5 (by decide)]; exact a2.1, fun i hi => by unfold mV4; rw [k1]; exact a2.2 i hi⟩, ⟨by rw [k2 11 (by decide)]; exact a3.1, fun i hi => by unfold mE3; rw [k3 12 (by decide) (by decide) (by decide) (by decide), k3 13 (by decide) (by decide) (by decide) (by decide), k3 14 (by decide) (by decide) (by decide) (by decide)]; exact a3.2 i hi⟩, a4, fun v hv => by rw [k3 10 (by decide) (by decide) (by decide) (by decide)]; exact a5 v hv, by rw [k2 22 (by decide)]; exact a6, a7, a8, a9, fun s hs => by rw [k3 15 (by decide) (by decide) (by decide) (by decide)]; exact a10 s hs, by rw [k2 16 (by decide)]; exact a11, fun u hu => by rw [k3 17 (by decide) (by decide) (by decide) (by decide), k3 18 (by decide) (by decide) (by decide) (by decide)]; exact a12 u hu, fun w hw => by rw [k3 19 (by decide) (by decide) (by decide) (by decide)]; exact a13 w hw, by rw [k2 21 (by decide)]; exact a14, fun w hw => by rw [k3 20 (by decide) (by decide) (by decide) (by decide)]; exact a15 w hw⟩
theorem e_puts {i : Nat} (hi : i < 13) {x y x2 y2 : Int} (h1 : i32 x) (h2 : i32 y) (h3 : i32 x2) (h4 : i32 y2) :
    ∃ M2, f_puts F M (nI i) (zI x) (zI y) (zI x2) (zI y2) = some M2 ∧ M2.1 = M.1 ∧ M2.2.2 = M.2.2 ∧ (∀ j, j ≠ 1 → j ≠ 2 → j ≠ 3 → j ≠ 4 → M2.2.1 j = M.2.1 j) ∧ (∀ j k, k ≠ i → M2.2.1 j k = M.2.1 j k) ∧ M2.2.1 1 i = zI (sX (nrm x y x2 y2)) ∧ M2.2.1 2 i = zI (sY (nrm x y x2 y2)) ∧ M2.2.1 3 i = zI (eX (nrm x y x2 y2)) ∧ M2.2.1 4 i = zI (eY (nrm x y x2 y2)) := by
  have key : ∀ a b c d : Int32, ∃ M2, M2 = mpA (mpA (mpA (mpA M 1 (upd (M.2.1 1) i a)) 2 (upd (M.2.1 2) i b)) 3 (upd (M.2.1 3) i c)) 4 (upd (M.2.1 4) i d) ∧ M2.1 = M.1 ∧ M2.2.2 = M.2.2 ∧ (∀ j, j ≠ 1 → j ≠ 2 → j ≠ 3 → j ≠ 4 → M2.2.1 j = M.2.1 j) ∧ (∀ j k, k ≠ i → M2.2.1 j k = M.2.1 j k) ∧ M2.2.1 1 i = a ∧ M2.2.1 2 i = b ∧ M2.2.1 3 i = c ∧ M2.2.1 4 i = d := by
    intro a b c d
    refine ⟨_, rfl, rfl, rfl, fun j j1 j2 j3 j4 => ?_, fun j k hk => ?_, upI_s, upI_s, upI_s, upI_s⟩
    · rw [mpA_n _ _ j4, mpA_n _ _ j3, mpA_n _ _ j2, mpA_n _ _ j1]
    · by_cases z4 : j = 4
      · subst z4; rw [mpA_s, upI_n hk]
      · rw [mpA_n _ _ z4]
        by_cases z3 : j = 3
        · subst z3; rw [mpA_s, upI_n hk]
        · rw [mpA_n _ _ z3]
          by_cases z2 : j = 2
          · subst z2; rw [mpA_s, upI_n hk]
          · rw [mpA_n _ _ z2]
            by_cases z1 : j = 1
            · subst z1; rw [mpA_s, upI_n hk]
            · rw [mpA_n _ _ z1]
  unfold f_puts f_puts_b27 f_puts_b44 f_puts_b61 f_puts_b78 nrm
  rw [e_isBefore h1 h2 h3 h4, cal_some]
  cases hb : ltP x y x2 y2
  · obtain ⟨M2, e, k⟩ := key (zI x2) (zI y2) (zI x) (zI y)
    refine ⟨M2, ?_, k⟩
    simp only [show bI false = 0 from rfl, if_true, wrI_at hi (show 13 < 2147483648 by decide)]
    rw [e]; rfl
  · obtain ⟨M2, e, k⟩ := key (zI x) (zI y) (zI x2) (zI y2)
    refine ⟨M2, ?_, k⟩
    simp only [show ¬ bI true = 0 by decide, if_false, wrI_at hi (show 13 < 2147483648 by decide)]
    rw [e]; rfl
end MOP4
