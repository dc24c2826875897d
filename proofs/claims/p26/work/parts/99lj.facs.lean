/-! What the law's areFaces comes to. -/
section AFC
variable {F : Nat} {S : CS} {D : CD} {A sg w : Nat → Nat} {n : Nat} {g : Nat → Sg} {root rd : Nat → Nat} {c : Nat} {lo ou : Nat → Nat}
theorem fv_0 (P : cPic S D A sg w n g root rd c lo ou) : f_X6_firstVertex F S D (A 0) (nI 0) = some (-1) := by
  have hH := P.2.2.2.2.2.2.2.2
  have h0 : 0 < nFc n g root rd c := by unfold nFc; omega
  rw [k_firstVertex P h0, lstI_none c (fun u hu => ?_)]
  cases ha : arF n g (EE g n) root rd u
  · rw [fo_num u ha, num_bfr hH hu, decide_eq_false (by omega)]; rfl
  · rfl
theorem fv_u (P : cPic S D A sg w n g root rd c lo ou) {u : Nat} (hu : u < c) (ha : arF n g (EE g n) root rd u = false) (hf : foF n g (EE g n) root rd c lo ou u < nFc n g root rd c) : f_X6_firstVertex F S D (A 0) (nI (foF n g (EE g n) root rd c lo ou u)) = some (nI (lo u)) := by
  have hH := P.2.2.2.2.2.2.2.2
  rw [k_firstVertex P hf, lstI_one c hu (by rw [ha, decide_eq_true rfl]; rfl) (fun i hi hp => by
      rw [Bool.and_eq_true, Bool.not_eq_true', decide_eq_true_eq] at hp
      exact fo_inj hH hi hu hp.1 ha hp.2)]
def itsF (n : Nat) (g : Nat → Sg) (root rd : Nat → Nat) (c : Nat) (lo ou : Nat → Nat) (f e : Nat) : Bool := decide (foF n g (EE g n) root rd c lo ou (rd (2 * e)) = f) || decide (foF n g (EE g n) root rd c lo ou (rd (2 * e + 1)) = f)
theorem b_or {b : Bool} : (if b = true then (1 : Int32) else 0) = bI b := by cases b <;> rfl
theorem e_Laf245 {k1 : CD → Nat → Int32 → Int32 → Int32 → Int32 → Option (CD × Int32)} {k2 : CD → Nat → Int32 → Int32 → Int32 → Int32 → Int32 → Int32 → Int32 → Int32 → Option (CD × Int32)} (P : cPic S D A sg w n g root rd c lo ou) {e : Nat} (he : e < (EE g n).1) (x1 x2 x4 x5 x7 : Int32) (b s0 : Bool) (hI : b = true → ¬ nI (eF (EE g n) e) < x7) :
    f_L_areFaces_b245 F S k1 k2 D (A 0) x1 x2 1 x4 x5 x7 (nI e) (bI b) (bI s0) = k2 D (A 0) x1 x2 1 x4 x5 (bI s0) x7 (nI e + 1) := by
  obtain ⟨e1, e2, e3⟩ := k_ends (F := F) P he
  unfold f_L_areFaces_b245
  rw [if_neg (by decide)]
  cases b
  · rw [if_pos (show bI false = 0 from rfl)]; rfl
  · rw [if_neg (show ¬ bI true = 0 by decide), ly_k P.1 0 (by decide) (by decide), e2, cal_some, if_neg (hI rfl)]; rfl
theorem e_Laf215 {k1 : CD → Nat → Int32 → Int32 → Int32 → Int32 → Option (CD × Int32)} {k2 : CD → Nat → Int32 → Int32 → Int32 → Int32 → Int32 → Int32 → Int32 → Int32 → Option (CD × Int32)} (P : cPic S D A sg w n g root rd c lo ou) {e : Nat} (he : e < (EE g n).1) (x1 x2 x4 x7 s0 s1 s2 : Int32) (b hf : Bool) (hI : b = true → ¬ nI (eF (EE g n) e) < x7) :
    f_L_areFaces_b215 F S k1 k2 D (A 0) x1 x2 1 x4 (bI hf) x7 (nI e) (bI b) s0 s1 s2 = k2 D (A 0) x1 x2 1 x4 (s2 + (s1 + s0)) (bI (hf || (b && decide (nI (eF (EE g n) e) = x7)))) x7 (nI e + 1) := by
  obtain ⟨e1, e2, e3⟩ := k_ends (F := F) P he
  have h245 := fun s0' => e_Laf245 (F := F) (k1 := k1) (k2 := k2) P he x1 x2 x4 (s2 + (s1 + s0)) x7 b s0' hI
  unfold f_L_areFaces_b215
  cases hf
  · rw [if_pos (show bI false = 0 from rfl), Bool.false_or]
    cases b
    · rw [if_pos (show bI false = 0 from rfl)]
      exact h245 false
    · rw [if_neg (show ¬ bI true = 0 by decide), ly_k P.1 0 (by decide) (by decide), e2, cal_some, Bool.true_and]
      by_cases z : nI (eF (EE g n) e) = x7
      · rw [if_pos z, decide_eq_true z]; exact h245 true
      · rw [if_neg z, decide_eq_false z]; exact h245 false
  · rw [if_neg (show ¬ bI true = 0 by decide), Bool.true_or]
    exact h245 true
theorem nI_b (k : Nat) (b : Bool) : nI k + bI b = nI (k + if b = true then 1 else 0) := by
  cases b
  · show nI k + 0 = nI k
    exact Int32.add_zero _
  · show nI k + 1 = nI (k + 1)
    exact nI_1 k
theorem e_Laf143 (k1 : CD → Nat → Int32 → Int32 → Int32 → Int32 → Option (CD × Int32)) (P : cPic S D A sg w n g root rd c lo ou) (x1 x2 x7 : Int32) {f : Nat} (hf : f < nFc n g root rd c) (hI : ∀ e, e < (EE g n).1 → itsF n g root rd c lo ou f e = true → ¬ nI (eF (EE g n) e) < x7)
    (hE0 : f = 0 → x7 = -1) (hE1 : f ≠ 0 → 3 ≤ cnt (fun s => decide (foF n g (EE g n) root rd c lo ou (rd s) = f)) (2 * (EE g n).1) ∧ anyN (fun e => itsF n g root rd c lo ou f e && decide (nI (eF (EE g n) e) = x7)) (EE g n).1 = true ∧ ¬ x7 < x2) :
    ∀ (d m e : Nat), e + d = (EE g n).1 → d < m → f_L_areFaces_L143 F S k1 m D (A 0) x1 x2 1 (nI f) (nI (cnt (fun s => decide (foF n g (EE g n) root rd c lo ou (rd s) = f)) (2 * e))) (bI (anyN (fun e => itsF n g root rd c lo ou f e && decide (nI (eF (EE g n) e) = x7)) e)) x7 (nI e) = k1 D (A 0) (x1 + nI (cnt (fun s => decide (foF n g (EE g n) root rd c lo ou (rd s) = f)) (2 * (EE g n).1))) x7 1 (nI f + 1) := by
  obtain ⟨bV1, bE1⟩ := pic_V P
  obtain ⟨c1, c2, c3, c4⟩ := k_counts (F := F) P
  have c5 := nFc_le P
  intro d
  induction d with
  | zero =>
    intro m e hi hm
    obtain ⟨m, rfl⟩ : ∃ q, m = q + 1 := ⟨m - 1, by omega⟩
    have e9 : e = (EE g n).1 := by omega
    have lc := cnt_le (fun s => decide (foF n g (EE g n) root rd c lo ou (rd s) = f)) (2 * (EE g n).1)
    rw [e9, f_L_areFaces_L143, ly_k P.1 0 (by decide) (by decide), c2, cal_some, if_pos (Int32.le_refl _), if_neg (by decide), k_sides P hf, cal_some, if_pos rfl]
    by_cases z : f = 0
    · rw [if_pos (show nI f = 0 by rw [z]; rfl), if_pos (hE0 z)]; rfl
    · obtain ⟨q1, q2, q3⟩ := hE1 z
      rw [if_neg (show ¬ nI f = 0 from fun w => z ((nI_eq (b := 0) (by omega) (by omega)).mp w)), if_neg (show ¬ nI (cnt (fun s => decide (foF n g (EE g n) root rd c lo ou (rd s) = f)) (2 * (EE g n).1)) < 3 from fun w => by
        rw [nI_zI] at w
        have := (zI_lt (b := 3) ⟨by omega, by omega⟩ ⟨by omega, by omega⟩).mp w; omega), q2, if_neg (show ¬ bI true = 0 by decide), if_neg q3]
      rfl
  | succ d ih =>
    intro m e hi hm
    obtain ⟨m, rfl⟩ : ∃ q, m = q + 1 := ⟨m - 1, by omega⟩
    have he : e < (EE g n).1 := by omega
    have go := ih m (e + 1) (by omega) (by omega)
    rw [anyN, show 2 * (e + 1) = 2 * e + 1 + 1 by omega, cnt, cnt] at go
    obtain ⟨e4, e5⟩ := k_lr (F := F) P he
    have l1 := fc_lt P (s := 2 * e) (by omega)
    have l2 := fc_lt P (s := 2 * e + 1) (by omega)
    have q1 : nI (foF n g (EE g n) root rd c lo ou (rd (2 * e))) = nI f ↔ _ := nI_eq (by omega) (by omega)
    have q2 : nI (foF n g (EE g n) root rd c lo ou (rd (2 * e + 1))) = nI f ↔ _ := nI_eq (by omega) (by omega)
    have s179 : ∀ b, itsF n g root rd c lo ou f e = b → f_L_areFaces_b179 F S k1 (f_L_areFaces_L143 F S k1 m) D (A 0) x1 x2 1 (nI f) (nI (cnt (fun s => decide (foF n g (EE g n) root rd c lo ou (rd s) = f)) (2 * e))) (bI (anyN (fun e => itsF n g root rd c lo ou f e && decide (nI (eF (EE g n) e) = x7)) e)) x7 (nI e) (bI b) = k1 D (A 0) (x1 + nI (cnt (fun s => decide (foF n g (EE g n) root rd c lo ou (rd s) = f)) (2 * (EE g n).1))) x7 1 (nI f + 1) := by
      intro b hb
      have h215 := fun s0 s1 s2 => e_Laf215 (F := F) (k1 := k1) (k2 := f_L_areFaces_L143 F S k1 m) P he x1 x2 (nI f) x7 s0 s1 s2 b (anyN (fun e => itsF n g root rd c lo ou f e && decide (nI (eF (EE g n) e) = x7)) e) (fun w => hI e he (hb.trans w))
      rw [hb] at go
      have as : ∀ (k : Nat) (a b : Bool), nI k + (bI a + bI b) = nI (k + (if a = true then 1 else 0) + if b = true then 1 else 0) := fun k a b => by
        rw [← Int32.add_assoc, nI_b, nI_b]
      have h199 : ∀ a : Bool, decide (foF n g (EE g n) root rd c lo ou (rd (2 * e)) = f) = a → f_L_areFaces_b199 F S k1 (f_L_areFaces_L143 F S k1 m) D (A 0) x1 x2 1 (nI f) (bI (anyN (fun e => itsF n g root rd c lo ou f e && decide (nI (eF (EE g n) e) = x7)) e)) x7 (nI e) (bI b) (bI a) (nI (cnt (fun s => decide (foF n g (EE g n) root rd c lo ou (rd s) = f)) (2 * e))) = k1 D (A 0) (x1 + nI (cnt (fun s => decide (foF n g (EE g n) root rd c lo ou (rd s) = f)) (2 * (EE g n).1))) x7 1 (nI f + 1) := by
        intro a ha
        rw [ha] at go
        unfold f_L_areFaces_b199
        rw [ly_k P.1 0 (by decide) (by decide), e5, cal_some]
        by_cases z : foF n g (EE g n) root rd c lo ou (rd (2 * e + 1)) = f
        · rw [if_pos (q2.mpr z), h215, show (1 : Int32) = bI true from rfl, as, show bI true = (1 : Int32) from rfl, nI_1]
          rw [decide_eq_true z] at go
          exact go
        · rw [if_neg (mt q2.mp z), h215, show (0 : Int32) = bI false from rfl, as, nI_1]
          rw [decide_eq_false z] at go
          exact go
      unfold f_L_areFaces_b179
      rw [ly_k P.1 0 (by decide) (by decide), e4, cal_some]
      by_cases z : foF n g (EE g n) root rd c lo ou (rd (2 * e)) = f
      · rw [if_pos (q1.mpr z)]; exact h199 true (decide_eq_true z)
      · rw [if_neg (mt q1.mp z)]; exact h199 false (decide_eq_false z)
    rw [f_L_areFaces_L143, ly_k P.1 0 (by decide) (by decide), c2, cal_some, if_neg (fun w => by have := (nI_leI (a := (EE g n).1) (b := e) (by omega) (by omega)).mp w; omega), e4, cal_some]
    by_cases z : foF n g (EE g n) root rd c lo ou (rd (2 * e)) = f
    · rw [if_pos (q1.mpr z)]
      exact s179 true (by unfold itsF; rw [decide_eq_true z]; rfl)
    · rw [if_neg (mt q1.mp z), e5, cal_some]
      by_cases z2 : foF n g (EE g n) root rd c lo ou (rd (2 * e + 1)) = f
      · rw [if_pos (q2.mpr z2)]
        exact s179 true (by unfold itsF; rw [decide_eq_true z2, Bool.or_true])
      · rw [if_neg (mt q2.mp z2)]
        exact s179 false (by unfold itsF; rw [decide_eq_false z, decide_eq_false z2]; rfl)
theorem e_LareFaces (P : cPic S D A sg w n g root rd c lo ou) (hF : 1000 ≤ F) : f_L_areFaces F S D (A 0) = some (D, 1) := by
  obtain ⟨bV1, bE1⟩ := pic_V P
  have hn := P.2.2.1
  have hH := P.2.2.2.2.2.2.2.2
  have hgo := hH.1
  have hE := hH.2.1
  obtain ⟨c1, c2, c3, c4⟩ := k_counts (F := F) P
  have c5 := nFc_le P
  have c3 : f_X6_faces F S D (A 0) = some (nI (nFc n g root rd c)) := c3
  have eu := euler hH
  have cl := comp_le hH
  have lV := cnt_le (fun v => decide (root v = v)) (vI g n).1
  have e0 : nFc n g root rd c = 1 + cnt (fun u => !arF n g (EE g n) root rd u) c := by
    show 1 + cnt _ c = _
    congr 1; exact cnt_congr (fun u _ => Bool.and_true _)
  have hds : nsm (fun f => cnt (fun s => decide (foF n g (EE g n) root rd c lo ou (rd s) = f)) (2 * (EE g n).1)) (nFc n g root rd c) = 2 * (EE g n).1 := nsm_all (fun s hs => fc_lt P hs)
  have hrdc : ∀ s, s < 2 * (EE g n).1 → rd s < c := hH.2.2.2.2.2.1
  have L113 : ∀ (d m f : Nat) (x2 : Int32), f + d = nFc n g root rd c → d < m → (f ≤ 1 → x2 = -1) → (∀ u, u < c → arF n g (EE g n) root rd u = false → foF n g (EE g n) root rd c lo ou u + 1 = f → x2 = nI (lo u)) → f_L_areFaces_L113 F S m D (A 0) (nI (nsm (fun f => cnt (fun s => decide (foF n g (EE g n) root rd c lo ou (rd s) = f)) (2 * (EE g n).1)) f)) x2 1 (nI f) = some (D, 1) := by
    intro d
    induction d with
    | zero =>
      intro m f x2 hi hm h0 h1
      obtain ⟨m, rfl⟩ : ∃ q, m = q + 1 := ⟨m - 1, by omega⟩
      rw [f_L_areFaces_L113, ly_k P.1 0 (by decide) (by decide), c3, cal_some, if_pos ((nI_leI (by omega) (by omega)).mpr (by omega))]
      unfold f_L_areFaces_b345
      rw [if_neg (by decide), ly_k P.1 0 (by decide) (by decide), c2, cal_some, show f = nFc n g root rd c by omega, hds, two_nI, if_pos rfl]
      rfl
    | succ d ih =>
      intro m f x2 hi hm h0 h1
      obtain ⟨m, rfl⟩ : ∃ q, m = q + 1 := ⟨m - 1, by omega⟩
      have hf : f < nFc n g root rd c := by omega
      rw [f_L_areFaces_L113, ly_k P.1 0 (by decide) (by decide), c3, cal_some, if_neg (fun w => by have := (nI_leI (a := nFc n g root rd c) (b := f) (by omega) (by omega)).mp w; omega), if_neg (by decide)]
      have goal : ∀ x7 : Int32, f_X6_firstVertex F S D (A 0) (nI f) = some x7 → (∀ e, e < (EE g n).1 → itsF n g root rd c lo ou f e = true → ¬ nI (eF (EE g n) e) < x7) → (f = 0 → x7 = -1) → (f ≠ 0 → 3 ≤ cnt (fun s => decide (foF n g (EE g n) root rd c lo ou (rd s) = f)) (2 * (EE g n).1) ∧ anyN (fun e => itsF n g root rd c lo ou f e && decide (nI (eF (EE g n) e) = x7)) (EE g n).1 = true ∧ ¬ x7 < x2) → (∀ u, u < c → arF n g (EE g n) root rd u = false → foF n g (EE g n) root rd c lo ou u + 1 = f + 1 → x7 = nI (lo u)) → cal (f_X6_firstVertex F S D (A 0) (nI f)) (fun t7 => f_L_areFaces_L143 F S (f_L_areFaces_L113 F S m) F D (A 0) (nI (nsm (fun f => cnt (fun s => decide (foF n g (EE g n) root rd c lo ou (rd s) = f)) (2 * (EE g n).1)) f)) x2 1 (nI f) 0 0 t7 0) = some (D, 1) := by
        intro x7 hx hI hE0 hE1 hnx
        rw [hx, cal_some]
        have h143 := e_Laf143 (F := F) (f_L_areFaces_L113 F S m) P (nI (nsm (fun f => cnt (fun s => decide (foF n g (EE g n) root rd c lo ou (rd s) = f)) (2 * (EE g n).1)) f)) x2 x7 hf hI hE0 hE1 (EE g n).1 F 0 (by omega) (by omega)
        refine Eq.trans h143 ?_
        have go := ih m (f + 1) x7 (by omega) (by omega) (fun w => hE0 (by omega)) hnx
        rw [nsm] at go
        rw [ixk, nI_1]
        first | exact go | (rw [Nat.add_comm] at go; exact go)
      by_cases z : f = 0
      · refine goal (-1) (by rw [z]; exact fv_0 P) (fun e he _ w => ?_) (fun _ => rfl) (fun w => absurd z w) (fun u hu ha w => by have := fo_pos hH hu ha; omega)
        have := eF_lt hE he
        rw [nI_zI, show (-1 : Int32) = zI (-1) from rfl] at w
        have := (zI_lt (a := (eF (EE g n) e : Int)) (b := -1) ⟨by omega, by omega⟩ ⟨by omega, by omega⟩).mp w
        omega
      · obtain ⟨u, u1, u2, u3⟩ := fo_surj hH (show 0 < f by omega) hf
        obtain ⟨w1, w2, w3⟩ := face_has hH u1
        have lF := eF_lt hE w1
        have hlo : lo u < 1000 := by rw [← w2]; omega
        refine goal (nI (lo u)) (by rw [← u3]; exact fv_u P u1 u2 (by omega)) (fun e he hit w => ?_) (fun w => absurd w z) (fun _ => ⟨?_, ?_, ?_⟩) (fun u' hu' ha' w => by rw [fo_inj hH hu' u1 ha' u2 (by omega)])
        · have := eF_lt hE he
          have h9 := face_from hH u1 u2 he (by
            unfold itsF at hit
            rw [Bool.or_eq_true, decide_eq_true_eq, decide_eq_true_eq] at hit
            rw [u3]; exact hit)
          rw [nI_zI, nI_zI] at w
          have := (zI_lt (a := (eF (EE g n) e : Int)) (b := (lo u : Int)) ⟨by omega, by omega⟩ ⟨by omega, by omega⟩).mp w
          omega
        · have := face_three hH u1 u2
          rw [u3] at this; exact this
        · refine anyN_iff.mpr ⟨ou u / 2, w1, ?_⟩
          unfold itsF
          rw [w3, u3, decide_eq_true rfl, w2, decide_eq_true rfl]; rfl
        · intro w
          by_cases z1 : f = 1
          · rw [h0 (by omega), nI_zI, show (-1 : Int32) = zI (-1) from rfl] at w
            have := (zI_lt (a := (lo u : Int)) (b := -1) ⟨by omega, by omega⟩ ⟨by omega, by omega⟩).mp w
            omega
          · obtain ⟨u', v1, v2, v3⟩ := fo_surj hH (x := f - 1) (by omega) (by omega)
            have := face_ord hH v1 u1 v2 u2 (by omega)
            rw [h1 u' v1 v2 (by omega), nI_zI, nI_zI] at w
            have := (zI_lt (a := (lo u : Int)) (b := (lo u' : Int)) ⟨by omega, by omega⟩ ⟨by omega, by omega⟩).mp w
            omega
  have run := L113 (nFc n g root rd c) F 0 (-1) (by omega) (by omega) (fun _ => rfl) (fun u hu ha w => by omega)
  have bad : inB (nFc n g root rd c : Int) (nFc n g root rd c) = false := decide_eq_false (by omega)
  have bad2 : inB (-1) (nFc n g root rd c) = false := decide_eq_false (by omega)
  have b59 : f_L_areFaces_b59 F S D (A 0) 0 (-1) = some (D, 1) := by
    have o1 : f_L_of F S D (A 0) 11 (nI (nFc n g root rd c)) = some (D, -601) := by
      unfold f_L_of
      rw [ly_k P.1 0 (by decide) (by decide), nI_zI, if_neg (by decide), if_neg (by decide), if_neg (by decide), if_neg (by decide), if_neg (by decide), if_neg (by decide), if_neg (by decide), if_neg (by decide), if_neg (by decide), if_neg (by decide), if_neg (by decide), if_pos (by decide), tp_sides P ⟨by omega, by omega⟩ bad, th1_of]
    have o2 : f_L_of F S D (A 0) 12 (nI (nFc n g root rd c)) = some (D, -601) := by
      unfold f_L_of
      rw [ly_k P.1 0 (by decide) (by decide), nI_zI, if_neg (by decide), if_neg (by decide), if_neg (by decide), if_neg (by decide), if_neg (by decide), if_neg (by decide), if_neg (by decide), if_neg (by decide), if_neg (by decide), if_neg (by decide), if_neg (by decide), if_neg (by decide), tp_firstVertex P ⟨by omega, by omega⟩ bad, th1_of]
    have o3 : f_L_of F S D (A 0) 11 (-1) = some (D, -601) := by
      unfold f_L_of
      rw [ly_k P.1 0 (by decide) (by decide), show (-1 : Int32) = zI (-1) from rfl, if_neg (by decide), if_neg (by decide), if_neg (by decide), if_neg (by decide), if_neg (by decide), if_neg (by decide), if_neg (by decide), if_neg (by decide), if_neg (by decide), if_neg (by decide), if_neg (by decide), if_pos (by decide), tp_sides P ⟨by omega, by omega⟩ bad2, th1_of]
    unfold f_L_areFaces_b59
    rw [ly_k P.1 0 (by decide) (by decide), c3, cal_some, o1, caM_some, if_pos rfl, c3, cal_some, o2, caM_some, if_pos rfl, o3, caM_some, if_pos rfl]
    exact run
  have eul : nI (nFc n g root rd c) = ((nI (EE g n).1 - nI (vI g n).1) + nI (cnt (fun v => decide (root v = v)) (vI g n).1)) + 1 := by
    rw [nI_zI, nI_zI, nI_zI, nI_zI, zI_sub, zI_add]
    show _ = zI _ + zI 1
    rw [zI_add]; congr 1; omega
  unfold f_L_areFaces
  rw [ly_k P.1 0 (by decide) (by decide), c3, cal_some, c2, cal_some, c1, cal_some, c4, cal_some, if_pos eul, cal_some, if_neg (nI_lt0 (by omega)), cal_some, k_segments P, cal_some, if_neg (fun w => by
    rw [nI_zI, nI_zI] at w
    have := (zI_lt (a := (n : Int)) (b := (cnt (fun v => decide (root v = v)) (vI g n).1 : Int)) ⟨by omega, by omega⟩ ⟨by omega, by omega⟩).mp w
    omega), cal_some]
  by_cases z : n = 0
  · rw [if_pos (show nI n = 0 by rw [z]; rfl)]; exact b59
  · have hE1 : 0 < (EE g n).1 := Nat.pos_of_ne_zero (fun w => z ((no_edges hgo hE).mp w))
    have hV1 := (eF_lt hE hE1).1
    have hc1 : 0 < cnt (fun v => decide (root v = v)) (vI g n).1 := Nat.pos_of_ne_zero (fun w => by
      have := cnt_0.mp w 0 (by omega)
      have h2 := hH.2.2.2.2.1.1 0 (by omega)
      rw [decide_eq_true (show root 0 = 0 by omega)] at this
      cases this)
    rw [if_neg (show ¬ nI n = 0 from fun w => z ((nI_eq (b := 0) (by omega) (by omega)).mp w)), cal_some, if_neg (fun w => by
      have := (nI_leI (a := cnt (fun v => decide (root v = v)) (vI g n).1) (b := 0) (by omega) (by omega)).mp w
      omega)]
    exact b59
end AFC
