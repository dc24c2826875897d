/-! What the law's areEdges comes to. -/
section AED
variable {F : Nat} {S : CS} {D : CD} {A sg w : Nat → Nat} {n : Nat} {g : Nat → Sg} {root rd : Nat → Nat} {c : Nat} {lo ou : Nat → Nat} {gA mA : Nat}
theorem nI_lt0 {k : Nat} (h : k < 2000000000) : ¬ nI k < 0 := fun w => by
  rw [nI_zI] at w
  have := (zI_lt0 (a := (k : Int)) ⟨by omega, by omega⟩).mp w; omega
theorem nI_sb {k : Nat} (h : 0 < k) : nI k - 1 = nI (k - 1) := by
  rw [nI_zI, nI_zI]; show zI k - zI 1 = _; rw [zI_sub]; congr 1; omega
theorem nFc_bd (P : cPic S D A sg w n g root rd c lo ou) : f_X6_faces F S D (A 0) = some (nI (nFc n g root rd c)) ∧ nFc n g root rd c ≤ 1000 := by
  obtain ⟨c1, c2, c3, c4⟩ := k_counts (F := F) P
  obtain ⟨bV1, bE1⟩ := pic_V P
  have hH := P.2.2.2.2.2.2.2.2
  exact ⟨c3, by have := nFc_le P; omega⟩
theorem e_Lae297 {k : CD → Nat → Nat → Nat → Int32 → Int32 → Int32 → Option (CD × Int32)} (P : cPic S D A sg w n g root rd c lo ou) {e : Nat} (he : e < (EE g n).1) (x6 : Int32) :
    f_L_areEdges_b297 F S k D (A 0) gA mA (nI e) x6 = k D (A 0) gA mA 1 x6 (nI e + 1) := by
  obtain ⟨e4, e5⟩ := k_lr (F := F) P he
  obtain ⟨c3, c5⟩ := nFc_bd (F := F) P
  have l1 := fc_lt P (s := 2 * e) (by omega)
  have l2 := fc_lt P (s := 2 * e + 1) (by omega)
  unfold f_L_areEdges_b297
  rw [ly_k P.1 0 (by decide) (by decide), e4, cal_some, if_neg (nI_lt0 (by omega)), cal_some, c3, cal_some, if_neg (fun w => by have := (nI_leI (by omega) (by omega)).mp w; omega), e5, cal_some, if_neg (nI_lt0 (by omega)), cal_some, cal_some, if_neg (fun w => by have := (nI_leI (by omega) (by omega)).mp w; omega)]
  rfl
theorem e_Lae263 {k : CD → Nat → Nat → Nat → Int32 → Int32 → Int32 → Option (CD × Int32)} (P : cPic S D A sg w n g root rd c lo ou) (hg : gOn S gA) (hr : ∀ i, i < n → rowG D gA i (g i)) {e : Nat} (he : e < (EE g n).1) {b : Bool} (hb : b = true → (vI g n).2 (eT (EE g n) e) = pE (g (eS (EE g n) e))) :
    f_L_areEdges_b263 F S k D (A 0) gA mA (nI e) (nI (eS (EE g n) e)) (bI b) = k D (A 0) gA mA 1 (nI (eS (EE g n) e)) (nI e + 1) := by
  have hn := P.2.2.1
  have hgo := P.2.2.2.2.2.2.2.2.1
  have hE := (EE_facts hgo hn).2.2.1
  obtain ⟨e1, e2, e3⟩ := k_ends (F := F) P he
  obtain ⟨s1, s2, s3⟩ := hE.1 e he
  obtain ⟨r0, r1, r2, r3⟩ := hr _ s1
  unfold f_L_areEdges_b263
  cases b
  · rw [if_pos (show bI false = 0 from rfl)]; exact e_Lae297 P he _
  · rw [if_neg (show ¬ bI true = 0 by decide), ly_k P.1 0 (by decide) (by decide), e3, cal_some, ck_ok hg.1, ix2, ix3, g_rd hg (by omega), g_rd hg (by omega), r2, r3, e_LisEnd P s2 (hb rfl), cal_some, if_neg (by decide)]
    exact e_Lae297 P he _
theorem e_Lae140 {k : CD → Nat → Nat → Nat → Int32 → Int32 → Int32 → Option (CD × Int32)} (P : cPic S D A sg w n g root rd c lo ou) (hg : gOn S gA) (hm : mOn S mA) (hr : ∀ i, i < n → rowG D gA i (g i)) (hn0 : D.2.2.1 mA 0 = nI n) {e : Nat} (he : e < (EE g n).1) {a b : Bool} (ha : a = true → (vI g n).2 (eF (EE g n) e) = pS (g (eS (EE g n) e))) (ha2 : a = false → 0 < e ∧ eF (EE g n) e = eT (EE g n) (e - 1)) (hb : b = true → (vI g n).2 (eT (EE g n) e) = pE (g (eS (EE g n) e))) :
    f_L_areEdges_b140 F S k D (A 0) gA mA (nI e) (nI (eS (EE g n) e)) (bI a) (bI b) (nI (eS (EE g n) e)) (nI (eS (EE g n) e)) = k D (A 0) gA mA 1 (nI (eS (EE g n) e)) (nI e + 1) := by
  have hn := P.2.2.1
  have hgo := P.2.2.2.2.2.2.2.2.1
  have hE := (EE_facts hgo hn).2.2.1
  obtain ⟨bV1, bE1⟩ := pic_V P
  obtain ⟨c1, c2, c3, c4⟩ := k_counts (F := F) P
  obtain ⟨e1, e2, e3⟩ := k_ends (F := F) P he
  obtain ⟨s1, s2, s3, s4, s5, s6⟩ := hE.1 e he
  have h263 := e_Lae263 (F := F) (k := k) (mA := mA) P hg hr he hb
  have hR := hr _ s1
  obtain ⟨r0, r1, r2, r3⟩ := hr _ s1
  have s2 : eT (EE g n) e < (vI g n).1 := s2
  have s7 : eF (EE g n) e < (vI g n).1 := Nat.lt_trans s3 s2
  unfold f_L_areEdges_b140
  rw [if_pos rfl, ck_ok hm.1, m_rd hm, hn0, if_neg (fun w => by have := (nI_leI (by omega) (by omega)).mp w; omega), ly_k P.1 0 (by decide) (by decide), e2, cal_some, e3, cal_some, if_neg (fun w => by have := (nI_leI (by omega) (by omega)).mp w; omega), cal_some, c1, cal_some, if_neg (fun w => by have := (nI_leI (by omega) (by omega)).mp w; omega), cal_some, e_LisOn P hg hR (by omega) (hgo.1 _ s1) s7, cal_some, s4, if_neg (show ¬ bI true = 0 by decide), cal_some, e_LisOn P hg hR (by omega) (hgo.1 _ s1) s2, cal_some, s5, if_neg (show ¬ bI true = 0 by decide)]
  cases a
  · obtain ⟨z1, z2⟩ := ha2 rfl
    obtain ⟨q1, q2, q3⟩ := k_ends (F := F) P (e := e - 1) (by omega)
    rw [if_pos (show bI false = 0 from rfl), cal_some, nI_sb z1, q3, cal_some, z2, if_pos rfl]
    exact h263
  · rw [if_neg (show ¬ bI true = 0 by decide), cal_some, ck_ok hg.1, ix1, ix0, g_rd hg (by omega), g_rd hg (by omega), r0, r1, e_LisEnd P s7 (ha rfl), cal_some, if_neg (by decide)]
    exact h263
theorem e_LareEdges (P : cPic S D A sg w n g root rd c lo ou) (hF : 1000 ≤ F) (hg : gOn S gA) (hm : mOn S mA) (hr : ∀ i, i < n → rowG D gA i (g i)) (hn0 : D.2.2.1 mA 0 = nI n) : f_L_areEdges F S D (A 0) gA mA = some (D, 1) := by
  obtain ⟨bV1, bE1⟩ := pic_V P
  have hn := P.2.2.1
  have hgo := P.2.2.2.2.2.2.2.2.1
  have hE := (EE_facts hgo hn).2.2.1
  obtain ⟨c1, c2, c3, c4⟩ := k_counts (F := F) P
  have eq1 : ∀ e e', e < (EE g n).1 → e' < (EE g n).1 → (nI (eS (EE g n) e) = nI (eS (EE g n) e') ↔ eS (EE g n) e = eS (EE g n) e') := fun e e' h h' => nI_eq (by have := (hE.1 e h).1; omega) (by have := (hE.1 e' h').1; omega)
  -- one edge
  have step91 : ∀ (k : CD → Nat → Nat → Nat → Int32 → Int32 → Int32 → Option (CD × Int32)) (e : Nat) (a : Bool) (x4 : Int32), e < (EE g n).1 → (a = true → (vI g n).2 (eF (EE g n) e) = pS (g (eS (EE g n) e))) → (a = false → 0 < e ∧ eF (EE g n) e = eT (EE g n) (e - 1)) → (if bI a = 0 then x4 else x4 + 1) = nI (eS (EE g n) e) → f_L_areEdges_b91 F S k D (A 0) gA mA x4 (nI e) (nI (eS (EE g n) e)) (bI a) = k D (A 0) gA mA 1 (nI (eS (EE g n) e)) (nI e + 1) := by
    intro k e a x4 he ha ha2 hx
    have s122 : ∀ b : Bool, (b = true → (vI g n).2 (eT (EE g n) e) = pE (g (eS (EE g n) e))) → f_L_areEdges_b122 F S k D (A 0) gA mA x4 (nI e) (nI (eS (EE g n) e)) (bI a) (bI b) = k D (A 0) gA mA 1 (nI (eS (EE g n) e)) (nI e + 1) := by
      intro b hb
      have h140 := e_Lae140 (F := F) (k := k) P hg hm hr hn0 he ha ha2 hb
      unfold f_L_areEdges_b122
      cases a
      · rw [if_pos (show bI false = 0 from rfl)]
        rw [if_pos (show bI false = 0 from rfl)] at hx
        rw [hx]; exact h140
      · rw [if_neg (show ¬ bI true = 0 by decide)]
        rw [if_neg (show ¬ bI true = 0 by decide)] at hx
        rw [hx]; exact h140
    unfold f_L_areEdges_b91
    rw [ly_k P.1 0 (by decide) (by decide), c2, cal_some, nI_sb (k := (EE g n).1) (by omega)]
    by_cases z : e = (EE g n).1 - 1
    · rw [if_pos (by rw [← z])]
      exact s122 true (fun _ => edge_last hgo hE he (Or.inl z))
    · obtain ⟨q1, q2, q3⟩ := k_ends (F := F) P (e := e + 1) (by omega)
      rw [if_neg (fun w => z ((nI_eq (by omega) (by omega)).mp w)), nI_1, q1, cal_some]
      rw [nI_1] at s122
      by_cases z2 : eS (EE g n) (e + 1) = eS (EE g n) e
      · rw [if_pos (by rw [z2])]
        exact s122 false (fun w => by cases w)
      · rw [if_neg (fun w => z2 ((eq1 _ _ (by omega) he).mp w))]
        exact s122 true (fun _ => edge_last hgo hE he (Or.inr z2))
  have L47 : ∀ (d m e : Nat), e + d = (EE g n).1 → d < m → f_L_areEdges_L47 F S m D (A 0) gA mA 1 (if e = 0 then -1 else nI (eS (EE g n) (e - 1))) (nI e) = some (D, 1) := by
    intro d
    induction d with
    | zero =>
      intro m e hi hm2
      obtain ⟨m, rfl⟩ : ∃ q, m = q + 1 := ⟨m - 1, by omega⟩
      rw [f_L_areEdges_L47, ly_k P.1 0 (by decide) (by decide), c2, cal_some, if_pos ((nI_leI (by omega) (by omega)).mpr (by omega))]
      unfold f_L_areEdges_b357
      rw [if_neg (by decide), ck_ok hm.1, m_rd hm, hn0]
      by_cases z : (EE g n).1 = 0
      · have z2 := (no_edges hgo hE).mp z
        rw [if_pos (show e = 0 by omega), z2, if_pos (by decide)]; rfl
      · have z2 := edge_end hgo hE (by omega)
        rw [if_neg (show ¬ e = 0 by omega), nI_sb (by omega), if_pos (by congr 1; rw [show e = (EE g n).1 by omega]; omega)]; rfl
    | succ d ih =>
      intro m e hi hm2
      obtain ⟨m, rfl⟩ : ∃ q, m = q + 1 := ⟨m - 1, by omega⟩
      have he : e < (EE g n).1 := by omega
      have go := ih m (e + 1) (by omega) (by omega)
      rw [if_neg (show ¬ e + 1 = 0 by omega), Nat.add_sub_cancel] at go
      obtain ⟨e1, e2, e3⟩ := k_ends (F := F) P he
      have s91 := fun a x4 => step91 (f_L_areEdges_L47 F S m) e a x4 he
      rw [nI_1, go] at s91
      rw [f_L_areEdges_L47, ly_k P.1 0 (by decide) (by decide), c2, cal_some, if_neg (fun w => by have := (nI_leI (a := (EE g n).1) (b := e) (by omega) (by omega)).mp w; omega), if_neg (by decide), e1, cal_some]
      by_cases z : e = 0
      · rw [if_pos (show nI e = 0 by rw [z]; rfl), if_pos z]
        exact s91 true (-1) (fun _ => edge_first hgo hE he (Or.inl z)) (fun w => by cases w) (by rw [if_neg (show ¬ bI true = 0 by decide), z, edge_zero hgo hE (by omega)]; decide)
      · obtain ⟨q1, q2, q3⟩ := k_ends (F := F) P (e := e - 1) (by omega)
        rw [if_neg (show ¬ nI e = 0 from fun w => z ((nI_eq (b := 0) (by omega) (by omega)).mp w)), if_neg z, nI_sb (show 0 < e by omega), q1, cal_some]
        by_cases z2 : eS (EE g n) (e - 1) = eS (EE g n) e
        · rw [if_pos (by rw [z2])]
          exact s91 false _ (fun w => by cases w) (fun _ => ⟨by omega, edge_chain hgo hE (by omega) he z2⟩) (by rw [if_pos (show bI false = 0 from rfl), z2])
        · rw [if_neg (fun w => z2 ((eq1 _ _ (by omega) he).mp w))]
          exact s91 true _ (fun _ => edge_first hgo hE he (Or.inr z2)) (fun w => by cases w) (by rw [if_neg (show ¬ bI true = 0 by decide), nI_1, edge_step hgo hE (by omega) he z2])
  have hrem : nI n - nI n / 5 * 5 = nI (n % 5) := pk_rem (a := n) (d := 5) (by omega) (by decide) (by decide)
  have bad : inB ((EE g n).1 : Int) (EE g n).1 = false := decide_eq_false (by omega)
  have bad2 : inB (-1) (EE g n).1 = false := decide_eq_false (by omega)
  have of1 : f_L_of F S D (A 0) (6 + nI (n % 5)) (nI (EE g n).1) = some (D, -601) := by
    have h5 : n % 5 = 0 ∨ n % 5 = 1 ∨ n % 5 = 2 ∨ n % 5 = 3 ∨ n % 5 = 4 := by omega
    unfold f_L_of
    rw [ly_k P.1 0 (by decide) (by decide), nI_zI (EE g n).1]
    rcases h5 with h | h | h | h | h <;> rw [h, if_neg (by decide), if_neg (by decide), if_neg (by decide), if_neg (by decide), if_neg (by decide), if_neg (by decide)]
    · rw [if_pos (by decide), tp_segmentOf P ⟨by omega, by omega⟩ bad, th1_of]
    · rw [if_neg (by decide), if_pos (by decide), tp_from P ⟨by omega, by omega⟩ bad, th1_of]
    · rw [if_neg (by decide), if_neg (by decide), if_pos (by decide), tp_to P ⟨by omega, by omega⟩ bad, th1_of]
    · rw [if_neg (by decide), if_neg (by decide), if_neg (by decide), if_pos (by decide), tp_leftOf P ⟨by omega, by omega⟩ bad, th1_of]
    · rw [if_neg (by decide), if_neg (by decide), if_neg (by decide), if_neg (by decide), if_pos (by decide), tp_rightOf P ⟨by omega, by omega⟩ bad, th1_of]
  have of2 : f_L_of F S D (A 0) 8 (-1) = some (D, -601) := by
    unfold f_L_of
    rw [ly_k P.1 0 (by decide) (by decide), show (-1 : Int32) = zI (-1) from rfl, if_neg (by decide), if_neg (by decide), if_neg (by decide), if_neg (by decide), if_neg (by decide), if_neg (by decide), if_neg (by decide), if_neg (by decide), if_pos (by decide), tp_to P ⟨by omega, by omega⟩ bad2, th1_of]
  unfold f_L_areEdges
  rw [ck_ok hm.1, m_rd hm, hn0, ly_k P.1 0 (by decide) (by decide), c2, cal_some, hrem, of1, caM_some, if_pos rfl, of2, caM_some, if_pos rfl]
  unfold f_L_areEdges_b40
  have h0 := L47 (EE g n).1 F 0 (by omega) (by omega)
  rw [if_pos rfl] at h0
  exact h0
end AED
