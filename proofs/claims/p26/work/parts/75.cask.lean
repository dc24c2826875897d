/-! ### the class's plain answers -/
section CAS
variable {F : Nat} {S : CS} {D : CD} {A sg w : Nat → Nat} {n : Nat} {g : Nat → Sg} {root rd lo ou : Nat → Nat} {c : Nat}
theorem k_segments (P : cPic S D A sg w n g root rd c lo ou) : f_X6_segments F S D (A 0) = some (nI n) := by
  obtain ⟨hL, hl, hn, -⟩ := P
  unfold f_X6_segments
  rw [ly_k hL 0 (by decide) (by decide), ly_r hL 0 0 1 (by decide), ly_k hL 1 (by decide) (by decide), k_size hL hl, cal_some]
theorem k_ckSeg (P : cPic S D A sg w n g root rd c lo ou) {i : Nat} (hi : i < n) : f_X6_checkSegment F S D (A 0) (nI i) = some () := by
  obtain ⟨hL, hl, hn, -⟩ := P
  unfold f_X6_checkSegment
  rw [if_neg (nI_pos (by omega)), ly_k hL 0 (by decide) (by decide), ly_r hL 0 0 1 (by decide), ly_k hL 1 (by decide) (by decide), k_size hL hl, cal_some, if_pos ((nI_ltI (by omega) (by omega)).mpr hi)]
theorem com_self {s : Sg} (h : sOk s) : com s s = 2 := by
  have e : ct s s s = 0 := by unfold ct; grind
  unfold com
  rw [if_pos (cr_self s), if_pos e]
  unfold onl
  have h1 : ltP (sX s) (sY s) (sX s) (sY s) = false := decide_eq_false (by omega)
  have h2 : ltP (eX s) (eY s) (eX s) (eY s) = false := decide_eq_false (by omega)
  rw [h1, h2]
  simp only [Bool.false_eq_true, if_false]
  rw [if_pos h.2]
theorem k_meet (P : cPic S D A sg w n g root rd c lo ou) {i j : Nat} (hi : i < n) (hj : j < n) : f_X6_meet F S D (A 0) (nI i) (nI j) = some (bI (decide (i = j) || decide (0 < com (g i) (g j)))) := by
  have h1 := k_ckSeg (F := F) P hi
  have h2 := k_ckSeg (F := F) P hj
  have hg := P.2.2.2.2.2.2.2.2.1.1
  obtain ⟨hL, hl, hn, -⟩ := P
  unfold f_X6_meet
  rw [ly_k hL 0 (by decide) (by decide), h1, cal_some, h2, cal_some, k_lineAt hL hl hn hi, cal_some, k_lineAt hL hl hn hj, cal_some, ck_ok (hl.2.2.2.2 i hi).1, k_touches (hl.2.2.2.2 i hi) (hl.2.2.2.2 j hj) (hg i hi) (hg j hj), cal_some, okB_bI]
  congr 2
  by_cases z : i = j
  · subst z
    rw [com_self (hg i hi), decide_eq_true rfl]; rfl
  · rw [decide_eq_false z, Bool.false_or]
theorem k_counts (P : cPic S D A sg w n g root rd c lo ou) : f_X6_vertices F S D (A 0) = some (nI (vI g n).1) ∧ f_X6_edges F S D (A 0) = some (nI (EE g n).1) ∧ f_X6_faces F S D (A 0) = some (nI (1 + cnt (fun u => !arF n g (EE g n) root rd u && true) c)) ∧ f_X6_components F S D (A 0) = some (nI (cnt (fun v => decide (root v = v)) (vI g n).1)) := by
  obtain ⟨hL, hl, hn, hv, hE, hd, h7, hf, hH⟩ := P
  refine ⟨?_, ?_, ?_, ?_⟩
  · unfold f_X6_vertices
    rw [ly_k hL 0 (by decide) (by decide), ly_r hL 0 2 4 (by decide), ly_k hL 4 (by decide) (by decide), hv.1]
  · unfold f_X6_edges
    rw [ly_k hL 0 (by decide) (by decide), ly_r hL 0 3 5 (by decide), ly_k hL 5 (by decide) (by decide), hE.1]
  · unfold f_X6_faces
    rw [ly_k hL 0 (by decide) (by decide), ly_r hL 0 4 6 (by decide), ly_k hL 6 (by decide) (by decide), hf.2.1]
  · unfold f_X6_components
    rw [ly_k hL 0 (by decide) (by decide), h7]
theorem k_ckVer (P : cPic S D A sg w n g root rd c lo ou) {v : Nat} (hv : v < (vI g n).1) : f_X6_checkVertex F S D (A 0) (nI v) = some () := by
  have k1 := (EE_facts P.2.2.2.2.2.2.2.2.1 P.2.2.1).1
  have k1 : (vI g n).1 ≤ 90 := k1
  obtain ⟨hL, hl, hn, hV, -⟩ := P
  unfold f_X6_checkVertex
  rw [if_neg (nI_pos (by omega)), ly_k hL 0 (by decide) (by decide), ly_r hL 0 2 4 (by decide), ly_k hL 4 (by decide) (by decide), hV.1, if_pos ((nI_ltI (by omega) (by omega)).mpr hv)]
theorem k_ckEdg (P : cPic S D A sg w n g root rd c lo ou) {e : Nat} (he : e < (EE g n).1) : f_X6_checkEdge F S D (A 0) (nI e) = some () := by
  have k1 := (EE_facts P.2.2.2.2.2.2.2.2.1 P.2.2.1).2.1
  obtain ⟨hL, hl, hn, hV, hE, -⟩ := P
  unfold f_X6_checkEdge
  rw [if_neg (nI_pos (by omega)), ly_k hL 0 (by decide) (by decide), ly_r hL 0 3 5 (by decide), ly_k hL 5 (by decide) (by decide), hE.1, if_pos ((nI_ltI (by omega) (by omega)).mpr he)]
abbrev nFc (n : Nat) (g : Nat → Sg) (root rd : Nat → Nat) (c : Nat) : Nat := 1 + cnt (fun u => !arF n g (EE g n) root rd u && true) c
theorem nFc_le (P : cPic S D A sg w n g root rd c lo ou) : nFc n g root rd c ≤ 56 := by
  have h55 := na_55 P.2.2.2.2.2.2.2.2 P.2.2.1
  have : cnt (fun u => !arF n g (EE g n) root rd u && true) c = cnt (fun u => !arF n g (EE g n) root rd u) c := cnt_congr (fun u _ => by rw [Bool.and_true])
  show 1 + cnt (fun u => !arF n g (EE g n) root rd u && true) c ≤ 56
  omega
theorem k_ckFac (P : cPic S D A sg w n g root rd c lo ou) {f : Nat} (hf : f < nFc n g root rd c) : f_X6_checkFace F S D (A 0) (nI f) = some () := by
  have k1 := nFc_le P
  obtain ⟨hL, hl, hn, hV, hE, hd, h7, hs, hH⟩ := P
  unfold f_X6_checkFace
  rw [if_neg (nI_pos (by omega)), ly_k hL 0 (by decide) (by decide), ly_r hL 0 4 6 (by decide), ly_k hL 6 (by decide) (by decide), hs.2.1, if_pos ((nI_ltI (by omega) (by omega)).mpr hf)]
theorem k_coord (P : cPic S D A sg w n g root rd c lo ou) {v : Nat} (hv : v < (vI g n).1) : f_X6_xNumerator F S D (A 0) (nI v) = some (zI ((vI g n).2 v).1.num) ∧ f_X6_xDenominator F S D (A 0) (nI v) = some (zI ((vI g n).2 v).1.den) ∧ f_X6_yNumerator F S D (A 0) (nI v) = some (zI ((vI g n).2 v).2.num) ∧ f_X6_yDenominator F S D (A 0) (nI v) = some (zI ((vI g n).2 v).2.den) := by
  have h1 := k_ckVer (F := F) P hv
  have k1 := (EE_facts P.2.2.2.2.2.2.2.2.1 P.2.2.1).1
  have k1 : (vI g n).1 ≤ 90 := k1
  obtain ⟨hL, hl, hn, hV, -⟩ := P
  have ha := k_at (F := F) (D := D) hL hV.2.1 (show v < 90 by omega)
  obtain ⟨p0, p1, p2, p3, p4⟩ := hV.2.2.2 v hv
  refine ⟨?_, ?_, ?_, ?_⟩
  · unfold f_X6_xNumerator
    rw [ly_k hL 0 (by decide) (by decide), h1, cal_some, ly_r hL 0 2 4 (by decide), ly_k hL 4 (by decide) (by decide), ha, cal_some, ck_ok p0, p1, zL_int]
  · unfold f_X6_xDenominator
    rw [ly_k hL 0 (by decide) (by decide), h1, cal_some, ly_r hL 0 2 4 (by decide), ly_k hL 4 (by decide) (by decide), ha, cal_some, ck_ok p0, p2, zL_int]
  · unfold f_X6_yNumerator
    rw [ly_k hL 0 (by decide) (by decide), h1, cal_some, ly_r hL 0 2 4 (by decide), ly_k hL 4 (by decide) (by decide), ha, cal_some, ck_ok p0, p3, zL_int]
  · unfold f_X6_yDenominator
    rw [ly_k hL 0 (by decide) (by decide), h1, cal_some, ly_r hL 0 2 4 (by decide), ly_k hL 4 (by decide) (by decide), ha, cal_some, ck_ok p0, p4, zL_int]
theorem k_degree (P : cPic S D A sg w n g root rd c lo ou) {v : Nat} (hv : v < (vI g n).1) : f_X6_degree F S D (A 0) (nI v) = some (nI (atC (EE g n) v)) := by
  have h1 := k_ckVer (F := F) P hv
  have k1 := (EE_facts P.2.2.2.2.2.2.2.2.1 P.2.2.1).1
  have k1 : (vI g n).1 ≤ 90 := k1
  obtain ⟨hL, hl, hn, hV, hE, hd, -⟩ := P
  unfold f_X6_degree
  rw [ly_k hL 0 (by decide) (by decide), h1, cal_some, ly_r hL 0 2 4 (by decide), ly_k hL 4 (by decide) (by decide), ly_r hL 4 2 12 (by decide), ly_k hL 12 (by decide) (by decide), k_get (rw_out hL) (by omega), cal_some, hd v hv]
theorem k_ends (P : cPic S D A sg w n g root rd c lo ou) {e : Nat} (he : e < (EE g n).1) : f_X6_segmentOf F S D (A 0) (nI e) = some (nI (eS (EE g n) e)) ∧ f_X6_from F S D (A 0) (nI e) = some (nI (eF (EE g n) e)) ∧ f_X6_to F S D (A 0) (nI e) = some (nI (eT (EE g n) e)) := by
  have h1 := k_ckEdg (F := F) P he
  have k1 := (EE_facts P.2.2.2.2.2.2.2.2.1 P.2.2.1).2.1
  obtain ⟨hL, hl, hn, hV, hE, -⟩ := P
  obtain ⟨x1, x2, x3⟩ := hE.2 e he
  refine ⟨?_, ?_, ?_⟩
  · unfold f_X6_segmentOf
    rw [ly_k hL 0 (by decide) (by decide), h1, cal_some, ly_r hL 0 3 5 (by decide), ly_k hL 5 (by decide) (by decide), ly_r hL 5 0 20 (by decide), ly_k hL 20 (by decide) (by decide), k_get (rw_line hL) (by omega), cal_some, x1]
  · unfold f_X6_from
    rw [ly_k hL 0 (by decide) (by decide), h1, cal_some, ly_r hL 0 3 5 (by decide), ly_k hL 5 (by decide) (by decide), ly_r hL 5 1 21 (by decide), ly_k hL 21 (by decide) (by decide), k_get (rw_start hL) (by omega), cal_some, x2]
  · unfold f_X6_to
    rw [ly_k hL 0 (by decide) (by decide), h1, cal_some, ly_r hL 0 3 5 (by decide), ly_k hL 5 (by decide) (by decide), ly_r hL 5 2 22 (by decide), ly_k hL 22 (by decide) (by decide), k_get (rw_end hL) (by omega), cal_some, x3]
theorem k_lr (P : cPic S D A sg w n g root rd c lo ou) {e : Nat} (he : e < (EE g n).1) : f_X6_leftOf F S D (A 0) (nI e) = some (nI (foF n g (EE g n) root rd c lo ou (rd (2 * e)))) ∧ f_X6_rightOf F S D (A 0) (nI e) = some (nI (foF n g (EE g n) root rd c lo ou (rd (2 * e + 1)))) := by
  have h1 := k_ckEdg (F := F) P he
  have k1 := (EE_facts P.2.2.2.2.2.2.2.2.1 P.2.2.1).2.1
  obtain ⟨hL, hl, hn, hV, hE, hd, h7, hs, hH⟩ := P
  have t2 : (2 : Int32) * nI e = nI (2 * e) := by rw [show (2 : Int32) = zI 2 from rfl, nI_zI, zI_mul, nI_zI]; rfl
  refine ⟨?_, ?_⟩
  · unfold f_X6_leftOf
    rw [ly_k hL 0 (by decide) (by decide), h1, cal_some, ly_r hL 0 3 5 (by decide), ly_k hL 5 (by decide) (by decide), ly_r hL 5 4 24 (by decide), ly_k hL 24 (by decide) (by decide), t2, k_get (rw_face hL) (by omega), cal_some, hs.1 (2 * e) (by omega)]
    rfl
  · unfold f_X6_rightOf
    rw [ly_k hL 0 (by decide) (by decide), h1, cal_some, ly_r hL 0 3 5 (by decide), ly_k hL 5 (by decide) (by decide), ly_r hL 5 4 24 (by decide), ly_k hL 24 (by decide) (by decide), t2, nI_1, k_get (rw_face hL) (by omega), cal_some, hs.1 (2 * e + 1) (by omega)]
    rfl
theorem k_sides (P : cPic S D A sg w n g root rd c lo ou) {f : Nat} (hf : f < nFc n g root rd c) : f_X6_sides F S D (A 0) (nI f) = some (nI (cnt (fun s => decide (foF n g (EE g n) root rd c lo ou (rd s) = f)) (2 * (EE g n).1))) := by
  have h1 := k_ckFac (F := F) P hf
  have k1 := nFc_le P
  obtain ⟨hL, hl, hn, hV, hE, hd, h7, hs, hH⟩ := P
  unfold f_X6_sides
  rw [ly_k hL 0 (by decide) (by decide), h1, cal_some, ly_r hL 0 4 6 (by decide), ly_k hL 6 (by decide) (by decide), ly_r hL 6 1 31 (by decide), ly_k hL 31 (by decide) (by decide), k_get (rw_side hL) (by omega), cal_some, hs.2.2.2.2.1 f hf]
  congr 2
theorem lstI_none {P : Nat → Bool} {f : Nat → Nat} : ∀ k, (∀ i, i < k → P i = false) → lstI P f k = -1 := by
  intro k
  induction k with
  | zero => intro _; rfl
  | succ k ih => intro h; rw [lstI, h k (by omega)]; exact ih (fun i hi => h i (by omega))
theorem lstI_one {P : Nat → Bool} {f : Nat → Nat} {x : Nat} : ∀ k, x < k → P x = true → (∀ i, i < k → P i = true → i = x) → lstI P f k = nI (f x) := by
  intro k
  induction k with
  | zero => intro h; omega
  | succ k ih =>
    intro h1 h2 h3
    rw [lstI]
    by_cases z : P k = true
    · rw [if_pos z, h3 k (by omega) z]
    · rw [if_neg z]
      have : x ≠ k := fun e => z (by rw [← e]; exact h2)
      exact ih (by omega) h2 (fun i hi => h3 i (by omega))
/-- every number from 1 on is that of one round around nothing -/
theorem fo_surj (h : FH n g (EE g n) root rd c lo ou) {x : Nat} (h0 : 0 < x) (hx : x < nFc n g root rd c) : ∃ u, u < c ∧ arF n g (EE g n) root rd u = false ∧ foF n g (EE g n) root rd c lo ou u = x := by
  apply Classical.byContradiction
  intro hno
  have hlt : ∀ u, u < c → arF n g (EE g n) root rd u = false → foF n g (EE g n) root rd c lo ou u < nFc n g root rd c ∧ 0 < foF n g (EE g n) root rd c lo ou u := by
    intro u hu ha
    rw [fo_num u ha, num_bfr h hu]
    have : cnt (fun w => !arF n g (EE g n) root rd w && bfr n g (EE g n) lo ou w u) c < cnt (fun w => !arF n g (EE g n) root rd w && true) c := by
      refine cnt_lt (i := u) (fun k _ hk => by rw [(Bool.and_eq_true_iff.mp hk).1]; rfl) hu ?_ ?_
      · have : bfr n g (EE g n) lo ou u u = false := by
          unfold bfr
          rw [decide_eq_false (Nat.lt_irrefl _), decide_eq_false (Nat.lt_irrefl _), Bool.and_false]; rfl
        rw [this, Bool.and_false]
      · rw [ha]; rfl
    exact ⟨by show _ < 1 + _; omega, by omega⟩
  have hp := pigeon (cnt (fun w => !arF n g (EE g n) root rd w && true) c - 1) c (fun w => !arF n g (EE g n) root rd w && true) (fun u => if foF n g (EE g n) root rd c lo ou u < x then foF n g (EE g n) root rd c lo ou u - 1 else foF n g (EE g n) root rd c lo ou u - 2) (fun u hu hpu => by
    rw [Bool.and_true, Bool.not_eq_true'] at hpu
    have h1 := hlt u hu hpu
    have h2 : foF n g (EE g n) root rd c lo ou u ≠ x := fun e => hno ⟨u, hu, hpu, e⟩
    have hx : x < 1 + cnt (fun w => !arF n g (EE g n) root rd w && true) c := hx
    have h3 : foF n g (EE g n) root rd c lo ou u < 1 + cnt (fun w => !arF n g (EE g n) root rd w && true) c := h1.1
    show (if foF n g (EE g n) root rd c lo ou u < x then foF n g (EE g n) root rd c lo ou u - 1 else foF n g (EE g n) root rd c lo ou u - 2) < _
    split <;> omega) (fun u u' hu hu' hpu hpu' e => by
    rw [Bool.and_true, Bool.not_eq_true'] at hpu hpu'
    have h1 := hlt u hu hpu
    have h1' := hlt u' hu' hpu'
    have h2 : foF n g (EE g n) root rd c lo ou u ≠ x := fun e => hno ⟨u, hu, hpu, e⟩
    have h2' : foF n g (EE g n) root rd c lo ou u' ≠ x := fun e => hno ⟨u', hu', hpu', e⟩
    have e : (if foF n g (EE g n) root rd c lo ou u < x then foF n g (EE g n) root rd c lo ou u - 1 else foF n g (EE g n) root rd c lo ou u - 2) = (if foF n g (EE g n) root rd c lo ou u' < x then foF n g (EE g n) root rd c lo ou u' - 1 else foF n g (EE g n) root rd c lo ou u' - 2) := e
    refine fo_inj h hu hu' hpu hpu' ?_
    split at e <;> split at e <;> omega)
  have hx : x < 1 + cnt (fun w => !arF n g (EE g n) root rd w && true) c := hx
  omega
theorem k_firstVertex (P : cPic S D A sg w n g root rd c lo ou) {f : Nat} (hf : f < nFc n g root rd c) : f_X6_firstVertex F S D (A 0) (nI f) = some (lstI (fun u => !arF n g (EE g n) root rd u && decide (foF n g (EE g n) root rd c lo ou u = f)) lo c) := by
  have h1 := k_ckFac (F := F) P hf
  have k1 := nFc_le P
  obtain ⟨hL, hl, hn, hV, hE, hd, h7, hs, hH⟩ := P
  unfold f_X6_firstVertex
  rw [ly_k hL 0 (by decide) (by decide), h1, cal_some, ly_r hL 0 4 6 (by decide), ly_k hL 6 (by decide) (by decide), ly_r hL 6 0 30 (by decide), ly_k hL 30 (by decide) (by decide), k_get (rw_first hL) (by omega), cal_some]
  congr 1
  rcases Nat.eq_zero_or_pos f with z | z
  · subst z
    rw [hs.2.2.1, lstI_none c (fun u hu => ?_)]
    cases ha : arF n g (EE g n) root rd u
    · rw [fo_num u ha, num_bfr hH hu, decide_eq_false (by omega)]; rfl
    · rfl
  · obtain ⟨u, u1, u2, u3⟩ := fo_surj hH z hf
    rw [lstI_one c u1 (by rw [u2, decide_eq_true u3]; rfl) (fun i hi hp => by
      rw [Bool.and_eq_true, Bool.not_eq_true', decide_eq_true_eq] at hp
      exact fo_inj hH hi u1 hp.1 u2 (hp.2.trans u3.symm)), ← u3]
    exact hs.2.2.2.1 u u1 u2 (by rw [u3]; exact hf)
end CAS
