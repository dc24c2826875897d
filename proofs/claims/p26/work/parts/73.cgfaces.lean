/-! ### the class gathers all faces -/
section CGG
variable {F : Nat} {S : CS} {D : CD} {A : Nat → Nat} {sg w : Nat → Nat} {n : Nat} {g : Nat → Sg} {q : ES} {rd root lo ou : Nat → Nat} {c : Nat} {Q : Nat → Bool}
/-- how many sides are at v, and how many of them come before s -/
def atC (q : ES) (v : Nat) : Nat := cnt (fun x => decide (bg q x = v)) (2 * q.1)
def kc (n : Nat) (g : Nat → Sg) (q : ES) (v s : Nat) : Nat := cnt (fun x => decide (bg q x = v) && decide (key n g q x < key n g q s)) (2 * q.1)
theorem kc_lt {v s : Nat} (hs : s < 2 * q.1) (hb : bg q s = v) : kc n g q v s < atC q v := by
  unfold kc atC
  refine cnt_lt (i := s) (fun k _ hk => (Bool.and_eq_true_iff.mp hk).1) hs ?_ ?_
  · rw [decide_eq_false (Nat.lt_irrefl _), Bool.and_false]
  · exact decide_eq_true hb
theorem kc_next (hk : ∀ s t, s < 2 * q.1 → t < 2 * q.1 → bg q s = bg q t → key n g q s = key n g q t → s = t) {v s t : Nat} (hs : s < 2 * q.1) (hb : bg q s = v) (h1 : key n g q s < key n g q t) (h2 : ∀ u, u < 2 * q.1 → bg q u = v → ¬ (key n g q s < key n g q u ∧ key n g q u < key n g q t)) : kc n g q v t = kc n g q v s + 1 := by
  unfold kc
  have h := cnt_add1 (P := fun x => decide (bg q x = v) && decide (key n g q x < key n g q s)) (Q := fun x => (decide (bg q x = v) && decide (key n g q x < key n g q s)) || decide (x = s)) (x := s) (by
    show (decide (bg q s = v) && decide (key n g q s < key n g q s)) = false
    rw [decide_eq_false (Nat.lt_irrefl _), Bool.and_false]) (fun _ => rfl) (2 * q.1)
  rw [if_pos hs] at h
  rw [← h]
  refine cnt_congr (fun x hx => ?_)
  rw [Bool.eq_iff_iff, Bool.or_eq_true, Bool.and_eq_true, Bool.and_eq_true, decide_eq_true_eq, decide_eq_true_eq, decide_eq_true_eq, decide_eq_true_eq]
  constructor
  · rintro ⟨x1, x2⟩
    have := h2 x hx x1
    rcases Nat.lt_trichotomy (key n g q x) (key n g q s) with y | y | y
    · exact Or.inl ⟨x1, y⟩
    · exact Or.inr (hk x s hx hs (by rw [x1, hb]) y)
    · exact absurd ⟨y, x2⟩ this
  · rintro (⟨x1, x2⟩ | x1)
    · exact ⟨x1, by omega⟩
    · subst x1; exact ⟨hb, h1⟩
theorem kc_last (hk : ∀ s t, s < 2 * q.1 → t < 2 * q.1 → bg q s = bg q t → key n g q s = key n g q t → s = t) {v s : Nat} (hs : s < 2 * q.1) (hb : bg q s = v) (h2 : ∀ u, u < 2 * q.1 → bg q u = v → key n g q u ≤ key n g q s) : atC q v = kc n g q v s + 1 := by
  unfold kc atC
  have h := cnt_add1 (P := fun x => decide (bg q x = v) && decide (key n g q x < key n g q s)) (Q := fun x => (decide (bg q x = v) && decide (key n g q x < key n g q s)) || decide (x = s)) (x := s) (by
    show (decide (bg q s = v) && decide (key n g q s < key n g q s)) = false
    rw [decide_eq_false (Nat.lt_irrefl _), Bool.and_false]) (fun _ => rfl) (2 * q.1)
  rw [if_pos hs] at h
  rw [← h]
  refine cnt_congr (fun x hx => ?_)
  rw [Bool.eq_iff_iff, Bool.or_eq_true, Bool.and_eq_true, decide_eq_true_eq, decide_eq_true_eq, decide_eq_true_eq]
  constructor
  · intro x1
    have := h2 x hx x1
    by_cases y : key n g q x = key n g q s
    · exact Or.inr (hk x s hx hs (by rw [x1, hb]) y)
    · exact Or.inl ⟨x1, by omega⟩
  · rintro (⟨x1, x2⟩ | x1)
    · exact x1
    · subst x1; exact hb
theorem k_L76 (hF : 1000 ≤ F) (h : FH n g q root rd c lo ou) (P : gPre S D A sg w n g q root Q) {v : Nat} (hv : v < (vI g n).1) (k9 : CD → Int32 → Option CD) :
    ∀ (d m i s : Nat) (D1 : CD), i + d = atC q v → d < m → cFrZ A D D1 → s < 2 * q.1 → (i < atC q v → bg q s = v ∧ kc n g q v s = i ∧ fS2 D1 A n g q root rd c lo ou (PdC n g q root rd lo ou v (key n g q s))) → (i = atC q v → fS2 D1 A n g q root rd c lo ou (PdA lo (v + 1))) → ∃ D2, cFrZ A D D2 ∧ fS2 D2 A n g q root rd c lo ou (PdA lo (v + 1)) ∧ f_X6_gatherFaces_L76 F S (A 0) k9 m D1 (nI v) (nI s) (nI i) = k9 D2 (nI (v + 1)) := by
  have P0 := P
  obtain ⟨hL, h2, h3, h4, h5, h6, h7, h8, h9, h10⟩ := P
  have hAt : ∀ D1, cFrZ A D D1 → D1.2.2.1 (A 16) v = nI (atC q v) := by
    intro D1 hf
    rw [hf.row hL 16 (by omega) (by omega) (by omega) (by omega), h8.1 v hv]
    congr 1
    exact cnt_congr (fun s hs => by rw [h9 s hs, Bool.true_and])
  have hle : atC q v ≤ 2 * q.1 := cnt_le _ _
  intro d
  induction d with
  | zero =>
    intro m i s D1 hi hm hf hs a1 a2
    obtain ⟨m, rfl⟩ : ∃ q, m = q + 1 := ⟨m - 1, by omega⟩
    refine ⟨D1, hf, a2 (by omega), ?_⟩
    rw [f_X6_gatherFaces_L76, ly_k hL 0 (by decide) (by decide), ly_r hL 0 2 4 (by decide), ly_k hL 4 (by decide) (by decide), ly_r hL 4 2 12 (by decide), ly_k hL 12 (by decide) (by decide), k_get (rw_out hL) (by omega), cal_some, hAt D1 hf, if_pos ((nI_leI (by omega) (by omega)).mpr (by omega)), nI_1]
  | succ d ih =>
    intro m i s D1 hi hm hf hs a1 a2
    obtain ⟨m, rfl⟩ : ∃ q, m = q + 1 := ⟨m - 1, by omega⟩
    obtain ⟨b1, b2, b3⟩ := a1 (by omega)
    obtain ⟨D2, t, d1, d2, ⟨d3, d4, d5⟩, d6⟩ := k_sideF hF h (gPre_Z P0 hf) hs b1 b3 k9 (f_X6_gatherFaces_L76 F S (A 0) k9 m) i
    have hnx : ∀ u, u < c → ∀ K, (lo u = v → (key n g q (ou u) < key n g q s + 1 ↔ key n g q (ou u) < K)) → PdC n g q root rd lo ou v (key n g q s + 1) u = PdC n g q root rd lo ou v K u := by
      intro u hu K hK
      rw [Bool.eq_iff_iff, PdC_iff, PdC_iff]
      constructor
      · rintro (z | ⟨z1, z2⟩)
        · exact Or.inl z
        · exact Or.inr ⟨z1, z2.imp id (hK z1).mp⟩
      · rintro (z | ⟨z1, z2⟩)
        · exact Or.inl z
        · exact Or.inr ⟨z1, z2.imp id (hK z1).mpr⟩
    obtain ⟨D3, e1, e2, e3⟩ := ih m (i + 1) t D2 (by omega) (by omega) (hf.trans d1) d3 (fun hlt => by
      rcases d5 with ⟨d5, d7⟩ | d5
      · have hbet : ∀ u, u < 2 * q.1 → bg q u = v → ¬ (key n g q s < key n g q u ∧ key n g q u < key n g q t) := fun u hu hbu => d7 u hu (h9 u hu) (hbu.trans b1.symm)
        refine ⟨d4.trans b1, ?_, ?_⟩
        · rw [kc_next h.2.2.1 hs b1 d5 hbet, b2]
        · refine fS2_congr h (fun u hu => hnx u hu _ (fun hlu => ?_)) d2
          obtain ⟨x1, x2, x3, x4⟩ := h.2.2.2.2.2.2.2.2 u hu
          have := hbet (ou u) x1 (x3.trans hlu)
          omega
      · have := kc_last h.2.2.1 hs b1 (fun u hu hbu => (d5 u hu (h9 u hu) (hbu.trans b1.symm)).1)
        omega) (fun heq => by
      have hmax : ∀ u, u < 2 * q.1 → bg q u = v → key n g q u ≤ key n g q s := by
        rcases d5 with ⟨d5, d7⟩ | d5
        · exfalso
          have hbet : ∀ u, u < 2 * q.1 → bg q u = v → ¬ (key n g q s < key n g q u ∧ key n g q u < key n g q t) := fun u hu hbu => d7 u hu (h9 u hu) (hbu.trans b1.symm)
          have y1 := kc_next h.2.2.1 hs b1 d5 hbet
          have y2 := kc_lt (n := n) (g := g) d3 (d4.trans b1)
          omega
        · exact fun u hu hbu => (d5 u hu (h9 u hu) (hbu.trans b1.symm)).1
      refine fS2_congr h (fun u hu => ?_) d2
      unfold PdA
      rw [Bool.eq_iff_iff, PdC_iff, decide_eq_true_eq]
      obtain ⟨x1, x2, x3, x4⟩ := h.2.2.2.2.2.2.2.2 u hu
      constructor
      · rintro (z | ⟨z1, z2⟩) <;> omega
      · intro z
        by_cases y : lo u = v
        · have := hmax (ou u) x1 (x3.trans y)
          exact Or.inr ⟨y, Or.inr (by omega)⟩
        · exact Or.inl (by omega))
    refine ⟨D3, e1, e2, ?_⟩
    rw [← e3, ← d6, f_X6_gatherFaces_L76, ly_k hL 0 (by decide) (by decide), ly_r hL 0 2 4 (by decide), ly_k hL 4 (by decide) (by decide), ly_r hL 4 2 12 (by decide), ly_k hL 12 (by decide) (by decide), k_get (rw_out hL) (by omega), cal_some, hAt D1 hf, if_neg (fun z => by have := (nI_leI (a := atC q v) (b := i) (by omega) (by omega)).mp z; omega), ly_r hL 0 3 5 (by decide), ly_k hL 5 (by decide) (by decide), ly_r hL 5 4 24 (by decide), ly_k hL 24 (by decide) (by decide), k_get (rw_face hL) (by omega), cal_some]
theorem k_b62 (hF : 1000 ≤ F) (h : FH n g q root rd c lo ou) (P : gPre S D A sg w n g q root Q) {v : Nat} (hv : v < (vI g n).1) (k9 : CD → Int32 → Option CD) (hst : fS2 D A n g q root rd c lo ou (PdC n g q root rd lo ou v 0)) :
    ∃ D2, cFrZ A D D2 ∧ fS2 D2 A n g q root rd c lo ou (PdA lo (v + 1)) ∧ f_X6_gatherFaces_b62 F S (A 0) k9 D (nI v) = k9 D2 (nI (v + 1)) := by
  have P0 := P
  obtain ⟨hL, h2, h3, h4, h5, h6, h7, h8, h9, h10⟩ := P
  obtain ⟨t0, t1, t2⟩ := h.2.2.2.1 v hv
  obtain ⟨l, tp, ⟨l1, l2, l3, l4⟩, -, l5⟩ := h8.2.1 v hv ⟨t0, t1, h9 t0 t1, t2⟩
  have hpos := kc_lt (n := n) (g := g) t1 t2
  have hle : atC q v ≤ 2 * q.1 := cnt_le _ _
  obtain ⟨D2, e1, e2, e3⟩ := k_L76 hF h P0 hv k9 (atC q v) F 0 l D (by omega) (by omega) cFrZ.rf l1 (fun _ => ⟨l3, cnt_0.mpr (fun x hx => by
    by_cases y : bg q x = v
    · have := (l5 x hx (h9 x hx) y).1
      rw [decide_eq_false (show ¬ key n g q x < key n g q l by omega), Bool.and_false]
    · rw [decide_eq_false y, Bool.false_and]), fS2_congr h (fun u hu => by
    rw [Bool.eq_iff_iff, PdC_iff, PdC_iff]
    obtain ⟨x1, x2, x3, x4⟩ := h.2.2.2.2.2.2.2.2 u hu
    constructor
    · rintro (z | ⟨z1, z2⟩)
      · exact Or.inl z
      · exact Or.inr ⟨z1, z2.imp id (fun y => by omega)⟩
    · rintro (z | ⟨z1, z2 | z2⟩)
      · exact Or.inl z
      · exact Or.inr ⟨z1, Or.inl z2⟩
      · have := (l5 (ou u) x1 (h9 _ x1) (x3.trans z1)).1
        omega) hst⟩) (fun y => by omega)
  refine ⟨D2, e1, e2, ?_⟩
  unfold f_X6_gatherFaces_b62
  rw [ly_k hL 0 (by decide) (by decide), ly_r hL 0 2 4 (by decide), ly_k hL 4 (by decide) (by decide), ly_r hL 4 3 13 (by decide), ly_k hL 13 (by decide) (by decide), k_get (rw_low hL) (by omega), cal_some, l4]
  exact e3
/-- the top side of a root is on the round around its component -/
theorem top_hiv (h : FH n g q root rd c lo ou) {v tp : Nat} (hv : v < (vI g n).1) (rv : root v = v) (t1 : tp < 2 * q.1) (t2 : bg q tp = v) (t3 : ∀ s, s < 2 * q.1 → bg q s = v → key n g q s ≤ key n g q tp) : tp = hiv g q v := by
  obtain ⟨r1, -⟩ := root_top h.1 h.2.1 h.2.2.1 (root_ev h rv) (h.2.2.2.1 v hv)
  obtain ⟨i1, i2⟩ := hiv_at h hv
  have a1 := r1 tp t1 t2
  have a2 := t3 _ i1 i2
  exact h.2.2.1 _ _ t1 i1 (t2.trans i2.symm) (by omega)
theorem lo_hiv (h : FH n g q root rd c lo ou) {v : Nat} (hv : v < (vI g n).1) (rv : root v = v) : lo (rd (hiv g q v)) = v ∧ arF n g q root rd (rd (hiv g q v)) = true := by
  have ha : arF n g q root rd (rd (hiv g q v)) = true := arS_iff.mpr ⟨v, hv, rv, rfl⟩
  have hu := h.2.2.2.2.2.1 _ (hiv_at h hv).1
  obtain ⟨b1, b2, b3⟩ := ar_root h hu ha
  exact ⟨(rd_hiv_inj h hv b1 rv b2 b3).symm, ha⟩
theorem k_L9 (hF : 1000 ≤ F) (h : FH n g q root rd c lo ou) (P : gPre S D A sg w n g q root Q) :
    ∀ (d m v : Nat) (D1 : CD), v + d = (vI g n).1 → d < m → cFrZ A D D1 → fS2 D1 A n g q root rd c lo ou (PdA lo v) → ∃ D2, f_X6_gatherFaces_L9 F S (A 0) m D1 (nI v) = some D2 ∧ cFrZ A D D2 ∧ fS2 D2 A n g q root rd c lo ou (PdA lo (vI g n).1) := by
  have P0 := P
  obtain ⟨hL, h2, h3, h4, h5, h6, h7, h8, h9, h10⟩ := P
  intro d
  induction d with
  | zero =>
    intro m v D1 hi hm hf hst
    obtain ⟨m, rfl⟩ : ∃ q, m = q + 1 := ⟨m - 1, by omega⟩
    have e : v = (vI g n).1 := by omega
    refine ⟨D1, ?_, hf, by rw [← e]; exact hst⟩
    rw [f_X6_gatherFaces_L9, ly_k hL 0 (by decide) (by decide), ly_r hL 0 2 4 (by decide), ly_k hL 4 (by decide) (by decide), hf.fld hL 4 6 (by omega) (by omega), h4.1, if_pos ((nI_leI (by omega) (by omega)).mpr (by omega))]
  | succ d ih =>
    intro m v D1 hi hm hf hst
    obtain ⟨m, rfl⟩ : ∃ q, m = q + 1 := ⟨m - 1, by omega⟩
    have hv : v < (vI g n).1 := by omega
    have P1 := gPre_Z P0 hf
    have hrv := h.2.2.2.2.1.1 v hv
    have hre : nI (root v) = nI v ↔ root v = v := nI_eq (by omega) (by omega)
    rw [f_X6_gatherFaces_L9, ly_k hL 0 (by decide) (by decide), ly_r hL 0 2 4 (by decide), ly_k hL 4 (by decide) (by decide), hf.fld hL 4 6 (by omega) (by omega), h4.1, if_neg (fun z => by have := (nI_leI (a := (vI g n).1) (b := v) (by omega) (by omega)).mp z; omega), ly_r hL 0 2 4 (by decide), ly_k hL 4 (by decide) (by decide), ly_r hL 4 5 15 (by decide), ly_k hL 15 (by decide) (by decide), k_get (rw_root hL) (by omega), cal_some, P1.2.2.2.2.2.2.2.2.2 v hv]
    by_cases z : root v = v
    · obtain ⟨t0, t1, t2⟩ := h.2.2.2.1 v hv
      obtain ⟨l, tp, -, ⟨p1, p2, p3, p4⟩, l5⟩ := P1.2.2.2.2.2.2.2.1.2.1 v hv ⟨t0, t1, h9 t0 t1, t2⟩
      have htp := top_hiv h hv z p1 p3 (fun s hs hb => (l5 s hs (h9 s hs) hb).2)
      obtain ⟨lv, av⟩ := lo_hiv h hv z
      have hu := h.2.2.2.2.2.1 tp p1
      have hw := (h4.2.1 v (by omega)).1
      have hV := P1.2.2.2.1
      have hbV := (vI_good h.1.1 n (Nat.le_refl _)).2 v hv
      have htop := cls_top h.1 h.2.1 ((vI g n).2 v)
      have hfo := fo_root h hv z htop
      have hval : lfV D1 A (fL g (vI g n).2 q ((vI g n).2 v) q.1) = nI (foF n g q root rd c lo ou (rd tp)) ∧ foF n g q root rd c lo ou (rd tp) < 1 + cnt (fun u => !arF n g q root rd u && PdA lo v u) c := by
        rw [htp, hfo]
        cases ho : fL g (vI g n).2 q ((vI g n).2 v) q.1 with
        | none => exact ⟨rfl, by show 0 < _; omega⟩
        | some e =>
          rw [ho] at htop
          have he := htop.1
          have hlt := un_lt h he htop.2.1
          have hr2 := h.2.2.2.2.2.1 (2 * e) (by omega)
          have hle := ((h.2.2.2.2.2.2.2.2 _ hr2).2.2.2 (2 * e) (by omega) rfl).1
          rw [bg_e] at hle
          have hp : PdA lo v (rd (2 * e)) = true := decide_eq_true (by omega)
          refine ⟨?_, hst.2.2.2.2.2 _ hr2 hp⟩
          show D1.2.2.1 (A 29) (2 * e) = _
          rw [hst.1 (2 * e) (by omega), if_pos hp]; rfl
      have hnp : PdA lo v (rd tp) = false := by
        rw [htp]
        exact decide_eq_false (by omega)
      obtain ⟨D2, d1, d2, d3⟩ := k_paint (F := F) (D := D1) hF hL h7 h.2.2.1 h.2.2.2.2.2 P1.2.2.2.2.2.2.2.1 h9 (by
        have h55 := na_55 h h3
        have hcl : cnt (fun u => !arF n g q root rd u && PdA lo v u) c ≤ cnt (fun u => !arF n g q root rd u) c := cnt_into (fun u => u) (fun u hu hp => ⟨hu, (Bool.and_eq_true_iff.mp hp).1⟩) (fun _ _ _ _ _ _ e => e)
        omega) hst p1 hnp hval.2
      have hf2 := hf.trans (cFrZ.ofR d2)
      have hst2 : fS2 D2 A n g q root rd c lo ou (PdC n g q root rd lo ou v 0) := by
        have hpd : ∀ u, u < c → (PdA lo v u || decide (u = rd tp)) = PdC n g q root rd lo ou v 0 u := by
          intro u hu
          unfold PdA
          rw [Bool.eq_iff_iff, Bool.or_eq_true, PdC_iff, decide_eq_true_eq, decide_eq_true_eq]
          constructor
          · rintro (y | y)
            · exact Or.inl y
            · rw [y, htp]; exact Or.inr ⟨lv, Or.inl av⟩
          · rintro (y | ⟨y1, y2 | y2⟩)
            · exact Or.inl y
            · obtain ⟨b1, b2, b3⟩ := ar_root h hu y2
              right
              rw [htp, ← y1]; exact b3
            · omega
        have hcn : cnt (fun u => !arF n g q root rd u && PdA lo v u) c = cnt (fun u => !arF n g q root rd u && (PdA lo v u || decide (u = rd tp))) c := cnt_congr (fun u hu => by
          by_cases y : u = rd tp
          · have : arF n g q root rd u = true := by rw [y, htp]; exact av
            rw [this]; rfl
          · rw [decide_eq_false y, Bool.or_false])
        refine fS2_congr h hpd ?_
        unfold fS2
        rw [← hcn]
        exact d3
      obtain ⟨D3, e1, e2, e3⟩ := k_b62 hF h (gPre_Z P0 hf2) hv (f_X6_gatherFaces_L9 F S (A 0) m) hst2
      rw [if_pos (hre.mpr z), ly_r hL 0 2 4 (by decide), ly_k hL 4 (by decide) (by decide), ly_r hL 4 4 14 (by decide), ly_k hL 14 (by decide) (by decide), k_get (rw_top hL) (by omega), cal_some, p4, ly_r hL 0 2 4 (by decide), ly_k hL 4 (by decide) (by decide), k_at hL P1.2.2.2.1.2.1 (by omega), cal_some, k_faceLeft hF h P1 (hV.2.2.2 v hv) hbV, cal_some, hval.1, d1, cal_some, e3]
      exact ih m (v + 1) D3 (by omega) (by omega) (hf2.trans e1) e2
    · have hst2 : fS2 D1 A n g q root rd c lo ou (PdC n g q root rd lo ou v 0) := by
        refine fS2_congr h (fun u hu => ?_) hst
        unfold PdA
        rw [Bool.eq_iff_iff, PdC_iff, decide_eq_true_eq]
        constructor
        · exact fun y => Or.inl y
        · rintro (y | ⟨y1, y2 | y2⟩)
          · exact y
          · obtain ⟨b1, b2, b3⟩ := ar_root h hu y2
            rw [y1] at b2
            exact absurd b2 z
          · omega
      obtain ⟨D3, e1, e2, e3⟩ := k_b62 hF h P1 hv (f_X6_gatherFaces_L9 F S (A 0) m) hst2
      rw [if_neg (fun y => z (hre.mp y)), e3]
      exact ih m (v + 1) D3 (by omega) (by omega) (hf.trans e1) e2
theorem k_gatherF (hF : 1000 ≤ F) (h : FH n g q root rd c lo ou) (P : gPre S D A sg w n g q root Q) (h0 : ∀ s, s < 2 * q.1 → D.2.2.1 (A 29) s = -1) :
    ∃ D2, f_X6_gatherFaces F S D (A 0) = some D2 ∧ cFrZ A D D2 ∧ fS2 D2 A n g q root rd c lo ou (fun _ => true) := by
  have P0 := P
  obtain ⟨hL, h2, h3, h4, h5, h6, h7, h8, h9, h10⟩ := P
  have n1 : ∀ i j, i < 124 → j < 124 → i ≠ j → A i ≠ A j := fun i j => ly_ne hL i j
  have hc : ∀ (D : CD) (a : Nat) (f : Nat → Int32), (cpA D a f).1 = D.1 := fun _ _ _ => rfl
  obtain ⟨D1, c1, c2, c3, c4, c5, c6⟩ : ∃ D1, f_X1_clear F S D (A 6) = some D1 ∧ cFrZ A D D1 ∧ D1.2.2.1 (A 29) = D.2.2.1 (A 29) ∧ D1.1 (A 6) 2 = nI 1 ∧ D1.2.2.1 (A 32) 0 = -1 ∧ D1.2.2.1 (A 33) 0 = 0 := by
    have hap : ∀ D0 : CD, D0.1 (A 6) 2 = nI 0 → f_X1_append F S D0 (A 6) (-1) = some (cpF (cpA (cpA D0 (A 32) (upd (D0.2.2.1 (A 32)) 0 (-1))) (A 33) (upd (D0.2.2.1 (A 33)) 0 0)) (A 6) 2 (nI 1), nI 0) := by
      intro D0 hD
      unfold f_X1_append cfW
      rw [ly_k hL 6 (by decide) (by decide), ly_r hL 6 0 30 (by decide), ly_k hL 30 (by decide) (by decide), hD, k_set (rw_first hL) (by decide), cal_some, ly_r hL 6 1 31 (by decide), ly_k hL 31 (by decide) (by decide), hc, hD, k_set (rw_side hL) (by decide), cal_some, hc, hc, hD, nI_1, cpA_n _ _ (n1 33 32 (by omega) (by omega) (by omega))]
      show some (_, (cpF _ (A 6) 2 (nI (0 + 1))).1 (A 6) 2 - 1) = _
      rw [cpF_s, nI_sm]
    have hcl : f_X1_clear F S D (A 6) = some (cpF (cpA (cpA (cpF D (A 6) 2 0) (A 32) (upd ((cpF D (A 6) 2 0).2.2.1 (A 32)) 0 (-1))) (A 33) (upd ((cpF D (A 6) 2 0).2.2.1 (A 33)) 0 0)) (A 6) 2 (nI 1)) := by
      unfold f_X1_clear cfW
      rw [ly_k hL 6 (by decide) (by decide)]
      show caM (f_X1_append F S (cpF D (A 6) 2 0) (A 6) (-1)) (fun D5 t6 => some D5) = _
      rw [hap (cpF D (A 6) 2 0) (cpF_s _ _ _ _), caM_some]
    refine ⟨_, hcl, ⟨rfl, rfl, fun b k hb => ?_, fun b x y z => ?_⟩, ?_, cpF_s _ _ _ _, ?_, ?_⟩
    · rw [cpF_n _ _ hb, hc, hc, cpF_n _ _ hb]
    · show (cpA (cpA (cpF D (A 6) 2 0) (A 32) _) (A 33) _).2.2.1 b = _
      rw [cpA_n _ _ z, cpA_n _ _ y]; rfl
    · show (cpA (cpA (cpF D (A 6) 2 0) (A 32) _) (A 33) _).2.2.1 (A 29) = _
      rw [cpA_n _ _ (n1 29 33 (by omega) (by omega) (by omega)), cpA_n _ _ (n1 29 32 (by omega) (by omega) (by omega))]; rfl
    · show (cpA (cpA (cpF D (A 6) 2 0) (A 32) _) (A 33) _).2.2.1 (A 32) 0 = _
      rw [cpA_n _ _ (n1 32 33 (by omega) (by omega) (by omega)), cpA_s, upI_s]
    · show (cpA (cpA (cpF D (A 6) 2 0) (A 32) _) (A 33) _).2.2.1 (A 33) 0 = _
      rw [cpA_s, upI_s]
  have z0 : ∀ u, PdA lo 0 u = false := fun u => decide_eq_false (by omega)
  have hz : cnt (fun u => !arF n g q root rd u && PdA lo 0 u) c = 0 := cnt_0.mpr (fun u _ => by rw [z0, Bool.and_false])
  have hst : fS2 D1 A n g q root rd c lo ou (PdA lo 0) := by
    unfold fS2
    rw [hz]
    refine ⟨fun s hs => by rw [c3, h0 s hs, z0]; rfl, c4, c5, fun u hu ha hlt => ?_, fun x hx => ?_, fun u hu hp => by rw [z0] at hp; cases hp⟩
    · rw [fo_num u ha, num_bfr h hu] at hlt; omega
    · have : x = 0 := by omega
      subst this
      have e0 : cnt (fun s => PdA lo 0 (rd s) && decide (foF n g q root rd c lo ou (rd s) = 0)) (2 * q.1) = 0 := cnt_0.mpr (fun s _ => by rw [z0, Bool.false_and])
      rw [c6, e0]; rfl
  obtain ⟨D2, e1, e2, e3⟩ := k_L9 hF h P0 (vI g n).1 F 0 D1 (by omega) (by omega) c2 hst
  refine ⟨D2, ?_, e2, fS2_congr h (fun u hu => ?_) e3⟩
  · unfold f_X6_gatherFaces
    rw [ly_k hL 0 (by decide) (by decide), ly_r hL 0 4 6 (by decide), ly_k hL 6 (by decide) (by decide), c1, cal_some]
    exact e1
  · obtain ⟨x1, x2, x3, x4⟩ := h.2.2.2.2.2.2.2.2 u hu
    refine decide_eq_true ?_
    rw [← x3]
    unfold bg
    have := eF_lt h.2.1 (show ou u / 2 < q.1 by omega)
    split
    · exact this.1
    · exact this.2
end CGG
