/-! ### the class gathers its edges -/
def cE5 (D : CD) (A : Nat → Nat) (i : Nat) (e : Nat × Nat × Nat) : Prop := D.2.2.1 (A 25) i = nI e.1 ∧ D.2.2.1 (A 26) i = nI e.2.1 ∧ D.2.2.1 (A 27) i = nI e.2.2 ∧ D.2.2.1 (A 29) (2 * i) = -1 ∧ D.2.2.1 (A 29) (2 * i + 1) = -1
/-- the edges, before any face -/
def cEd0 (D : CD) (A : Nat → Nat) (q : ES) : Prop := D.1 (A 5) 5 = nI q.1 ∧ ∀ i, i < q.1 → cE5 D A i (q.2 i)
def cFrE (A : Nat → Nat) (D D2 : CD) : Prop := D2.2.1 = D.2.1 ∧ D2.2.2.2 = D.2.2.2 ∧ (∀ b k, b ≠ A 5 ∨ k ≠ 5 → D2.1 b k = D.1 b k) ∧ ∀ b, b ≠ A 25 → b ≠ A 26 → b ≠ A 27 → b ≠ A 29 → D2.2.2.1 b = D.2.2.1 b
theorem cFrE.trans {A : Nat → Nat} {D D2 D3 : CD} (h : cFrE A D D2) (h2 : cFrE A D2 D3) : cFrE A D D3 := ⟨h2.1.trans h.1, h2.2.1.trans h.2.1, fun b k hb => (h2.2.2.1 b k hb).trans (h.2.2.1 b k hb), fun b h5 h6 h7 h9 => (h2.2.2.2 b h5 h6 h7 h9).trans (h.2.2.2 b h5 h6 h7 h9)⟩
theorem cFrE.rf {A : Nat → Nat} {D : CD} : cFrE A D D := ⟨rfl, rfl, fun _ _ _ => rfl, fun _ _ _ _ _ => rfl⟩
theorem eJ_mono (g : Nat → Sg) (V : Nat → Pt) (s : Nat) (q : ES) {v nV : Nat} (h : v ≤ nV) : (eJ g V s v q).1.1 ≤ (eJ g V s nV q).1.1 := by
  obtain ⟨a1, a2, -⟩ := eJ_cnt g V s q v
  obtain ⟨b1, b2, -⟩ := eJ_cnt g V s q nV
  have hm := cnt_mono (fun v => onB (g s) (V v)) h
  split at a1 <;> split at b1
  · omega
  · next x y => have := a2.mp x; have : ¬ cnt (fun v => onB (g s) (V v)) nV = 0 := fun w => y (b2.mpr w); omega
  · next x y => exact absurd (a2.mpr (by have := b2.mp y; omega)) x
  · omega
section CED
variable {F : Nat} {S : CS} {D : CD} {A : Nat → Nat} {sg : Nat → Nat} {n : Nat} {g : Nat → Sg}
theorem cLin_E (hL : cLay S A) {D2 : CD} (h : cLin S D A sg n g) (hf : cFrE A D D2) : cLin S D2 A sg n g := by
  obtain ⟨h1, h2, h3, h4, h5⟩ := h
  refine ⟨?_, h2, h3, fun i hi => ?_, fun i hi => ?_⟩
  · rw [hf.2.2.1 _ _ (Or.inl (ly_ne hL 1 5 (by omega) (by omega) (by omega)))]; exact h1
  · rw [hf.2.1]; exact h4 i hi
  · obtain ⟨s1, s2, s3⟩ := h5 i hi
    have e1 : ∀ k, D2.1 (sg i) k = D.1 (sg i) k := fun k => hf.2.2.1 _ _ (Or.inl (kd_ne hL (by omega) s1.2 (by decide)))
    refine ⟨s1, ?_, ?_⟩
    · rw [e1, e1, e1, e1]; exact s2
    · rw [hf.1]; exact s3
theorem cVer_E (hL : cLay S A) {D2 : CD} {w : Nat → Nat} {nV : Nat} {V : Nat → Pt} (h : cVer S D A w nV V) (hf : cFrE A D D2) : cVer S D2 A w nV V := by
  obtain ⟨h1, h2, h3, h4⟩ := h
  refine ⟨by rw [hf.2.2.1 _ _ (Or.inl (ly_ne hL 4 5 (by omega) (by omega) (by omega)))]; exact h1, fun i hi => by rw [hf.2.1]; exact h2 i hi, h3, fun i hi => ?_⟩
  obtain ⟨p1, p2⟩ := h4 i hi
  exact ⟨p1, by rw [hf.1]; exact p2⟩
theorem k_append (hL : cLay S A) {q : ES} (hq : q.1 < 144) (he : cEd0 D A q) (a b c : Nat) :
    ∃ D2, f_X0_append F S D (A 5) (nI a) (nI b) (nI c) = some D2 ∧ cEd0 D2 A (epush q (a, b, c)) ∧ cFrE A D D2 := by
  have n1 : ∀ i j, i < 124 → j < 124 → i ≠ j → A i ≠ A j := fun i j => ly_ne hL i j
  have t2 : (2 : Int32) * nI q.1 = nI (2 * q.1) := by rw [show (2 : Int32) = zI 2 from rfl, nI_zI, zI_mul, nI_zI]; rfl
  refine ⟨cpF (cpA (cpA (cpA (cpA (cpA D (A 25) (upd (D.2.2.1 (A 25)) q.1 (nI a))) (A 26) (upd (D.2.2.1 (A 26)) q.1 (nI b))) (A 27) (upd (D.2.2.1 (A 27)) q.1 (nI c))) (A 29) (upd (D.2.2.1 (A 29)) (2 * q.1) (-1))) (A 29) (upd (upd (D.2.2.1 (A 29)) (2 * q.1) (-1)) (2 * q.1 + 1) (-1))) (A 5) 5 (nI (q.1 + 1)), ?_, ⟨cpF_s _ _ _ _, fun i hi => ?_⟩, ?_⟩
  · unfold f_X0_append cfW
    have hc : ∀ (D : CD) (a : Nat) (f : Nat → Int32), (cpA D a f).1 = D.1 := fun _ _ _ => rfl
    rw [ly_k hL 5 (by decide) (by decide), ly_r hL 5 0 20 (by decide), ly_k hL 20 (by decide) (by decide), he.1, k_set (rw_line hL) hq, cal_some, ly_r hL 5 1 21 (by decide), ly_k hL 21 (by decide) (by decide), hc, he.1, k_set (rw_start hL) hq, cal_some, ly_r hL 5 2 22 (by decide), ly_k hL 22 (by decide) (by decide), hc, hc, he.1, k_set (rw_end hL) hq, cal_some, ly_r hL 5 4 24 (by decide), ly_k hL 24 (by decide) (by decide), hc, hc, hc, he.1, t2, k_set (rw_face hL) (by omega), cal_some, ly_r hL 5 4 24 (by decide), ly_k hL 24 (by decide) (by decide), hc, hc, hc, hc, he.1, t2, nI_1, k_set (rw_face hL) (by omega), cal_some, hc, hc, hc, hc, hc, he.1, nI_1]
    simp only [cpA_s, cpA_n _ _ (n1 26 25 (by omega) (by omega) (by omega)), cpA_n _ _ (n1 27 25 (by omega) (by omega) (by omega)), cpA_n _ _ (n1 27 26 (by omega) (by omega) (by omega)), cpA_n _ _ (n1 29 25 (by omega) (by omega) (by omega)), cpA_n _ _ (n1 29 26 (by omega) (by omega) (by omega)), cpA_n _ _ (n1 29 27 (by omega) (by omega) (by omega))]
  · have hi : i < q.1 + 1 := hi
    unfold cE5
    show (va_up (va_up (va_up (va_up (va_up D.2.2.1 (A 25) _) (A 26) _) (A 27) _) (A 29) _) (A 29) _) (A 25) i = _ ∧ (va_up (va_up (va_up (va_up (va_up D.2.2.1 (A 25) _) (A 26) _) (A 27) _) (A 29) _) (A 29) _) (A 26) i = _ ∧ (va_up (va_up (va_up (va_up (va_up D.2.2.1 (A 25) _) (A 26) _) (A 27) _) (A 29) _) (A 29) _) (A 27) i = _ ∧ (va_up (va_up (va_up (va_up (va_up D.2.2.1 (A 25) _) (A 26) _) (A 27) _) (A 29) _) (A 29) _) (A 29) (2 * i) = -1 ∧ (va_up (va_up (va_up (va_up (va_up D.2.2.1 (A 25) _) (A 26) _) (A 27) _) (A 29) _) (A 29) _) (A 29) (2 * i + 1) = -1
    rw [va_up_ne _ _ (n1 25 29 (by omega) (by omega) (by omega)), va_up_ne _ _ (n1 25 29 (by omega) (by omega) (by omega)), va_up_ne _ _ (n1 25 27 (by omega) (by omega) (by omega)), va_up_ne _ _ (n1 25 26 (by omega) (by omega) (by omega)), va_up_self,
      va_up_ne _ _ (n1 26 29 (by omega) (by omega) (by omega)), va_up_ne _ _ (n1 26 29 (by omega) (by omega) (by omega)), va_up_ne _ _ (n1 26 27 (by omega) (by omega) (by omega)), va_up_self,
      va_up_ne _ _ (n1 27 29 (by omega) (by omega) (by omega)), va_up_ne _ _ (n1 27 29 (by omega) (by omega) (by omega)), va_up_self, va_up_self]
    show _ = nI (if i = q.1 then (a, b, c) else q.2 i).1 ∧ _ = nI (if i = q.1 then (a, b, c) else q.2 i).2.1 ∧ _ = nI (if i = q.1 then (a, b, c) else q.2 i).2.2 ∧ _
    by_cases z : i = q.1
    · subst z
      rw [if_pos rfl, upI_s, upI_s, upI_s, upI_s, upI_n (by omega), upI_s]
      exact ⟨rfl, rfl, rfl, rfl, rfl⟩
    · obtain ⟨e1, e2, e3, e4, e5⟩ := he.2 i (by omega)
      rw [if_neg z, upI_n z, upI_n z, upI_n z, upI_n (by omega), upI_n (by omega), upI_n (by omega), upI_n (by omega)]
      exact ⟨e1, e2, e3, e4, e5⟩
  · refine ⟨rfl, rfl, fun b k hb => by rw [cpF_n _ _ hb]; rfl, fun b h5 h6 h7 h9 => ?_⟩
    show (va_up (va_up (va_up (va_up (va_up D.2.2.1 (A 25) _) (A 26) _) (A 27) _) (A 29) _) (A 29) _) b = _
    rw [va_up_ne _ _ h9, va_up_ne _ _ h9, va_up_ne _ _ h7, va_up_ne _ _ h6, va_up_ne _ _ h5]
variable {w : Nat → Nat} {nV : Nat} {V : Nat → Pt}
theorem k_ge24 (hL : cLay S A) (hl0 : cLin S D A sg n g) (hv0 : cVer S D A w nV V) (ho : ∀ i, i < n → sOk (g i)) (hn : n ≤ 12) (hbv : ∀ i, i < nV → bV (V i)) (hnV : nV ≤ 90) {s : Nat} (hs : s < n) {q : ES} (hq : (eJ g V s nV q).1.1 ≤ 144) (k9 : CD → Int32 → Option CD) :
    ∀ (d m v : Nat) (D1 : CD), v + d = nV → d < m → cFrE A D D1 → cEd0 D1 A (eJ g V s v q).1 → ∃ D2, f_X6_gatherEdges_L24 F S (A 0) k9 m D1 (nI s) (oI (eJ g V s v q).2) (nI v) = k9 D2 (nI (s + 1)) ∧ cFrE A D D2 ∧ cEd0 D2 A (eJ g V s nV q).1 := by
  intro d
  induction d with
  | zero =>
    intro m v D1 hj hm hf he
    obtain ⟨m, rfl⟩ : ∃ q, m = q + 1 := ⟨m - 1, by omega⟩
    have e : v = nV := by omega
    subst e
    rw [f_X6_gatherEdges_L24, ly_k hL 0 (by decide) (by decide), ly_r hL 0 2 4 (by decide), ly_k hL 4 (by decide) (by decide), (cVer_E hL hv0 hf).1, if_pos (Int32.le_refl _), nI_1]
    exact ⟨D1, rfl, hf, he⟩
  | succ d ih =>
    intro m v D1 hj hm hf he
    obtain ⟨m, rfl⟩ : ∃ q, m = q + 1 := ⟨m - 1, by omega⟩
    have hvn : v < nV := by omega
    have hv := cVer_E hL hv0 hf
    have hl := cLin_E hL hl0 hf
    have hsz := eJ_mono g V s q (v := v + 1) (nV := nV) (by omega)
    obtain ⟨-, -, hu⟩ := eJ_cnt g V s q v
    rw [f_X6_gatherEdges_L24, ly_k hL 0 (by decide) (by decide), ly_r hL 0 2 4 (by decide), ly_k hL 4 (by decide) (by decide), hv.1, if_neg (by rw [nI_leI (by omega) (by omega)]; omega), ly_r hL 0 0 1 (by decide), ly_k hL 1 (by decide) (by decide), k_lget hL hl hn hs, cal_some, ck_ok (hl.2.2.2.2 s hs).1, ly_r hL 0 2 4 (by decide), ly_k hL 4 (by decide) (by decide), k_at hL hv.2.1 (by omega), cal_some, k_holds (hl.2.2.2.2 s hs) (ho s hs) (hv.2.2.2 v hvn) (hbv v hvn), cal_some]
    unfold f_X6_gatherEdges_b77
    rw [nI_1]
    cases hb : onB (g s) (V v)
    · rw [if_pos (show bI false = 0 from rfl)]
      have e : eJ g V s (v + 1) q = eJ g V s v q := by rw [eJ, hb]; rfl
      rw [← e]
      exact ih m (v + 1) D1 (by omega) (by omega) hf (by rw [e]; exact he)
    · rw [if_neg (show ¬ bI true = 0 by decide)]
      have e2 : (eJ g V s (v + 1) q).2 = some v := by rw [eJ, hb]; rfl
      cases ho2 : (eJ g V s v q).2 with
      | none =>
        have e1 : (eJ g V s (v + 1) q).1 = (eJ g V s v q).1 := by rw [eJ, hb, ho2]; rfl
        rw [if_pos (show oI none = -1 from rfl)]
        have hr := ih m (v + 1) D1 (by omega) (by omega) hf (by rw [e1]; exact he)
        rw [e2] at hr; exact hr
      | some u =>
        have hul := hu u ho2
        have e1 : (eJ g V s (v + 1) q).1 = epush (eJ g V s v q).1 (s, u, v) := by rw [eJ, hb, ho2]; rfl
        have hlt : (eJ g V s v q).1.1 < 144 := by
          have : (eJ g V s (v + 1) q).1.1 = (eJ g V s v q).1.1 + 1 := by rw [e1]; rfl
          omega
        obtain ⟨D2, b1, b2, b3⟩ := k_append (F := F) hL hlt he s u v
        rw [if_neg (fun w => by have := (oI_m1 (o := some u) (fun x hx => by cases hx; omega)).mp w; cases this), ly_r hL 0 3 5 (by decide), ly_k hL 5 (by decide) (by decide), show oI (some u) = nI u from rfl, b1, cal_some]
        have hr := ih m (v + 1) D2 (by omega) (by omega) (hf.trans b3) (by rw [e1]; exact b2)
        rw [e2] at hr; exact hr
theorem k_ge9 (hF : 1000 ≤ F) (hL : cLay S A) (hl0 : cLin S D A sg n g) (hv0 : cVer S D A w nV V) (ho : ∀ i, i < n → sOk (g i)) (hn : n ≤ 12) (hbv : ∀ i, i < nV → bV (V i)) (hnV : nV ≤ 90) (hq : ∀ s, s ≤ n → (eI g V nV s).1 ≤ 144) :
    ∀ (d m s : Nat) (D1 : CD), s + d = n → d < m → cFrE A D D1 → cEd0 D1 A (eI g V nV s) → ∃ D2, f_X6_gatherEdges_L9 F S (A 0) m D1 (nI s) = some D2 ∧ cFrE A D D2 ∧ cEd0 D2 A (eI g V nV n) := by
  intro d
  induction d with
  | zero =>
    intro m s D1 hj hm hf he
    obtain ⟨m, rfl⟩ : ∃ q, m = q + 1 := ⟨m - 1, by omega⟩
    have e : s = n := by omega
    subst e
    rw [f_X6_gatherEdges_L9, ly_k hL 0 (by decide) (by decide), ly_r hL 0 0 1 (by decide), ly_k hL 1 (by decide) (by decide), k_size hL (cLin_E hL hl0 hf), cal_some, if_pos (Int32.le_refl _)]
    exact ⟨D1, rfl, hf, he⟩
  | succ d ih =>
    intro m s D1 hj hm hf he
    obtain ⟨m, rfl⟩ : ∃ q, m = q + 1 := ⟨m - 1, by omega⟩
    rw [f_X6_gatherEdges_L9, ly_k hL 0 (by decide) (by decide), ly_r hL 0 0 1 (by decide), ly_k hL 1 (by decide) (by decide), k_size hL (cLin_E hL hl0 hf), cal_some, if_neg (by rw [nI_leI (by omega) (by omega)]; omega)]
    obtain ⟨D2, b1, b2, b3⟩ := k_ge24 (F := F) hL hl0 hv0 ho hn hbv hnV (s := s) (by omega) (q := eI g V nV s) (hq (s + 1) (by omega)) (f_X6_gatherEdges_L9 F S (A 0) m) nV F 0 D1 (by omega) (by omega) hf he
    obtain ⟨D3, c1, c2, c3⟩ := ih m (s + 1) D2 (by omega) (by omega) b2 b3
    exact ⟨D3, b1.trans c1, c2, c3⟩
/-- the class gathers the edges of its lines -/
theorem k_gatherE (hF : 1000 ≤ F) (hL : cLay S A) (hl : cLin S D A sg n g) (hv : cVer S D A w (VV g n) (VP g n)) (hg : gOk n g) (hn : n ≤ 12) :
    ∃ D2, f_X6_gatherEdges F S D (A 0) = some D2 ∧ cFrE A D D2 ∧ cEd0 D2 A (EE g n) := by
  have h1 := vI_cnt g n
  have h2 := tri_le n (by omega)
  obtain ⟨D2, b1, b2, b3⟩ := k_ge9 (F := F) (D := D) hF hL hl hv hg.1 hn (vI_good hg.1 n (Nat.le_refl _)).2 (by show (vI g n).1 ≤ 90; omega) (fun s hs => by have : (eI g (VP g n) (VV g n) s).1 ≤ 12 * s := eI_le hg hn s hs; omega) n F 0 (cpF D (A 5) 5 0) (by omega) (by omega) ⟨rfl, rfl, fun b k hb => cpF_n _ _ hb, fun _ _ _ _ _ => rfl⟩ ⟨cpF_s _ _ _ _, fun i hi => by have : i < 0 := hi; omega⟩
  refine ⟨D2, ?_, b2, b3⟩
  unfold f_X6_gatherEdges f_X0_clear cfW
  rw [ly_k hL 0 (by decide) (by decide), ly_r hL 0 3 5 (by decide), ly_k hL 5 (by decide) (by decide), ly_k hL 5 (by decide) (by decide), cal_some]
  exact b1
end CED
