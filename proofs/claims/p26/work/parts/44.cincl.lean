/-! ### the class puts a point among its vertices -/
/-- what the vertices' methods leave -/
def cFrV (A : Nat → Nat) (D D2 : CD) : Prop := D2.2.2.1 = D.2.2.1 ∧ (∀ b k, b ≠ A 4 ∨ k ≠ 6 → D2.1 b k = D.1 b k) ∧ (∀ b, (∀ i, i < 90 → b ≠ A (34 + i)) → D2.2.1 b = D.2.1 b) ∧ ∀ b, b ≠ A 10 → D2.2.2.2 b = D.2.2.2 b
theorem cFrV.trans {A : Nat → Nat} {D D2 D3 : CD} (h : cFrV A D D2) (h2 : cFrV A D2 D3) : cFrV A D D3 := ⟨h2.1.trans h.1, fun b k hb => (h2.2.1 b k hb).trans (h.2.1 b k hb), fun b hb => (h2.2.2.1 b hb).trans (h.2.2.1 b hb), fun b hb => (h2.2.2.2 b hb).trans (h.2.2.2 b hb)⟩
theorem cFrV.rf {A : Nat → Nat} {D : CD} : cFrV A D D := ⟨rfl, fun _ _ _ => rfl, fun _ _ => rfl, fun _ _ => rfl⟩
section CINC
variable {F : Nat} {S : CS} {D : CD} {A : Nat → Nat} {w : Nat → Nat} {nV : Nat} {V : Nat → Pt} {p : Pt}
theorem k_copy {a b : Nat} (ha : a ∈ S.1 ∧ S.2.1 a = 2) (hab : b ≠ a) (hb : cPt S D b p) : ∃ D2, f_X2_copy F S D a b = some D2 ∧ cPt S D2 a p ∧ cFrP a D D2 := by
  have e : ∀ (D : CD) (k : Nat) (v : Int64), (cpG D a k v).2.1 b = D.2.1 b := fun D k v => va_up_ne _ _ hab
  unfold f_X2_copy cgW
  rw [ck_ok hb.1, ck_ok ha]
  simp only [e, hb.2.1, hb.2.2.1, hb.2.2.2.1, hb.2.2.2.2]
  obtain ⟨D2, e1, e2, e3, e4, e5, e6⟩ := cpG4 (D := D) a (zL p.1.num) (zL p.1.den) (zL p.2.num) (zL p.2.den)
  exact ⟨D2, by rw [e1], ⟨ha, e3, e4, e5, e6⟩, e2⟩
theorem pt_kd (hL : cLay S A) {i : Nat} (hi : i < 90) : A (34 + i) ∈ S.1 ∧ S.2.1 (A (34 + i)) = 2 := by
  have h := hL.1 (34 + i) (by omega) (by omega)
  have e : kdR (34 + i) = 2 := (by decide +kernel : ∀ i, i < 90 → kdR (34 + i) = 2) i hi
  rw [e] at h; exact h
theorem k_incL (hL : cLay S A) (hv : cVer S D A w nV V) (hbv : ∀ i, i < nV → bV (V i)) (hnV : nV ≤ 90) (hp : cPt S D (A 9) p) (bp : bV p) :
    ∀ k m, k ≤ nV → k < m → f_X5_include_L5 F S (A 4) m D (A 9) (nI k) = f_X5_include_b29 F S (A 4) D (A 9) (nI (vpos V p k)) := by
  intro k
  induction k with
  | zero =>
    intro m _ hm
    obtain ⟨m, rfl⟩ : ∃ q, m = q + 1 := ⟨m - 1, by omega⟩
    rw [f_X5_include_L5, if_pos (by decide)]
    rfl
  | succ k ih =>
    intro m hk hm
    obtain ⟨m, rfl⟩ : ∃ q, m = q + 1 := ⟨m - 1, by omega⟩
    have h1 : nI (k + 1) - 1 = nI k := by
      rw [nI_zI, show (1 : Int32) = zI 1 from rfl, zI_sub, nI_zI]; congr 1; omega
    have h2 : nI (k + 1) + (-1) = nI k := by rw [nI_m1, nI_zI]; congr 1; omega
    have hw := (hv.2.1 k (by omega)).1
    rw [f_X5_include_L5, if_neg (fun q => by have := (nI_leI (a := k + 1) (b := 0) (by omega) (by omega)).mp q; omega), ly_k hL 4 (by decide) (by decide), h1, h2, k_at hL hv.2.1 (by omega), cal_some, ck_ok (pt_kd hL hw), k_cmpOrder (hv.2.2.2 k (by omega)) hp (hbv k (by omega)) bp, cal_some, vpos]
    by_cases z : ltV (V k) p
    · rw [if_pos ((zI_lt0 (cmpV_32 _ _)).mpr (cmpV_neg.mpr z)), if_pos z]
    · rw [if_neg (fun q => z (cmpV_neg.mp ((zI_lt0 (cmpV_32 _ _)).mp q))), if_neg z]
      exact ih m (by omega) (by omega)
/-- the places of the points while some move up -/
def wMv (w : Nat → Nat) (nV k : Nat) : Nat → Nat := fun i => if i < k then w i else if i = k then w nV else if i ≤ nV then w (i - 1) else w i
theorem wMv_inj (h : ∀ i j, i < 90 → j < 90 → w i = w j → i = j) {k : Nat} (hk : k ≤ nV) (hnV : nV < 90) : ∀ i j, i < 90 → j < 90 → wMv w nV k i = wMv w nV k j → i = j := by
  have key : ∀ i, i < 90 → ∃ i', i' < 90 ∧ wMv w nV k i = w i' ∧ ((i < k ∧ i' = i) ∨ (i = k ∧ i' = nV) ∨ (k < i ∧ i ≤ nV ∧ i' = i - 1) ∨ (nV < i ∧ i' = i)) := by
    intro i hi
    unfold wMv
    by_cases h1 : i < k
    · exact ⟨i, hi, by rw [if_pos h1], Or.inl ⟨h1, rfl⟩⟩
    · by_cases h2 : i = k
      · exact ⟨nV, hnV, by rw [if_neg h1, if_pos h2], Or.inr (Or.inl ⟨h2, rfl⟩)⟩
      · by_cases h3 : i ≤ nV
        · exact ⟨i - 1, by omega, by rw [if_neg h1, if_neg h2, if_pos h3], Or.inr (Or.inr (Or.inl ⟨by omega, h3, rfl⟩))⟩
        · exact ⟨i, hi, by rw [if_neg h1, if_neg h2, if_neg h3], Or.inr (Or.inr (Or.inr ⟨by omega, rfl⟩))⟩
  intro i j hi hj e
  obtain ⟨i', i1, i2, i3⟩ := key i hi
  obtain ⟨j', j1, j2, j3⟩ := key j hj
  have := h i' j' i1 j1 (by rw [← i2, ← j2]; exact e)
  omega
theorem k_insL (hL : cLay S A) (hv : cVer S D A w nV V) (hnV : nV < 90) {k : Nat} (hk : k ≤ nV) :
    ∀ (d m j : Nat) (D1 : CD), k + d = j → j ≤ nV → d < m → D1.1 = D.1 → D1.2.1 = D.2.1 → D1.2.2.1 = D.2.2.1 → (∀ b, b ≠ A 10 → D1.2.2.2 b = D.2.2.2 b) → (∀ i, i < j → D1.2.2.2 (A 10) i = some (A (34 + w i))) → (∀ i, j < i → i ≤ nV → D1.2.2.2 (A 10) i = some (A (34 + w (i - 1)))) → (∀ i, nV < i → i < 90 → D1.2.2.2 (A 10) i = some (A (34 + w i))) →
    ∃ D2, f_X5_insert_L41 F S (A 4) m D1 (nI k) (A 9) (A (34 + w nV)) (nI j) = (cal (f_X2_copy F S D2 (A (34 + w nV)) (A 9)) fun D11 => cfW D11 (A 4) 6 ((D11.1 (A 4) 6) + 1) fun D12 => some D12) ∧ D2.1 = D.1 ∧ D2.2.1 = D.2.1 ∧ D2.2.2.1 = D.2.2.1 ∧ (∀ b, b ≠ A 10 → D2.2.2.2 b = D.2.2.2 b) ∧ ∀ i, i < 90 → D2.2.2.2 (A 10) i = some (A (34 + wMv w nV k i)) := by
  have e90 : S.2.2.2 (A 10) = 90 := hL.2.2.2 (10, 90) (by decide)
  intro d
  induction d with
  | zero =>
    intro m j D1 hj hjn hm a1 a2 a3 a4 a5 a6 a7
    obtain ⟨m, rfl⟩ : ∃ q, m = q + 1 := ⟨m - 1, by omega⟩
    have hjk : j = k := by omega
    subst hjk
    rw [f_X5_insert_L41, if_pos (Int32.le_refl _), ly_k hL 4 (by decide) (by decide), ly_r hL 4 0 10 (by decide), ly_k hL 10 (by decide) (by decide), ck_ok (pt_kd hL (hv.2.1 nV hnV).1), crW_at (by omega) (by omega)]
    refine ⟨_, rfl, a1, a2, a3, fun b hb => ?_, fun i hi => ?_⟩
    · show va_up D1.2.2.2 (A 10) _ b = _
      rw [va_up_ne _ _ hb]; exact a4 b hb
    · show va_up D1.2.2.2 (A 10) _ (A 10) i = _
      rw [va_up_self]
      unfold wMv
      by_cases h1 : i = j
      · subst h1; rw [va_up_self, if_neg (Nat.lt_irrefl _), if_pos rfl]
      · rw [va_up_ne _ _ h1]
        by_cases h2 : i < j
        · rw [if_pos h2]; exact a5 i h2
        · rw [if_neg h2, if_neg h1]
          by_cases h3 : i ≤ nV
          · rw [if_pos h3]; exact a6 i (by omega) h3
          · rw [if_neg h3]; exact a7 i (by omega) hi
  | succ d ih =>
    intro m j D1 hj hjn hm a1 a2 a3 a4 a5 a6 a7
    obtain ⟨m, rfl⟩ : ∃ q, m = q + 1 := ⟨m - 1, by omega⟩
    obtain ⟨j, rfl⟩ : ∃ q, j = q + 1 := ⟨j - 1, by omega⟩
    have h1 : nI (j + 1) - 1 = nI j := by
      rw [nI_zI, show (1 : Int32) = zI 1 from rfl, zI_sub, nI_zI]; congr 1; omega
    have h2 : nI (j + 1) + (-1) = nI j := by rw [nI_m1, nI_zI]; congr 1; omega
    have hb : rdA 90 (D1.2.2.2 (A 10)) (nI j) = fun (g : Nat → Option CD) => g (A (34 + w j)) := by
      funext g
      rw [rdA_at (by omega) (by decide), a5 j (by omega)]; rfl
    rw [f_X5_insert_L41, if_neg (fun q => by have := (nI_leI (a := j + 1) (b := k) (by omega) (by omega)).mp q; omega), ly_k hL 4 (by decide) (by decide), ly_r hL 4 0 10 (by decide), ly_r hL 4 0 10 (by decide), ly_k hL 10 (by decide) (by decide), h1, h2, e90, hb]
    show ∃ D2, ckK S (A 10) 9 (ckK S (A (34 + w j)) 2 (crW S D1 (A 10) (nI (j + 1)) (A (34 + w j)) fun D26 => f_X5_insert_L41 F S (A 4) m D26 (nI k) (A 9) (A (34 + w nV)) (nI j))) = _ ∧ _
    rw [ly_k hL 10 (by decide) (by decide), ck_ok (pt_kd hL (hv.2.1 j (by omega)).1), crW_at (by omega) (by omega)]
    refine ih m j _ (by omega) (by omega) (by omega) a1 a2 a3 (fun b hb => ?_) (fun i hi => ?_) (fun i hi hi2 => ?_) (fun i hi hi2 => ?_)
    · show va_up D1.2.2.2 (A 10) _ b = _
      rw [va_up_ne _ _ hb]; exact a4 b hb
    · show va_up D1.2.2.2 (A 10) _ (A 10) i = _
      rw [va_up_self, va_up_ne _ _ (by omega)]; exact a5 i (by omega)
    · show va_up D1.2.2.2 (A 10) _ (A 10) i = _
      rw [va_up_self]
      by_cases z : i = j + 1
      · subst z; rw [va_up_self]; rfl
      · rw [va_up_ne _ _ z]; exact a6 i (by omega) hi2
    · show va_up D1.2.2.2 (A 10) _ (A 10) i = _
      rw [va_up_self, va_up_ne _ _ (by omega)]; exact a7 i hi hi2
theorem k_include (hF : 1000 ≤ F) (hL : cLay S A) (hv : cVer S D A w nV V) (hbv : ∀ i, i < nV → bV (V i)) (h90 : (vins (nV, V) p).1 ≤ 90) (hp : cPt S D (A 9) p) (bp : bV p) :
    ∃ D2 w2, f_X5_include F S D (A 4) (A 9) = some D2 ∧ cFrV A D D2 ∧ cVer S D2 A w2 (vins (nV, V) p).1 (vins (nV, V) p).2 := by
  have hnV : nV ≤ 90 := by
    have : nV ≤ (vins (nV, V) p).1 := by unfold vins; split <;> simp
    omega
  have hvp := vpos_le V p nV
  have top : f_X5_include F S D (A 4) (A 9) = f_X5_include_b29 F S (A 4) D (A 9) (nI (vpos V p nV)) := by
    unfold f_X5_include
    rw [ly_k hL 4 (by decide) (by decide), hv.1]
    exact k_incL hL hv hbv hnV hp bp nV F (Nat.le_refl _) (by omega)
  by_cases hkn : vpos V p nV < nV ∧ V (vpos V p nV) = p
  · have e : vins (nV, V) p = (nV, V) := by unfold vins; rw [if_pos hkn]
    refine ⟨D, w, ?_, cFrV.rf, by rw [e]; exact hv⟩
    have hw := (hv.2.1 (vpos V p nV) (by omega)).1
    rw [top]
    unfold f_X5_include_b29 f_X5_include_b54
    rw [ly_k hL 4 (by decide) (by decide), hv.1, if_neg (fun q => by have := (nI_leI (a := nV) (b := vpos V p nV) (by omega) (by omega)).mp q; omega), k_at hL hv.2.1 (by omega), cal_some, ck_ok (pt_kd hL hw), k_cmpOrder (hv.2.2.2 _ hkn.1) hp (hbv _ hkn.1) bp, cal_some, if_pos ((zI_eq0 (cmpV_32 _ _)).mpr (cmpV_0.mpr hkn.2)), if_neg (by decide)]
  · have e : vins (nV, V) p = (nV + 1, vput V (vpos V p nV) p) := by unfold vins; rw [if_neg hkn]
    rw [e] at h90 ⊢
    have hn90 : nV < 90 := by
      have : nV + 1 ≤ 90 := h90
      omega
    have b54 : f_X5_include F S D (A 4) (A 9) = f_X5_include_b54 F S (A 4) D (A 9) (nI (vpos V p nV)) 0 := by
      rw [top]
      unfold f_X5_include_b29
      rw [ly_k hL 4 (by decide) (by decide), hv.1]
      by_cases z : nV ≤ vpos V p nV
      · rw [if_pos ((nI_leI (by omega) (by omega)).mpr z)]
      · have hlt : vpos V p nV < nV := by omega
        have hw := (hv.2.1 (vpos V p nV) (by omega)).1
        rw [if_neg (fun q => z ((nI_leI (by omega) (by omega)).mp q)), k_at hL hv.2.1 (by omega), cal_some, ck_ok (pt_kd hL hw), k_cmpOrder (hv.2.2.2 _ hlt) hp (hbv _ hlt) bp, cal_some, if_neg (fun q => hkn ⟨hlt, cmpV_0.mp ((zI_eq0 (cmpV_32 _ _)).mp q)⟩)]
    have e90 : S.2.2.2 (A 10) = 90 := hL.2.2.2 (10, 90) (by decide)
    obtain ⟨D2, d1, d2, d3, d4, d5, d6⟩ := k_insL (F := F) hL hv hn90 hvp (nV - vpos V p nV) F nV D (by omega) (Nat.le_refl _) (by omega) rfl rfl rfl (fun _ _ => rfl) (fun i hi => (hv.2.1 i (by omega)).2) (fun i hi hi2 => absurd hi (by omega)) (fun i hi hi2 => (hv.2.1 i hi2).2)
    have hwn := (hv.2.1 nV hn90).1
    have h9 : ∀ i, i < 90 → A 9 ≠ A (34 + i) := fun i hi => ly_ne hL 9 (34 + i) (by omega) (by omega) (by omega)
    have hp2 : cPt S D2 (A 9) p := by
      obtain ⟨p1, p2⟩ := hp
      exact ⟨p1, by rw [d3]; exact p2⟩
    obtain ⟨D3, c1, c2, c3⟩ := k_copy (F := F) (pt_kd hL hwn) (h9 _ hwn) hp2
    refine ⟨cpF D3 (A 4) 6 (nI (nV + 1)), wMv w nV (vpos V p nV), ?_, ?_, ?_⟩
    · rw [b54]
      unfold f_X5_include_b54 f_X5_insert
      rw [if_pos rfl, ly_k hL 4 (by decide) (by decide), if_neg (nI_pos (by omega)), ly_k hL 4 (by decide) (by decide), hv.1, if_neg (fun q => by have := (nI_ltI (a := nV) (b := vpos V p nV) (by omega) (by omega)).mp q; omega), ly_r hL 4 0 10 (by decide), ly_k hL 10 (by decide) (by decide), e90, if_pos (show nI nV < Int32.ofNat 90 from (nI_ltI (a := nV) (b := 90) (by omega) (by omega)).mpr hn90), ly_r hL 4 0 10 (by decide), ly_k hL 10 (by decide) (by decide), e90, rdA_at hn90 (by decide), (hv.2.1 nV hn90).2]
      show cal (f_X5_insert_L41 F S (A 4) F D (nI (vpos V p nV)) (A 9) (A (34 + w nV)) (nI nV)) (fun D4 => some D4) = _
      rw [d1, c1, cal_some]
      show some (cpF D3 (A 4) 6 (D3.1 (A 4) 6 + 1)) = _
      rw [c3.1, d2, hv.1, nI_1]
    · refine ⟨?_, fun b k hb => ?_, fun b hb => ?_, fun b hb => ?_⟩
      · show D3.2.2.1 = _
        rw [c3.2.1, d4]
      · rw [cpF_n _ _ hb, c3.1, d2]
      · show D3.2.1 b = _
        rw [c3.2.2 b (hb _ hwn), d3]
      · show D3.2.2.2 b = _
        rw [c3.2.1]; exact d5 b hb
    · refine ⟨cpF_s _ _ _ _, fun i hi => ⟨?_, ?_⟩, wMv_inj hv.2.2.1 hvp hn90, fun i hi => ?_⟩
      · unfold wMv
        (repeat' split)
        · exact (hv.2.1 i hi).1
        · exact hwn
        · exact (hv.2.1 (i - 1) (by omega)).1
        · exact (hv.2.1 i hi).1
      · show D3.2.2.2 (A 10) i = _
        rw [c3.2.1]; exact d6 i hi
      · have pk : ∀ {j : Nat} {r : Pt}, cPt S D3 (A (34 + j)) r → cPt S (cpF D3 (A 4) 6 (nI (nV + 1))) (A (34 + j)) r := fun h => h
        apply pk
        show cPt S D3 (A (34 + wMv w nV (vpos V p nV) i)) (vput V (vpos V p nV) p i)
        unfold wMv vput
        have old : ∀ i', i' < nV → cPt S D3 (A (34 + w i')) (V i') := by
          intro i' hi'
          have h1 := hv.2.2.2 i' hi'
          have hne : A (34 + w i') ≠ A (34 + w nV) := fun q => by
            have q1 := hL.2.1 _ _ (by have := (hv.2.1 i' (by omega)).1; omega) (by omega) q
            have := hv.2.2.1 i' nV (by omega) hn90 (by omega)
            omega
          have h2 : cPt S D2 (A (34 + w i')) (V i') := by
            obtain ⟨p1, p2⟩ := h1
            exact ⟨p1, by rw [d3]; exact p2⟩
          exact cPt_fr h2 c3 hne
        have hi : i < nV + 1 := hi
        by_cases h1 : i < vpos V p nV
        · rw [if_pos h1, if_pos h1]; exact old i (by omega)
        · rw [if_neg h1, if_neg h1]
          by_cases h2 : i = vpos V p nV
          · rw [if_pos h2, if_pos h2]; exact c2
          · rw [if_neg h2, if_neg h2, if_pos (by omega)]; exact old (i - 1) (by omega)
end CINC
