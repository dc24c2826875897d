/-! ### the class sorts its lines by slope -/
/-- only the cells of the roles in R, and no field, may differ -/
def cFrR (A : Nat → Nat) (R : List Nat) (D D2 : CD) : Prop := D2.1 = D.1 ∧ D2.2.1 = D.2.1 ∧ D2.2.2.2 = D.2.2.2 ∧ ∀ b, (∀ r, r ∈ R → b ≠ A r) → D2.2.2.1 b = D.2.2.1 b
theorem cFrR.trans {A : Nat → Nat} {R : List Nat} {D D2 D3 : CD} (h : cFrR A R D D2) (h2 : cFrR A R D2 D3) : cFrR A R D D3 := ⟨h2.1.trans h.1, h2.2.1.trans h.2.1, h2.2.2.1.trans h.2.2.1, fun b hb => (h2.2.2.2 b hb).trans (h.2.2.2 b hb)⟩
theorem cFrR.rf {A : Nat → Nat} {R : List Nat} {D : CD} : cFrR A R D D := ⟨rfl, rfl, rfl, fun _ _ => rfl⟩
theorem cFrR.cp {A : Nat → Nat} {R : List Nat} {D : CD} {r : Nat} {f : Nat → Int32} (h : r ∈ R) : cFrR A R D (cpA D (A r) f) := ⟨rfl, rfl, rfl, fun b hb => cpA_n _ _ (hb r h)⟩
theorem cFrR.row {A : Nat → Nat} {S : CS} (hL : cLay S A) {R : List Nat} {D D2 : CD} (h : cFrR A R D D2) {j : Nat} (hj : j < 124) (hR : ∀ r, r ∈ R → r < 124 ∧ r ≠ j) : D2.2.2.1 (A j) = D.2.2.1 (A j) := h.2.2.2 _ (fun r hr => ly_ne hL j r hj (hR r hr).1 (fun e => (hR r hr).2 e.symm))
theorem cLin_R {A sg : Nat → Nat} {S : CS} {R : List Nat} {D D2 : CD} {n : Nat} {g : Nat → Sg} (h : cLin S D A sg n g) (hf : cFrR A R D D2) : cLin S D2 A sg n g := by
  obtain ⟨h1, h2, h3, h4, h5⟩ := h
  refine ⟨by rw [hf.1]; exact h1, h2, h3, fun i hi => by rw [hf.2.2.1]; exact h4 i hi, fun i hi => ?_⟩
  obtain ⟨s1, s2, s3⟩ := h5 i hi
  exact ⟨s1, by rw [hf.1]; exact s2, by rw [hf.2.1]; exact s3⟩
theorem cVer_R {A w : Nat → Nat} {S : CS} {R : List Nat} {D D2 : CD} {nV : Nat} {V : Nat → Pt} (h : cVer S D A w nV V) (hf : cFrR A R D D2) : cVer S D2 A w nV V := by
  obtain ⟨h1, h2, h3, h4⟩ := h
  refine ⟨by rw [hf.1]; exact h1, fun i hi => by rw [hf.2.2.1]; exact h2 i hi, h3, fun i hi => ?_⟩
  obtain ⟨p1, p2⟩ := h4 i hi
  exact ⟨p1, by rw [hf.2.1]; exact p2⟩
/-- the first i lines in order of slope -/
def sO (n : Nat) (g : Nat → Sg) (i : Nat) (o : Nat → Nat) : Prop := (∀ k, k < i → o k < i) ∧ (∀ a b, a < i → b < i → o a = o b → a = b) ∧ ∀ a b, a < b → b < i → srk n g (o a) ≤ srk n g (o b)
def sIn (o : Nat → Nat) (p i : Nat) : Nat → Nat := fun k => if k < p then o k else if k = p then i else o (k - 1)
theorem sO_in {n : Nat} {g : Nat → Sg} {i : Nat} {o : Nat → Nat} (h : sO n g i o) {p : Nat} (hp : p ≤ i) (h1 : ∀ k, k < p → srk n g (o k) ≤ srk n g i) (h2 : ∀ k, p ≤ k → k < i → srk n g i ≤ srk n g (o k)) : sO n g (i + 1) (sIn o p i) := by
  obtain ⟨a1, a2, a3⟩ := h
  refine ⟨fun k hk => ?_, fun a b ha hb e => ?_, fun a b hab hb => ?_⟩
  · unfold sIn
    split
    · have := a1 k (by omega); omega
    · split
      · omega
      · have := a1 (k - 1) (by omega); omega
  · have q : ∀ k, k < i + 1 → (k < p ∧ sIn o p i k = o k ∧ o k < i) ∨ (k = p ∧ sIn o p i k = i) ∨ (p < k ∧ sIn o p i k = o (k - 1) ∧ o (k - 1) < i) := by
      intro k hk
      unfold sIn
      by_cases z : k < p
      · exact Or.inl ⟨z, by rw [if_pos z], a1 k (by omega)⟩
      · by_cases y : k = p
        · exact Or.inr (Or.inl ⟨y, by rw [if_neg z, if_pos y]⟩)
        · exact Or.inr (Or.inr ⟨by omega, by rw [if_neg z, if_neg y], a1 (k - 1) (by omega)⟩)
    rcases q a ha with ⟨x1, x2, x3⟩ | ⟨x1, x2⟩ | ⟨x1, x2, x3⟩ <;> rcases q b hb with ⟨y1, y2, y3⟩ | ⟨y1, y2⟩ | ⟨y1, y2, y3⟩
    · exact a2 a b (by omega) (by omega) (by omega)
    · omega
    · have := a2 a (b - 1) (by omega) (by omega) (by omega); omega
    · omega
    · omega
    · omega
    · have := a2 (a - 1) b (by omega) (by omega) (by omega); omega
    · omega
    · have := a2 (a - 1) (b - 1) (by omega) (by omega) (by omega); omega
  · unfold sIn
    by_cases z : b < p
    · rw [if_pos (show a < p by omega), if_pos z]; exact a3 a b hab (by omega)
    · by_cases y : b = p
      · rw [if_pos (show a < p by omega), if_neg z, if_pos y]; exact h1 a (by omega)
      · rw [if_neg z, if_neg y]
        by_cases x : a < p
        · rw [if_pos x]
          rcases Nat.lt_or_ge a (b - 1) with w | w
          · exact a3 a (b - 1) w (by omega)
          · omega
        · rw [if_neg x]
          by_cases v : a = p
          · rw [if_pos v]; exact h2 (b - 1) (by omega) (by omega)
          · rw [if_neg v]; exact a3 (a - 1) (b - 1) (by omega) (by omega)
section CSO
variable {F : Nat} {S : CS} {D : CD} {A : Nat → Nat} {sg : Nat → Nat} {n : Nat} {g : Nat → Sg}
theorem k_so15 (hL : cLay S A) (hl0 : cLin S D A sg n g) (ho : ∀ i, i < n → sOk (g i)) (hn : n ≤ 12) {i : Nat} (hi : i < n) {o : Nat → Nat} (hs : sO n g i o) (k2 : CD → Int32 → Option CD) :
    ∀ (p m : Nat) (D1 : CD), p ≤ i → p < m → cFrR A [8] D D1 → (∀ k, k < p → D1.2.2.1 (A 8) k = nI (o k)) → (∀ k, p < k → k ≤ i → D1.2.2.1 (A 8) k = nI (o (k - 1))) → (∀ k, p ≤ k → k < i → srk n g i ≤ srk n g (o k)) → ∃ D2 o2, f_X6_sortBySlope_L15 F S (A 0) k2 m D1 (nI i) (nI p) = k2 D2 (nI (i + 1)) ∧ cFrR A [8] D D2 ∧ sO n g (i + 1) o2 ∧ ∀ k, k < i + 1 → D2.2.2.1 (A 8) k = nI (o2 k) := by
  intro p m D1 hp hm hf r1 r2 r3
  have fin : ∀ (p : Nat) (D1 : CD), p ≤ i → cFrR A [8] D D1 → (∀ k, k < p → D1.2.2.1 (A 8) k = nI (o k)) → (∀ k, p < k → k ≤ i → D1.2.2.1 (A 8) k = nI (o (k - 1))) → (∀ k, p ≤ k → k < i → srk n g i ≤ srk n g (o k)) → (∀ k, k < p → srk n g (o k) ≤ srk n g i) → ∃ D2 o2, f_X6_sortBySlope_b74 F S (A 0) k2 D1 (nI i) (nI p) = k2 D2 (nI (i + 1)) ∧ cFrR A [8] D D2 ∧ sO n g (i + 1) o2 ∧ ∀ k, k < i + 1 → D2.2.2.1 (A 8) k = nI (o2 k) := by
    intro p D1 hp hf r1 r2 r3 r4
    refine ⟨_, sIn o p i, ?_, hf.trans (cFrR.cp (r := 8) (f := upd (D1.2.2.1 (A 8)) p (nI i)) (by simp)), sO_in hs hp r4 r3, fun k hk => ?_⟩
    · unfold f_X6_sortBySlope_b74
      rw [ly_k hL 0 (by decide) (by decide), ly_r hL 0 5 7 (by decide), ly_k hL 7 (by decide) (by decide), k_set (rw_bySlope hL) (by omega), cal_some, nI_1]
    · rw [cpA_s]
      unfold sIn
      by_cases z : k = p
      · rw [z, upI_s, if_neg (Nat.lt_irrefl _), if_pos rfl]
      · rw [upI_n z]
        by_cases y : k < p
        · rw [if_pos y]; exact r1 k y
        · rw [if_neg y, if_neg z]; exact r2 k (by omega) (by omega)
  induction p generalizing m D1 with
  | zero =>
    obtain ⟨m, rfl⟩ : ∃ q, m = q + 1 := ⟨m - 1, by omega⟩
    rw [f_X6_sortBySlope_L15, if_pos (by decide)]
    exact fin 0 D1 hp hf r1 r2 r3 (fun k hk => by omega)
  | succ p ih =>
    obtain ⟨m, rfl⟩ : ∃ q, m = q + 1 := ⟨m - 1, by omega⟩
    have h1 : nI (p + 1) - 1 = nI p := by
      rw [nI_zI, show (1 : Int32) = zI 1 from rfl, zI_sub, nI_zI]; congr 1; omega
    have h2 : nI (p + 1) + (-1) = nI p := by rw [nI_m1, nI_zI]; congr 1; omega
    have hl := cLin_R hl0 hf
    have hop := hs.1 p (by omega)
    have so := hl.2.2.2.2 (o p) (by omega)
    have si := hl.2.2.2.2 i hi
    have c2 := csgn_s 0 (cr (g (o p)) (g i))
    have sk := srk_iff ho (show o p < n by omega) hi
    rw [f_X6_sortBySlope_L15, if_neg (fun q => by have := (nI_leI (a := p + 1) (b := 0) (by omega) (by omega)).mp q; omega), ly_k hL 0 (by decide) (by decide), ly_r hL 0 5 7 (by decide), ly_k hL 7 (by decide) (by decide), h1, h2, k_get (rw_bySlope hL) (by omega), cal_some, r1 p (by omega), k_lineAt hL hl hn (by omega), cal_some, ly_r hL 0 0 1 (by decide), ly_k hL 1 (by decide) (by decide), k_lget hL hl hn hi, cal_some, ck_ok si.1, ck_ok so.1, k_slopes so si (ho _ (by omega)) (ho i hi), cal_some]
    by_cases z : csgn 0 (cr (g (o p)) (g i)) ≤ 0
    · rw [if_pos ((zI_le0 (csgn_32 _ _)).mpr z)]
      have hle : srk n g (o p) ≤ srk n g i := by
        have h3 : ¬ cr (g (o p)) (g i) < 0 := fun w => by have := c2.2.2.mpr w; omega
        have h4 : ¬ srk n g i < srk n g (o p) := fun w => h3 (sk.2.2.mpr w)
        omega
      exact fin (p + 1) D1 hp hf r1 r2 r3 (fun k hk => by
        rcases Nat.lt_or_ge k p with w | w
        · have := hs.2.2 k p w (by omega); omega
        · have : k = p := by omega
          subst this; exact hle)
    · rw [if_neg (fun q => z ((zI_le0 (csgn_32 _ _)).mp q)), ly_r hL 0 5 7 (by decide), ly_r hL 0 5 7 (by decide), ly_k hL 7 (by decide) (by decide), k_get (rw_bySlope hL) (by omega), cal_some, ly_k hL 7 (by decide) (by decide), k_set (rw_bySlope hL) (by omega), cal_some]
      have hlt : srk n g i < srk n g (o p) := sk.2.2.mp (c2.2.2.mp (by omega))
      refine ih m _ (by omega) (by omega) (hf.trans (cFrR.cp (r := 8) (by simp))) (fun k hk => ?_) (fun k hk hk2 => ?_) (fun k hk hk2 => ?_)
      · rw [cpA_s, upI_n (by omega)]; exact r1 k (by omega)
      · rw [cpA_s]
        by_cases y : k = p + 1
        · subst y; rw [upI_s]; exact r1 p (by omega)
        · rw [upI_n y]; exact r2 k (by omega) hk2
      · rcases Nat.lt_or_ge p k with y | y
        · exact r3 k y hk2
        · have : k = p := by omega
          subst this; omega
theorem k_so2 (hF : 1000 ≤ F) (hL : cLay S A) (hl0 : cLin S D A sg n g) (ho : ∀ i, i < n → sOk (g i)) (hn : n ≤ 12) :
    ∀ (d m i : Nat) (D1 : CD) (o : Nat → Nat), i + d = n → d < m → cFrR A [8] D D1 → sO n g i o → (∀ k, k < i → D1.2.2.1 (A 8) k = nI (o k)) → ∃ D2 o2, f_X6_sortBySlope_L2 F S (A 0) m D1 (nI i) = some D2 ∧ cFrR A [8] D D2 ∧ sO n g n o2 ∧ ∀ k, k < n → D2.2.2.1 (A 8) k = nI (o2 k) := by
  intro d
  induction d with
  | zero =>
    intro m i D1 o hj hm hf hs hr
    obtain ⟨m, rfl⟩ : ∃ q, m = q + 1 := ⟨m - 1, by omega⟩
    have e : i = n := by omega
    subst e
    rw [f_X6_sortBySlope_L2, ly_k hL 0 (by decide) (by decide), ly_r hL 0 0 1 (by decide), ly_k hL 1 (by decide) (by decide), k_size hL (cLin_R hl0 hf), cal_some, if_pos (Int32.le_refl _)]
    exact ⟨D1, o, rfl, hf, hs, hr⟩
  | succ d ih =>
    intro m i D1 o hj hm hf hs hr
    obtain ⟨m, rfl⟩ : ∃ q, m = q + 1 := ⟨m - 1, by omega⟩
    rw [f_X6_sortBySlope_L2, ly_k hL 0 (by decide) (by decide), ly_r hL 0 0 1 (by decide), ly_k hL 1 (by decide) (by decide), k_size hL (cLin_R hl0 hf), cal_some, if_neg (by rw [nI_leI (by omega) (by omega)]; omega)]
    obtain ⟨D2, o2, b1, b2, b3, b4⟩ := k_so15 (F := F) hL hl0 ho hn (i := i) (by omega) hs (f_X6_sortBySlope_L2 F S (A 0) m) i F D1 (Nat.le_refl _) (by omega) hf hr (fun k h1 h2 => by omega) (fun k h1 h2 => by omega)
    obtain ⟨D3, o3, c1, c2⟩ := ih m (i + 1) D2 o2 (by omega) (by omega) b2 b3 b4
    exact ⟨D3, o3, b1.trans c1, c2⟩
theorem k_sort (hF : 1000 ≤ F) (hL : cLay S A) (hl : cLin S D A sg n g) (ho : ∀ i, i < n → sOk (g i)) (hn : n ≤ 12) :
    ∃ D2 o, f_X6_sortBySlope F S D (A 0) = some D2 ∧ cFrR A [8] D D2 ∧ sO n g n o ∧ ∀ k, k < n → D2.2.2.1 (A 8) k = nI (o k) :=
  k_so2 (F := F) (D := D) hF hL hl ho hn n F 0 D (fun k => k) (by omega) (by omega) cFrR.rf ⟨fun k hk => by omega, fun a b h => by omega, fun a b h1 h2 => by omega⟩ (fun k hk => by omega)
end CSO
