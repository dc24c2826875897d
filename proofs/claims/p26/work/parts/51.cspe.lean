/-! ### the class lays all sides around the vertices -/
theorem inj_surj {n : Nat} {o : Nat → Nat} (h1 : ∀ k, k < n → o k < n) (h2 : ∀ a b, a < n → b < n → o a = o b → a = b) {l : Nat} (hl : l < n) : ∃ k, k < n ∧ o k = l := by
  apply Classical.byContradiction
  intro w
  have hne : ∀ k, k < n → o k ≠ l := fun k hk e => w ⟨k, hk, e⟩
  have h := pigeon (n - 1) n (fun _ => true) (fun k => if l < o k then o k - 1 else o k) (fun v hv _ => by
    have a := h1 v hv
    have b := hne v hv
    show (if l < o v then o v - 1 else o v) < n - 1
    split <;> omega) (fun v x hv hx _ _ e => by
    have a1 := h1 v hv
    have b1 := hne v hv
    have a2 := h1 x hx
    have b2 := hne x hx
    have e : (if l < o v then o v - 1 else o v) = (if l < o x then o x - 1 else o x) := e
    apply h2 v x hv hx
    split at e <;> split at e <;> omega)
  rw [cnt_true] at h
  omega
def pSo (q : ES) (o : Nat → Nat) (b : Nat) (P0 : Nat → Bool) : Nat → Nat → Bool
  | 0 => P0
  | k + 1 => pLn q (pSo q o b P0 k) (o k) b q.1
theorem pSo_iff {q : ES} {o : Nat → Nat} {b : Nat} {P0 : Nat → Bool} {s : Nat} : ∀ k, pSo q o b P0 k s = true ↔ P0 s = true ∨ (s % 2 = b ∧ s / 2 < q.1 ∧ ∃ j, j < k ∧ eS q (s / 2) = o j) := by
  intro k
  induction k with
  | zero => exact ⟨fun h => Or.inl h, fun h => h.elim id (fun ⟨_, _, j, hj, _⟩ => absurd hj (by omega))⟩
  | succ k ih =>
    rw [pSo]
    unfold pLn
    rw [Bool.or_eq_true, ih, Bool.and_eq_true, Bool.and_eq_true, decide_eq_true_iff, decide_eq_true_iff, decide_eq_true_iff]
    constructor
    · rintro ((h | ⟨h1, h2, j, h3, h4⟩) | ⟨⟨h1, h2⟩, h3⟩)
      · exact Or.inl h
      · exact Or.inr ⟨h1, h2, j, by omega, h4⟩
      · exact Or.inr ⟨h1, h2, k, by omega, h3⟩
    · rintro (h | ⟨h1, h2, j, h3, h4⟩)
      · exact Or.inl (Or.inl h)
      · rcases Nat.lt_or_ge j k with z | z
        · exact Or.inl (Or.inr ⟨h1, h2, j, z, h4⟩)
        · have e : j = k := by omega
          subst e
          exact Or.inr ⟨⟨h1, h2⟩, h4⟩
section CSE
variable {F : Nat} {S : CS} {D : CD} {A : Nat → Nat} {sg : Nat → Nat} {n nV : Nat} {g : Nat → Sg} {q : ES} {o : Nat → Nat}
/-- what stands while sides are laid -/
def sPre (S : CS) (D : CD) (A sg : Nat → Nat) (n nV : Nat) (g : Nat → Sg) (q : ES) (o : Nat → Nat) : Prop :=
  cLin S D A sg n g ∧ n ≤ 12 ∧ cE3 D A q ∧ q.1 ≤ 144 ∧ nV ≤ 90 ∧ (∀ s, s < 2 * q.1 → bg q s < nV) ∧ (∀ s t, s < 2 * q.1 → t < 2 * q.1 → bg q s = bg q t → key n g q s = key n g q t → s = t) ∧ (∀ e, e < q.1 → eS q e < n) ∧ sO n g n o ∧ ∀ k, k < n → D.2.2.1 (A 8) k = nI (o k)
theorem k_sline (hF : 1000 ≤ F) (hL : cLay S A) (P : sPre S D A sg n nV g q o) {P0 : Nat → Bool} {b : Nat} (hb : b < 2) (hp1 : ∀ s, s < 2 * q.1 → s % 2 = b → P0 s = false) (hp2 : ∀ s x, s < 2 * q.1 → x < 2 * q.1 → P0 s = true → x % 2 = b → key n g q s ≤ key n g q x) {k : Nat} (hk : k < n) {D1 : CD} (hf : cFrR A [16, 17, 18, 28] D D1) (hr : cRng n nV g q D1 A (pSo q o b P0 k)) :
    ∃ D2, f_X6_spreadLine F S D1 (A 0) (nI (o k)) (if b = 0 then 1 else 0) = some D2 ∧ cFrR A [16, 17, 18, 28] D D2 ∧ cRng n nV g q D2 A (pSo q o b P0 (k + 1)) := by
  obtain ⟨hl, hn, hE, hq, hnV, hbg, hki, hseg, ⟨o1, o2, o3⟩, -⟩ := P
  have ho := o1 k hk
  refine k_spl (F := F) (D := D) hL hE hq hnV hbg hki (P := pSo q o b P0 k) (l := o k) (b := b) (by omega) hb (fun s hs h1 h2 => ?_) (fun s x hs hx h1 h2 h3 => ?_) (fun e he => by have := hseg e he; omega) q.1 F 0 D1 (by omega) (by omega) hf (by rw [pLn_0]; exact hr)
  · cases hps : pSo q o b P0 k s
    · rfl
    · rcases (pSo_iff k).mp hps with w | ⟨w1, w2, j, w3, w4⟩
      · rw [hp1 s hs h1] at w; cases w
      · have := o2 j k (by omega) hk (by rw [← w4, h2])
        omega
  · rcases (pSo_iff k).mp h1 with w | ⟨w1, w2, j, w3, w4⟩
    · exact hp2 s x hs hx w h2
    · have := o3 j k w3 hk
      unfold key sgm
      rw [w1, w4, h2, h3]
      omega
theorem k_se41 (hF : 1000 ≤ F) (hL : cLay S A) (P : sPre S D A sg n nV g q o) {P0 : Nat → Bool} (hp1 : ∀ s, s < 2 * q.1 → s % 2 = 1 → P0 s = false) (hp2 : ∀ s x, s < 2 * q.1 → x < 2 * q.1 → P0 s = true → x % 2 = 1 → key n g q s ≤ key n g q x) :
    ∀ (d m k : Nat) (D1 : CD), k + d = n → d < m → cFrR A [16, 17, 18, 28] D D1 → cRng n nV g q D1 A (pSo q o 1 P0 k) → ∃ D2, f_X6_spreadEdges_L41 F S (A 0) m D1 (nI k) = some D2 ∧ cFrR A [16, 17, 18, 28] D D2 ∧ cRng n nV g q D2 A (pSo q o 1 P0 n) := by
  intro d
  induction d with
  | zero =>
    intro m k D1 hj hm hf hr
    obtain ⟨m, rfl⟩ : ∃ q, m = q + 1 := ⟨m - 1, by omega⟩
    have e : k = n := by omega
    subst e
    rw [f_X6_spreadEdges_L41, ly_k hL 0 (by decide) (by decide), ly_r hL 0 0 1 (by decide), ly_k hL 1 (by decide) (by decide), k_size hL (cLin_R P.1 hf), cal_some, if_pos (Int32.le_refl _)]
    exact ⟨D1, rfl, hf, hr⟩
  | succ d ih =>
    intro m k D1 hj hm hf hr
    obtain ⟨m, rfl⟩ : ∃ q, m = q + 1 := ⟨m - 1, by omega⟩
    have hn := P.2.1
    have h8 := P.2.2.2.2.2.2.2.2.2 k (by omega)
    obtain ⟨D2, b1, b2, b3⟩ := k_sline (F := F) hF hL P (b := 1) (by omega) hp1 hp2 (k := k) (by omega) hf hr
    rw [f_X6_spreadEdges_L41, ly_k hL 0 (by decide) (by decide), ly_r hL 0 0 1 (by decide), ly_k hL 1 (by decide) (by decide), k_size hL (cLin_R P.1 hf), cal_some, if_neg (by rw [nI_leI (by omega) (by omega)]; omega), ly_r hL 0 5 7 (by decide), ly_k hL 7 (by decide) (by decide), k_get (rw_bySlope hL) (by omega), cal_some, hf.row hL (j := 8) (by omega) (by decide), h8, show (0 : Int32) = (if (1 : Nat) = 0 then 1 else 0) from rfl, b1, cal_some, nI_1]
    exact ih m (k + 1) D2 (by omega) (by omega) b2 b3
theorem k_se9 (hF : 1000 ≤ F) (hL : cLay S A) (P : sPre S D A sg n nV g q o) :
    ∀ (d m k : Nat) (D1 : CD), k + d = n → d < m → cFrR A [16, 17, 18, 28] D D1 → cRng n nV g q D1 A (pSo q o 0 (fun _ => false) k) → ∃ D2, f_X6_spreadEdges_L9 F S (A 0) m D1 (nI k) = some D2 ∧ cFrR A [16, 17, 18, 28] D D2 ∧ cRng n nV g q D2 A (pSo q o 1 (pSo q o 0 (fun _ => false) n) n) := by
  intro d
  induction d with
  | zero =>
    intro m k D1 hj hm hf hr
    obtain ⟨m, rfl⟩ : ∃ q, m = q + 1 := ⟨m - 1, by omega⟩
    have e : k = n := by omega
    subst e
    have hn := P.2.1
    rw [f_X6_spreadEdges_L9, ly_k hL 0 (by decide) (by decide), ly_r hL 0 0 1 (by decide), ly_k hL 1 (by decide) (by decide), k_size hL (cLin_R P.1 hf), cal_some, if_pos (Int32.le_refl _)]
    refine k_se41 (F := F) hF hL P (fun s hs h1 => ?_) (fun s x hs hx h1 h2 => ?_) k F 0 D1 (by omega) (by omega) hf hr
    · cases hps : pSo q o 0 (fun _ => false) k s
      · rfl
      · rcases (pSo_iff k).mp hps with w | ⟨w1, _⟩
        · cases w
        · omega
    · rcases (pSo_iff k).mp h1 with w | ⟨w1, _⟩
      · cases w
      · unfold key
        have := srk_le k g (sgm q s)
        rw [w1, h2]
        omega
  | succ d ih =>
    intro m k D1 hj hm hf hr
    obtain ⟨m, rfl⟩ : ∃ q, m = q + 1 := ⟨m - 1, by omega⟩
    have hn := P.2.1
    have h8 := P.2.2.2.2.2.2.2.2.2 k (by omega)
    obtain ⟨D2, b1, b2, b3⟩ := k_sline (F := F) hF hL P (b := 0) (by omega) (P0 := fun _ => false) (fun _ _ _ => rfl) (fun s x _ _ h => by cases h) (k := k) (by omega) hf hr
    rw [f_X6_spreadEdges_L9, ly_k hL 0 (by decide) (by decide), ly_r hL 0 0 1 (by decide), ly_k hL 1 (by decide) (by decide), k_size hL (cLin_R P.1 hf), cal_some, if_neg (by rw [nI_leI (by omega) (by omega)]; omega), ly_r hL 0 5 7 (by decide), ly_k hL 7 (by decide) (by decide), k_get (rw_bySlope hL) (by omega), cal_some, hf.row hL (j := 8) (by omega) (by decide), h8, show (1 : Int32) = (if (0 : Nat) = 0 then 1 else 0) from rfl, b1, cal_some, show (if (0 : Nat) = 0 then (1 : Int32) else 0) = 1 from rfl, nI_1]
    exact ih m (k + 1) D2 (by omega) (by omega) b2 b3
end CSE
