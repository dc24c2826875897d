/-! ### Points in exact fractions; the vertices in order; how the reference puts one among them -/
abbrev Pt : Type := Rat × Rat
abbrev ltV (p q : Pt) : Prop := p.1 < q.1 ∨ (p.1 = q.1 ∧ p.2 < q.2)
def vpos (V : Nat → Pt) (p : Pt) : Nat → Nat
  | 0 => 0
  | n + 1 => if ltV (V n) p then n + 1 else vpos V p n
def vput (V : Nat → Pt) (a : Nat) (p : Pt) : Nat → Pt := fun i => if i < a then V i else if i = a then p else V (i - 1)
def vins (q : Nat × (Nat → Pt)) (p : Pt) : Nat × (Nat → Pt) := if vpos q.2 p q.1 < q.1 ∧ q.2 (vpos q.2 p q.1) = p then q else (q.1 + 1, vput q.2 (vpos q.2 p q.1) p)
def vsort (n : Nat) (V : Nat → Pt) : Prop := ∀ i j, i < j → j < n → ltV (V i) (V j)
theorem rlt_trans {a b c : Rat} (h1 : a < b) (h2 : b < c) : a < c := by grind
theorem ltV_irr (p : Pt) : ¬ ltV p p := by
  intro h; rcases h with h | ⟨-, h⟩ <;> exact Rat.lt_irrefl h
theorem ltV_trans {p q r : Pt} (h1 : ltV p q) (h2 : ltV q r) : ltV p r := by
  rcases h1 with h1 | ⟨e1, h1⟩ <;> rcases h2 with h2 | ⟨e2, h2⟩
  · exact Or.inl (rlt_trans h1 h2)
  · exact Or.inl (e2 ▸ h1)
  · exact Or.inl (e1 ▸ h2)
  · exact Or.inr ⟨e1.trans e2, rlt_trans h1 h2⟩
theorem rat_tri (a b : Rat) : a < b ∨ a = b ∨ b < a := by
  rcases Rat.le_total (a := a) (b := b) with h | h
  · rcases Rat.le_iff_lt_or_eq.mp h with h | h
    · exact Or.inl h
    · exact Or.inr (Or.inl h)
  · rcases Rat.le_iff_lt_or_eq.mp h with h | h
    · exact Or.inr (Or.inr h)
    · exact Or.inr (Or.inl h.symm)
theorem ltV_tri (p q : Pt) : ltV p q ∨ p = q ∨ ltV q p := by
  rcases rat_tri p.1 q.1 with h | h | h
  · exact Or.inl (Or.inl h)
  · rcases rat_tri p.2 q.2 with g | g | g
    · exact Or.inl (Or.inr ⟨h, g⟩)
    · exact Or.inr (Or.inl (Prod.ext h g))
    · exact Or.inr (Or.inr (Or.inr ⟨h.symm, g⟩))
  · exact Or.inr (Or.inr (Or.inl h))
theorem ltV_asymm {p q : Pt} (h : ltV p q) : ¬ ltV q p := fun g => ltV_irr p (ltV_trans h g)
theorem vpos_le (V : Nat → Pt) (p : Pt) (n : Nat) : vpos V p n ≤ n := by
  induction n with
  | zero => exact Nat.le_refl 0
  | succ n ih => unfold vpos; split <;> omega
theorem vpos_ge {V : Nat → Pt} {p : Pt} {n i : Nat} (h1 : vpos V p n ≤ i) (h2 : i < n) : ¬ ltV (V i) p := by
  induction n with
  | zero => omega
  | succ n ih =>
    unfold vpos at h1
    split at h1
    · omega
    · next hn =>
      rcases Nat.lt_or_ge i n with q | q
      · exact ih h1 q
      · have : i = n := by omega
        subst this; exact hn
theorem vpos_lt {V : Nat → Pt} {p : Pt} {n i : Nat} (hs : vsort n V) (h1 : i < vpos V p n) : ltV (V i) p := by
  induction n with
  | zero => unfold vpos at h1; omega
  | succ n ih =>
    unfold vpos at h1
    split at h1
    · next hn =>
      rcases Nat.lt_or_ge i n with q | q
      · exact ltV_trans (hs i n q (by omega)) hn
      · have : i = n := by omega
        subst this; exact hn
    · exact ih (fun a b c d => hs a b c (by omega)) h1
theorem vins_sort {n : Nat} {V : Nat → Pt} (p : Pt) (hs : vsort n V) : vsort (vins (n, V) p).1 (vins (n, V) p).2 := by
  unfold vins
  split
  · exact hs
  · next hn =>
    intro i j hij hj
    have h0 := vpos_le V p n
    have hgt : ∀ k, vpos V p n ≤ k → k < n → ltV p (V k) := by
      intro k h1 h2
      rcases ltV_tri (V k) p with q | q | q
      · exact absurd q (vpos_ge h1 h2)
      · exfalso
        apply hn
        rcases Nat.lt_or_ge (vpos V p n) k with w | w
        · have h3 := hs _ _ w h2
          rw [q] at h3
          exact absurd h3 (vpos_ge (Nat.le_refl _) (by omega))
        · have : k = vpos V p n := by omega
          exact ⟨by show vpos V p n < n; omega, by show V (vpos V p n) = p; rw [← this]; exact q⟩
      · exact q
    show ltV (vput V (vpos V p n) p i) (vput V (vpos V p n) p j)
    have hj' : j < n + 1 := hj
    unfold vput
    rcases Nat.lt_trichotomy i (vpos V p n) with a | a | a
    · rw [if_pos a]
      rcases Nat.lt_trichotomy j (vpos V p n) with b | b | b
      · rw [if_pos b]; exact hs i j hij (by omega)
      · rw [if_neg (by omega), if_pos b]; exact vpos_lt hs a
      · rw [if_neg (by omega), if_neg (by omega)]; exact hs i (j - 1) (by omega) (by omega)
    · rw [if_neg (by omega), if_pos a, if_neg (by omega), if_neg (by omega)]
      exact hgt (j - 1) (by omega) (by omega)
    · rw [if_neg (by omega), if_neg (by omega), if_neg (by omega), if_neg (by omega)]
      exact hs (i - 1) (j - 1) (by omega) (by omega)
theorem vins_mem {n : Nat} {V : Nat → Pt} (p r : Pt) : (∃ i, i < (vins (n, V) p).1 ∧ (vins (n, V) p).2 i = r) ↔ (∃ i, i < n ∧ V i = r) ∨ r = p := by
  unfold vins
  have h0 := vpos_le V p n
  split
  · next hn =>
    constructor
    · intro h; exact Or.inl h
    · rintro (h | h)
      · exact h
      · exact ⟨_, hn.1, hn.2.trans h.symm⟩
  · constructor
    · rintro ⟨i, hi, h⟩
      have hi' : i < n + 1 := hi
      have h : vput V (vpos V p n) p i = r := h
      unfold vput at h
      split at h
      · exact Or.inl ⟨i, by omega, h⟩
      · split at h
        · exact Or.inr h.symm
        · exact Or.inl ⟨i - 1, by omega, h⟩
    · rintro (⟨i, hi, h⟩ | h)
      · rcases Nat.lt_or_ge i (vpos V p n) with q | q
        · exact ⟨i, by show i < n + 1; omega, by show vput V (vpos V p n) p i = r; unfold vput; rw [if_pos q]; exact h⟩
        · exact ⟨i + 1, by show i + 1 < n + 1; omega, by show vput V (vpos V p n) p (i + 1) = r; unfold vput; rw [if_neg (by omega), if_neg (by omega)]; exact h⟩
      · exact ⟨vpos V p n, by show vpos V p n < n + 1; omega, by show vput V (vpos V p n) p (vpos V p n) = r; unfold vput; rw [if_neg (by omega), if_pos rfl]; exact h.symm⟩
theorem vins_le {n : Nat} {V : Nat → Pt} (p : Pt) : (vins (n, V) p).1 ≤ n + 1 := by
  unfold vins; split
  · show n ≤ n + 1; omega
  · exact Nat.le_refl _
/-! comparing fractions -/
def cmpR (r s : Rat) : Int := if s < r then 1 else if r = s then 0 else -1
theorem rat_eq_iff (r s : Rat) : r = s ↔ r.num * s.den = s.num * r.den := by
  constructor
  · intro h; rw [h]
  · intro h
    rcases rat_tri r s with q | q | q
    · rw [Rat.lt_iff] at q; omega
    · exact q
    · rw [Rat.lt_iff] at q; omega
theorem csgn_R (r s : Rat) : csgn (r.num * s.den) (s.num * r.den) = cmpR r s := by
  unfold csgn cmpR
  simp only [Rat.lt_iff, rat_eq_iff]
theorem mkRat_sc (a : Int) {c : Nat} (hc : c ≠ 0) : ∃ g : Nat, 0 < g ∧ a = (mkRat a c).num * g ∧ (c : Int) = (mkRat a c).den * g ∧ g = Nat.gcd a.natAbs c := by
  refine ⟨Nat.gcd a.natAbs c, Nat.gcd_pos_of_pos_right _ (Nat.pos_of_ne_zero hc), ?_, ?_, rfl⟩
  · rw [Rat.num_mkRat, if_neg hc, Nat.gcd_comm c]
    exact (Int.ediv_mul_cancel (Int.ofNat_dvd_left.mpr (Nat.gcd_dvd_left _ _))).symm
  · rw [Rat.den_mkRat, if_neg hc, Nat.gcd_comm c, ← Int.natCast_mul, Nat.div_mul_cancel (Nat.gcd_dvd_right _ _)]
theorem csgn_mul {a b g : Int} (hg : 0 < g) : csgn (a * g) (b * g) = csgn a b := by
  unfold csgn
  have h1 : b * g < a * g ↔ b < a := Int.mul_lt_mul_right hg
  have h2 : a * g = b * g ↔ a = b := Int.mul_eq_mul_right_iff (by omega)
  simp only [h1, h2]
theorem csgn_mk (a : Int) {c : Nat} (hc : c ≠ 0) (s : Rat) : csgn (a * s.den) (s.num * c) = cmpR (mkRat a c) s := by
  obtain ⟨g, hg, h1, h2, -⟩ := mkRat_sc a hc
  have e := csgn_mul (a := (mkRat a c).num * s.den) (b := s.num * (mkRat a c).den) (g := g) (by omega)
  rw [← csgn_R, ← e]
  congr 1
  · rw [Int.mul_right_comm, ← h1]
  · rw [Int.mul_assoc, ← h2]
theorem cmpR_0 {r s : Rat} : cmpR r s = 0 ↔ r = s := by
  unfold cmpR
  constructor
  · intro h; split at h
    · cases h
    · split at h
      · assumption
      · cases h
  · intro h; subst h; rw [if_neg Rat.lt_irrefl, if_pos rfl]
theorem cmpR_neg {r s : Rat} : cmpR r s < 0 ↔ r < s := by
  unfold cmpR
  constructor
  · intro h; split at h
    · omega
    · split at h
      · omega
      · rcases rat_tri r s with q | q | q
        · exact q
        · contradiction
        · contradiction
  · intro h; rw [if_neg (fun q => Rat.lt_irrefl (rlt_trans h q)), if_neg (fun q => Rat.lt_irrefl (q ▸ h))]; decide
theorem cmpR_pos {r s : Rat} : 0 < cmpR r s ↔ s < r := by
  unfold cmpR
  constructor
  · intro h; split at h
    · assumption
    · split at h <;> omega
  · intro h; rw [if_pos h]; decide
theorem cmpR_32 (r s : Rat) : i32 (cmpR r s) := by
  unfold cmpR i32; split
  · omega
  · split <;> omega
