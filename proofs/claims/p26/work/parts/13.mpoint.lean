/-! ### the reference puts a point among the vertices -/
theorem zL_cmp0 {a : Int} (ha : i64 a) : lg_cmp (zL a) 0 = zI (csgn a 0) := by
  have h := zL_cmp ha i64_0
  rw [zL_0] at h
  exact h
theorem zI_m1 : (-1 : Int32) = zI (-1) := by decide
theorem nI_m1 (j : Nat) : nI j + (-1) = zI ((j : Int) - 1) := by rw [nI_zI, zI_m1, zI_add]; rfl
theorem csgn_lt {a b : Int} (h : a < b) : csgn a b = -1 := by unfold csgn; rw [if_neg (by omega), if_neg (by omega)]
theorem csgn_eq {a b : Int} (h : a = b) : csgn a b = 0 := by unfold csgn; rw [if_neg (by omega), if_pos h]
theorem csgn_gt {a b : Int} (h : b < a) : csgn a b = 1 := by unfold csgn; rw [if_pos h]
section MPT
variable {F : Nat} {M : MS}
theorem e_compare {a b c d : Int} (h : -9000000000000000000 ≤ a * d - c * b ∧ a * d - c * b ≤ 9000000000000000000) : f_compare F M (zL a) (zL b) (zL c) (zL d) = some (zI (csgn (a * d) (c * b))) := by
  unfold f_compare
  have e : lg_cmp (zL (a * d - c * b)) 0 = zI (csgn (a * d - c * b) 0) := zL_cmp0 ⟨by omega, by omega⟩
  rw [zL_mul, zL_mul, zL_sub, e]
  rcases Int.lt_trichotomy (a * d) (c * b) with q | q | q
  · rw [csgn_lt q, csgn_lt (a := a * d - c * b) (b := 0) (by omega)]; rfl
  · rw [csgn_eq q, csgn_eq (a := a * d - c * b) (b := 0) (by omega)]; rfl
  · rw [csgn_gt q, csgn_gt (a := a * d - c * b) (b := 0) (by omega)]; rfl
theorem e_gcd (n a b : Nat) (hn : b < n) (ha : a ≤ 1000000000) (hb : b ≤ 1000000000) : f_shared_L17 F M n (zL a) (zL b) = some (zL (Nat.gcd a b)) := by
  induction n generalizing a b with
  | zero => omega
  | succ n ih =>
    rw [f_shared_L17]
    have e : lg_cmp (zL b) 0 = zI (csgn b 0) := zL_cmp0 ⟨by omega, by omega⟩
    rw [e]
    rcases Nat.eq_zero_or_pos b with q | q
    · subst q
      rw [csgn_eq (a := ((0 : Nat) : Int)) (b := 0) rfl, if_pos (by decide), Nat.gcd_zero_right]
    · rw [csgn_gt (a := (b : Int)) (b := 0) (by omega), if_neg (by decide)]
      unfold dvL
      rw [if_neg (fun z => by have := (zL_eq (a := b) ⟨by omega, by omega⟩ i64_0).mp z; omega), zL_rem ⟨by omega, by omega⟩ ⟨by omega, by omega⟩ (by omega)]
      have hm : ((a : Int).tmod (b : Int)) = ((a % b : Nat) : Int) := Int.ofNat_tmod a b
      rw [hm, ih b (a % b) (by have := Nat.mod_lt a q; omega) hb (by have := Nat.mod_lt a q; omega)]
      rw [Nat.gcd_comm b, ← Nat.gcd_rec, Nat.gcd_comm]
theorem e_shared {a : Int} {c : Nat} (hF : 1000001 ≤ F) (ha : -1000000000 ≤ a ∧ a ≤ 1000000000) (hc : c ≤ 1000000) : f_shared F M (zL a) (zL c) = some (zL (Nat.gcd a.natAbs c)) := by
  unfold f_shared
  have e : lg_cmp (zL a) 0 = zI (csgn a 0) := zL_cmp0 ⟨by omega, by omega⟩
  rw [e, zL_neg]
  have h := e_gcd (M := M) (F := F) F a.natAbs c (by omega) (by omega) (by omega)
  rcases Int.lt_trichotomy a 0 with q | q | q
  · rw [csgn_lt q, if_neg (by decide)]
    rw [show -a = ((a.natAbs : Nat) : Int) by omega]; exact h
  · subst q; rw [if_pos (by decide)]; exact h
  · rw [csgn_gt q, if_pos (by decide)]
    conv => lhs; rw [show a = ((a.natAbs : Nat) : Int) by omega]
    exact h
/-- the four numbers of the vertex i -/
def mV4 (M : MS) (i : Nat) (p : Pt) : Prop := M.2.2 6 i = zL p.1.num ∧ M.2.2 7 i = zL p.1.den ∧ M.2.2 8 i = zL p.2.num ∧ M.2.2 9 i = zL p.2.den
def mVer (M : MS) (n : Nat) (V : Nat → Pt) : Prop := M.1 5 = nI n ∧ ∀ i, i < n → mV4 M i (V i)
def bR (r : Rat) : Prop := (-4000000 ≤ r.num ∧ r.num ≤ 4000000) ∧ r.den ≤ 20000
def bV (p : Pt) : Prop := bR p.1 ∧ bR p.2
def mFrV (M M2 : MS) : Prop := M2.2.1 = M.2.1 ∧ ∀ j, j ≠ 5 → M2.1 j = M.1 j
def cmpV (p q : Pt) : Int := if cmpR p.1 q.1 = 0 then cmpR p.2 q.2 else cmpR p.1 q.1
theorem cmpV_32 (p q : Pt) : i32 (cmpV p q) := by unfold cmpV; split <;> exact cmpR_32 _ _
theorem cmpV_0 {p q : Pt} : cmpV p q = 0 ↔ p = q := by
  unfold cmpV
  split
  · next h => rw [cmpR_0] at h ⊢; exact ⟨fun g => Prod.ext h g, fun g => by rw [g]⟩
  · next h => exact ⟨fun g => absurd g h, fun g => absurd (cmpR_0.mpr (by rw [g])) h⟩
theorem cmpV_neg {p q : Pt} : cmpV p q < 0 ↔ ltV p q := by
  unfold cmpV
  split
  · next h =>
    rw [cmpR_0] at h; rw [cmpR_neg]
    exact ⟨fun g => Or.inr ⟨h, g⟩, fun g => g.elim (fun w => absurd (h ▸ w) Rat.lt_irrefl) (fun w => w.2)⟩
  · next h =>
    rw [cmpR_0] at h; rw [cmpR_neg]
    exact ⟨fun g => Or.inl g, fun g => g.elim id (fun w => absurd w.1 h)⟩
def exB (V : Nat → Pt) (p : Pt) : Nat → Bool
  | 0 => false
  | j + 1 => exB V p j || decide (V j = p)
def mpos (V : Nat → Pt) (p : Pt) : Nat → Nat → Nat
  | 0, a => a
  | j + 1, a => mpos V p j (if ltV p (V j) then j else a)
theorem cmp_bd {a : Int} {c : Nat} {r : Rat} (ha : -4000000 ≤ a ∧ a ≤ 4000000) (hc : c ≤ 20000) (hr : bR r) : -9000000000000000000 ≤ a * r.den - r.num * c ∧ a * r.den - r.num * c ≤ 9000000000000000000 := by
  obtain ⟨⟨h1, h2⟩, h3⟩ := hr
  have g1 := mul_bd (a := a) (A := 4000000) (b := r.den) (B := 20000) ha ⟨by omega, by omega⟩
  have g2 := mul_bd (a := r.num) (A := 4000000) (b := c) (B := 20000) ⟨by omega, by omega⟩ ⟨by omega, by omega⟩
  omega
end MPT
