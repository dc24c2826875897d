/-! Numbers: an int or long is written as the whole number that it stands for; sums and products need no bounds, looks at order do. -/
abbrev zI (z : Int) : Int32 := Int32.ofInt z
abbrev zL (z : Int) : Int64 := Int64.ofInt z
def i32 (a : Int) : Prop := -2147483648 ≤ a ∧ a < 2147483648
def i64 (a : Int) : Prop := -9223372036854775808 ≤ a ∧ a < 9223372036854775808
theorem zI_add (a b : Int) : zI a + zI b = zI (a + b) := (Int32.ofInt_add a b).symm
theorem zI_sub (a b : Int) : zI a - zI b = zI (a - b) := (Int32.ofInt_sub a b).symm
theorem zI_mul (a b : Int) : zI a * zI b = zI (a * b) := (Int32.ofInt_mul a b).symm
theorem zI_neg (a : Int) : -zI a = zI (-a) := (Int32.ofInt_neg a).symm
theorem zL_add (a b : Int) : zL a + zL b = zL (a + b) := (Int64.ofInt_add a b).symm
theorem zL_sub (a b : Int) : zL a - zL b = zL (a - b) := (Int64.ofInt_sub a b).symm
theorem zL_mul (a b : Int) : zL a * zL b = zL (a * b) := (Int64.ofInt_mul a b).symm
theorem zL_neg (a : Int) : -zL a = zL (-a) := (Int64.ofInt_neg a).symm
theorem zI_toInt {a : Int} (h : i32 a) : (zI a).toInt = a := Int32.toInt_ofInt_of_le (by have := h.1; omega) (by have := h.2; omega)
theorem zL_toInt {a : Int} (h : i64 a) : (zL a).toInt = a := Int64.toInt_ofInt_of_le (by have := h.1; omega) (by have := h.2; omega)
theorem zI_lt {a b : Int} (ha : i32 a) (hb : i32 b) : zI a < zI b ↔ a < b := by rw [Int32.lt_iff_toInt_lt, zI_toInt ha, zI_toInt hb]
theorem zI_le {a b : Int} (ha : i32 a) (hb : i32 b) : zI a ≤ zI b ↔ a ≤ b := by rw [Int32.le_iff_toInt_le, zI_toInt ha, zI_toInt hb]
theorem zI_eq {a b : Int} (ha : i32 a) (hb : i32 b) : zI a = zI b ↔ a = b := by rw [← Int32.toInt_inj, zI_toInt ha, zI_toInt hb]
theorem zL_lt {a b : Int} (ha : i64 a) (hb : i64 b) : zL a < zL b ↔ a < b := by rw [Int64.lt_iff_toInt_lt, zL_toInt ha, zL_toInt hb]
theorem zL_le {a b : Int} (ha : i64 a) (hb : i64 b) : zL a ≤ zL b ↔ a ≤ b := by rw [Int64.le_iff_toInt_le, zL_toInt ha, zL_toInt hb]
theorem zL_eq {a b : Int} (ha : i64 a) (hb : i64 b) : zL a = zL b ↔ a = b := by rw [← Int64.toInt_inj, zL_toInt ha, zL_toInt hb]
theorem zI_long {a : Int} (h : i32 a) : (zI a).toInt64 = zL a := by
  rw [← Int64.toInt_inj, Int32.toInt_toInt64, zI_toInt h, zL_toInt ⟨by have := h.1; omega, by have := h.2; omega⟩]
theorem zL_int (a : Int) : (zL a).toInt32 = zI a := Int64.toInt32_ofInt
theorem nI_zI (n : Nat) : nI n = zI n := Int32.ofInt_eq_ofNat.symm
theorem zI_0 : zI 0 = 0 := rfl
theorem zI_1 : zI 1 = 1 := rfl
theorem zL_0 : zL 0 = 0 := rfl
theorem zL_1 : zL 1 = 1 := rfl
def csgn (a b : Int) : Int := if b < a then 1 else if a = b then 0 else -1
theorem zL_cmp {a b : Int} (ha : i64 a) (hb : i64 b) : lg_cmp (zL a) (zL b) = zI (csgn a b) := by
  unfold lg_cmp csgn
  rcases Int.lt_trichotomy a b with h | h | h
  · rw [if_neg (by show ¬ zL b < zL a; rw [zL_lt hb ha]; omega), if_neg (by rw [zL_eq ha hb]; omega), if_neg (by omega), if_neg (by omega)]; rfl
  · subst h; rw [if_neg (by show ¬ zL a < zL a; rw [zL_lt ha ha]; omega), if_pos rfl, if_neg (by omega), if_pos rfl]; rfl
  · rw [if_pos (by show zL b < zL a; rw [zL_lt hb ha]; exact h), if_pos h]; rfl
theorem zL_div {a b : Int} (ha : -9000000000000000000 ≤ a ∧ a ≤ 9000000000000000000) (hb : i64 b) (h : b ≠ -1) : zL a / zL b = zL (a.tdiv b) := by
  have ha' : i64 a := ⟨by omega, by omega⟩
  rw [← Int64.toInt_inj, Int64.toInt_div_of_ne_right _ _ (by intro e; apply h; rw [← zL_toInt hb, e]; rfl), zL_toInt ha', zL_toInt hb]
  have h1 : (a.tdiv b).natAbs = a.natAbs / b.natAbs := Int.natAbs_tdiv a b
  have h2 := Nat.div_le_self a.natAbs b.natAbs
  generalize a.natAbs / b.natAbs = q at h1 h2
  exact (zL_toInt ⟨by omega, by omega⟩).symm
theorem zL_rem {a b : Int} (ha : -9000000000000000000 ≤ a ∧ a ≤ 9000000000000000000) (hb : i64 b) (h : b ≠ -1) : zL a - zL a / zL b * zL b = zL (a.tmod b) := by
  rw [zL_div ha hb h, zL_mul, zL_sub]
  congr 1
  have := Int.tmod_add_mul_tdiv a b
  rw [Int.mul_comm] at this
  omega
theorem nI_in' {k n : Nat} (h : k < n) (hn : n < 2147483648) : ¬ (nI k < 0 ∨ n ≤ (nI k).toNatClampNeg) := nI_in h hn
theorem rdI_at {α : Type} {n : Nat} {f : Nat → Int32} {k : Nat} {g : Int32 → Option α} (h : k < n) (hn : n < 2147483648) : rdI n f (nI k) g = g (f k) := by
  unfold rdI; rw [if_neg (nI_in h hn), nI_clamp (by omega)]
theorem rdL_at {α : Type} {n : Nat} {f : Nat → Int64} {k : Nat} {g : Int64 → Option α} (h : k < n) (hn : n < 2147483648) : rdL n f (nI k) g = g (f k) := by
  unfold rdL; rw [if_neg (nI_in h hn), nI_clamp (by omega)]
theorem rdA_at {α : Type} {n : Nat} {f : Nat → Option Nat} {k : Nat} {g : Nat → Option α} (h : k < n) (hn : n < 2147483648) : rdA n f (nI k) g = (f k).bind g := by
  unfold rdA; rw [if_neg (nI_in h hn), nI_clamp (by omega)]
theorem wrI_at {α : Type} {n : Nat} {M : MS} {j k : Nat} {v : Int32} {g : MS → Option α} (h : k < n) (hn : n < 2147483648) : wrI n M j (nI k) v g = g (mpA M j (upd (M.2.1 j) k v)) := by
  unfold wrI; rw [if_neg (nI_in h hn), nI_clamp (by omega)]
theorem wrL_at {α : Type} {n : Nat} {M : MS} {j k : Nat} {v : Int64} {g : MS → Option α} (h : k < n) (hn : n < 2147483648) : wrL n M j (nI k) v g = g (mpL M j (vp_updL (M.2.2 j) k v)) := by
  unfold wrL; rw [if_neg (nI_in h hn), nI_clamp (by omega)]
theorem ciW_at {α : Type} {S : CS} {D : CD} {a k : Nat} {v : Int32} {g : CD → Option α} (h : k < S.2.2.2 a) (hn : S.2.2.2 a < 2147483648) : ciW S D a (nI k) v g = g (cpA D a (upd (D.2.2.1 a) k v)) := by
  unfold ciW; rw [if_neg (nI_in h hn), nI_clamp (by omega)]
theorem crW_at {α : Type} {S : CS} {D : CD} {a k v : Nat} {g : CD → Option α} (h : k < S.2.2.2 a) (hn : S.2.2.2 a < 2147483648) : crW S D a (nI k) v g = g (cpR D a (va_up (D.2.2.2 a) k (some v))) := by
  unfold crW; rw [if_neg (nI_in h hn), nI_clamp (by omega)]
theorem cal_some {α β : Type} {t : β} {g : β → Option α} : cal (some t) g = g t := rfl
theorem caM_some {σ τ α : Type} {t : σ} {u : τ} {g : σ → τ → Option α} : caM (some (t, u)) g = g t u := rfl
theorem ckK_ok {α : Type} {S : CS} {a k : Nat} {g : Option α} (h1 : a ∈ S.1) (h2 : S.2.1 a = k) : ckK S a k g = g := by unfold ckK; rw [if_pos ⟨h1, h2⟩]
def bI (b : Bool) : Int32 := if b then 1 else 0
theorem okB_bI {α : Type} {b : Bool} {g : Option α} : okB (bI b) g = g := by cases b <;> rfl
theorem bI_0 {b : Bool} : bI b = 0 ↔ b = false := by cases b <;> decide
theorem okB_0 {α : Type} {g : Option α} : okB 0 g = g := rfl
theorem okB_1 {α : Type} {g : Option α} : okB 1 g = g := rfl
