/-! ### Walks of a one-to-one map: they close at their start -/
def itf (f : Nat → Nat) : Nat → Nat → Nat
  | 0, a => a
  | i + 1, a => f (itf f i a)
def orb (f : Nat → Nat) (N x y : Nat) : Prop := ∀ R : Nat → Nat → Prop, (∀ a, R a a) → (∀ a b, R a b → R b a) → (∀ a b c, R a b → R b c → R a c) → (∀ z, z < N → R z (f z)) → R x y
theorem orb_r (f : Nat → Nat) (N x : Nat) : orb f N x x := fun R h _ _ _ => h x
theorem orb_s {f : Nat → Nat} {N x y : Nat} (h : orb f N x y) : orb f N y x := fun R a b c d => b _ _ (h R a b c d)
theorem orb_t {f : Nat → Nat} {N x y z : Nat} (h : orb f N x y) (h2 : orb f N y z) : orb f N x z := fun R a b c d => c _ _ _ (h R a b c d) (h2 R a b c d)
theorem orb_f {f : Nat → Nat} {N x : Nat} (h : x < N) : orb f N x (f x) := fun R _ _ _ d => d x h
theorem itf_add (f : Nat → Nat) (i j a : Nat) : itf f (i + j) a = itf f i (itf f j a) := by
  induction i with
  | zero => rw [Nat.zero_add]; rfl
  | succ i ih => rw [Nat.succ_add, itf, itf, ih]
section WALK
variable {f : Nat → Nat} {N : Nat}
theorem itf_lt (hm : ∀ x, x < N → f x < N) {a : Nat} (ha : a < N) (i : Nat) : itf f i a < N := by
  induction i with
  | zero => exact ha
  | succ i ih => exact hm _ ih
theorem itf_inj (hm : ∀ x, x < N → f x < N) (hi : ∀ x y, x < N → y < N → f x = f y → x = y) {a b : Nat} (ha : a < N) (hb : b < N) : ∀ i, itf f i a = itf f i b → a = b := by
  intro i
  induction i with
  | zero => exact id
  | succ i ih => intro h; exact ih (hi _ _ (itf_lt hm ha i) (itf_lt hm hb i) h)
theorem cnt_true (n : Nat) : cnt (fun _ => true) n = n := by
  induction n with
  | zero => rfl
  | succ n ih => rw [cnt, ih]; rfl
/-- the walk from a closes: its length, all its places apart -/
theorem period (hm : ∀ x, x < N → f x < N) (hi : ∀ x y, x < N → y < N → f x = f y → x = y) {a : Nat} (ha : a < N) : ∃ L, 0 < L ∧ L ≤ N ∧ itf f L a = a ∧ ∀ i j, i < j → j < L → itf f i a ≠ itf f j a := by
  have hex : ∃ L, 0 < L ∧ L ≤ N ∧ itf f L a = a := by
    by_cases h : ∃ i j, i < j ∧ j < N + 1 ∧ itf f i a = itf f j a
    · obtain ⟨i, j, h1, h2, h3⟩ := h
      refine ⟨j - i, by omega, by omega, ?_⟩
      have e : j = i + (j - i) := by omega
      rw [e, itf_add] at h3
      exact (itf_inj hm hi ha (itf_lt hm ha _) i h3).symm
    · exfalso
      have := pigeon N (N + 1) (fun _ => true) (fun i => itf f i a) (fun v _ _ => itf_lt hm ha v) (fun v w hv hw _ _ he => by
        rcases Nat.lt_trichotomy v w with z | z | z
        · exact absurd ⟨v, w, z, hw, he⟩ h
        · exact z
        · exact absurd ⟨w, v, z, hv, he.symm⟩ h)
      rw [cnt_true] at this
      omega
  obtain ⟨L, ⟨h1, h2, h3⟩, h4⟩ := pk_least (fun L => 0 < L ∧ L ≤ N ∧ itf f L a = a) hex
  refine ⟨L, h1, h2, h3, fun i j hij hj he => ?_⟩
  have e : j = i + (j - i) := by omega
  rw [e, itf_add] at he
  exact h4 (j - i) (by omega) ⟨by omega, by omega, (itf_inj hm hi ha (itf_lt hm ha _) i he).symm⟩
/-- the places of the walk are all that belongs together with a -/
theorem orb_iff (hm : ∀ x, x < N → f x < N) (hi : ∀ x y, x < N → y < N → f x = f y → x = y) {a L : Nat} (ha : a < N) (h0 : 0 < L) (hL : itf f L a = a) {x : Nat} (hx : x < N) : orb f N a x ↔ ∃ i, i < L ∧ itf f i a = x := by
  constructor
  · intro h
    have step : ∀ z, z < N → ((∃ i, i < L ∧ itf f i a = z) ↔ (∃ i, i < L ∧ itf f i a = f z)) := by
      intro z hz
      constructor
      · rintro ⟨i, h1, h2⟩
        by_cases w : i + 1 < L
        · exact ⟨i + 1, w, by rw [itf, h2]⟩
        · refine ⟨0, h0, ?_⟩
          have e : i + 1 = L := by omega
          rw [← h2]
          show a = itf f (i + 1) a
          rw [e, hL]
      · rintro ⟨i, h1, h2⟩
        cases i with
        | zero =>
          refine ⟨L - 1, by omega, ?_⟩
          refine hi _ _ (itf_lt hm ha _) hz ?_
          rw [← h2]
          show itf f (L - 1 + 1) a = a
          rw [show L - 1 + 1 = L by omega, hL]
        | succ i => exact ⟨i, by omega, hi _ _ (itf_lt hm ha _) hz h2⟩
    have := h (fun x y => (∃ i, i < L ∧ itf f i a = x) ↔ (∃ i, i < L ∧ itf f i a = y)) (fun _ => Iff.rfl) (fun _ _ h => h.symm) (fun _ _ _ h1 h2 => h1.trans h2) step
    exact this.mp ⟨0, h0, rfl⟩
  · rintro ⟨i, -, h2⟩
    rw [← h2]
    clear h2
    induction i with
    | zero => exact orb_r f N a
    | succ i ih => exact orb_t ih (orb_f (itf_lt hm ha i))
end WALK
section NXT
variable {n : Nat} {g : Nat → Sg} {q : ES}
theorem below_bg (t : Nat) : bg q (below n g q t) = bg q t := (scn_max n g q t _).1
theorem below_lt {t : Nat} (ht : t < 2 * q.1) : below n g q t < 2 * q.1 := by
  obtain ⟨-, h, -, -⟩ := scn_max n g q t (2 * q.1)
  show scn n g q t (2 * q.1) < 2 * q.1
  omega
theorem below_inj (hk : ∀ s t, s < 2 * q.1 → t < 2 * q.1 → bg q s = bg q t → key n g q s = key n g q t → s = t) {t t' : Nat} (ht : t < 2 * q.1) (ht' : t' < 2 * q.1) (h : below n g q t = below n g q t') : t = t' := by
  have hb : bg q t = bg q t' := by rw [← below_bg (n := n) (g := g) t, ← below_bg (n := n) (g := g) t', h]
  obtain ⟨a1, a2, a3, a4⟩ := scn_max n g q t (2 * q.1)
  obtain ⟨b1, b2, b3, b4⟩ := scn_max n g q t' (2 * q.1)
  have c1 := a4 t' ht' hb.symm
  have c2 := b4 t ht hb
  have h' : scn n g q t (2 * q.1) = scn n g q t' (2 * q.1) := h
  rw [← h'] at b3 c2
  refine hk t t' ht ht' hb ?_
  have k1 : ∀ s, key n g q s < 2 * (n + 1) := by
    intro s
    unfold key
    have := srk_le n g (sgm q s)
    rcases (show s % 2 = 0 ∨ s % 2 = 1 by omega) with z | z <;> rw [z] <;> omega
  have d1 := k1 t
  have d2 := k1 t'
  have d3 := k1 (scn n g q t (2 * q.1))
  unfold ckey at *
  generalize key n g q (scn n g q t (2 * q.1)) = x at *
  generalize key n g q t = y at *
  generalize key n g q t' = z at *
  rcases Nat.lt_trichotomy y z with w | w | w
  · exfalso
    (repeat' split at *) <;> omega
  · exact w
  · exfalso
    (repeat' split at *) <;> omega
theorem nxt_lt {t : Nat} (ht : t < 2 * q.1) : nxt n g q t < 2 * q.1 := below_lt (tw_lt ht)
theorem nxt_inj (hk : ∀ s t, s < 2 * q.1 → t < 2 * q.1 → bg q s = bg q t → key n g q s = key n g q t → s = t) (x y : Nat) (hx : x < 2 * q.1) (hy : y < 2 * q.1) (h : nxt n g q x = nxt n g q y) : x = y := by
  have := below_inj hk (tw_lt hx) (tw_lt hy) h
  rw [← tw_tw x, this, tw_tw]
theorem nxt_bg (t : Nat) : bg q (nxt n g q t) = bg q (tw t) := below_bg _
end NXT
