/-! ### the class's side behind a side is the inverse of the reference's side before it -/
theorem isNx_below {n : Nat} {g : Nat → Sg} {q : ES} {P : Nat → Bool} (hP : ∀ s, s < 2 * q.1 → P s = true) (hk : ∀ s t, s < 2 * q.1 → t < 2 * q.1 → bg q s = bg q t → key n g q s = key n g q t → s = t) {s t : Nat} (hs : s < 2 * q.1) (ht : t < 2 * q.1) (hb : bg q t = bg q s) (h : isNx n g q P s t) : below n g q t = s := by
  obtain ⟨a1, a2, a3, a4⟩ := scn_max n g q t (2 * q.1)
  have hr := below_lt (n := n) (g := g) ht
  have c1 := a4 s hs hb.symm
  have hrb : bg q (below n g q t) = bg q s := a1.trans hb
  have k1 : ∀ s, key n g q s < 2 * (n + 1) := by
    intro s
    unfold key
    have := srk_le n g (sgm q s)
    rcases (show s % 2 = 0 ∨ s % 2 = 1 by omega) with z | z <;> rw [z] <;> omega
  have d1 := k1 t
  have d2 := k1 s
  have d3 := k1 (below n g q t)
  refine hk _ s hr hs hrb ?_
  have c1 : ckey n g q t s ≤ ckey n g q t (below n g q t) := c1
  rcases h with ⟨h1, h2⟩ | h
  · have h3 := h2 _ hr (hP _ hr) hrb
    unfold ckey at c1
    (repeat' split at c1) <;> omega
  · have h3 := h _ hr (hP _ hr) hrb
    have h4 := h t ht (hP _ ht) hb
    unfold ckey at c1
    (repeat' split at c1) <;> omega
