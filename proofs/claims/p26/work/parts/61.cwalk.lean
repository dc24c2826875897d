/-! ### the class's walk along a border, and the rounds -/
section CWK
variable {n nV N : Nat} {g : Nat → Sg} {q : ES} {rd : Nat → Nat} {c : Nat} {lo ou : Nat → Nat} {f : Nat → Nat}
/-- sides and their rounds -/
def rdOk (n : Nat) (g : Nat → Sg) (q : ES) (rd : Nat → Nat) (c : Nat) (lo ou : Nat → Nat) : Prop :=
  (∀ s, s < 2 * q.1 → rd s < c) ∧ (∀ s, s < 2 * q.1 → rd (nxt n g q s) = rd s) ∧ (∀ s t, s < 2 * q.1 → t < 2 * q.1 → rd s = rd t → orb (nxt n g q) (2 * q.1) s t) ∧ ∀ u, u < c → ou u < 2 * q.1 ∧ rd (ou u) = u ∧ bg q (ou u) = lo u ∧ ∀ s, s < 2 * q.1 → rd s = u → lo u ≤ bg q s ∧ (bg q s = lo u → key n g q (ou u) ≤ key n g q s)
theorem rdOk_of {r : Nat → Option Nat} (h : RInv n g q r c lo ou) (hr : ∀ s, s < 2 * q.1 → r s ≠ none) : rdOk n g q (fun s => (r s).getD 0) c lo ou := by
  obtain ⟨h1, h2, h3, h4⟩ := h
  have e : ∀ s, s < 2 * q.1 → r s = some ((r s).getD 0) := by
    intro s hs
    cases hrs : r s with
    | none => exact absurd hrs (hr s hs)
    | some u => rfl
  refine ⟨fun s hs => h2 s _ hs (e s hs), fun s hs => ?_, fun s t hs ht hst => h3 s t _ hs ht (e s hs) (by rw [e t ht]; exact congrArg some hst.symm), fun u hu => ?_⟩
  · show (r (nxt n g q s)).getD 0 = (r s).getD 0
    rw [h1 s hs]
  · obtain ⟨a1, a2, a3, a4⟩ := h4 u hu
    refine ⟨a1, ?_, a3, fun s hs hsu => a4 s hs ?_⟩
    · show (r (ou u)).getD 0 = u
      rw [a2]; rfl
    · rw [e s hs]; exact congrArg some hsu
/-- f walks back along the rounds -/
def fBack (n : Nat) (g : Nat → Sg) (q : ES) (f : Nat → Nat) : Prop := ∀ s, s < 2 * q.1 → f s < 2 * q.1 ∧ nxt n g q (f s) = s
theorem fBack_inj (h : fBack n g q f) : ∀ x y, x < 2 * q.1 → y < 2 * q.1 → f x = f y → x = y := by
  intro x y hx hy e
  rw [← (h x hx).2, ← (h y hy).2, e]
theorem fBack_rd (h : fBack n g q f) (hr : rdOk n g q rd c lo ou) {s : Nat} (hs : s < 2 * q.1) : rd (f s) = rd s := by
  have := hr.2.1 (f s) (h s hs).1
  rw [(h s hs).2] at this; exact this.symm
theorem fBack_nxt (hk : ∀ s t, s < 2 * q.1 → t < 2 * q.1 → bg q s = bg q t → key n g q s = key n g q t → s = t) (h : fBack n g q f) {s : Nat} (hs : s < 2 * q.1) : f (nxt n g q s) = s := by
  have h1 := h _ (nxt_lt (n := n) (g := g) hs)
  exact nxt_inj hk _ _ h1.1 hs h1.2
/-- all of a round is on the walk back -/
theorem fBack_vis (hk : ∀ s t, s < 2 * q.1 → t < 2 * q.1 → bg q s = bg q t → key n g q s = key n g q t → s = t) (h : fBack n g q f) (hr : rdOk n g q rd c lo ou) {a : Nat} (ha : a < 2 * q.1) :
    ∃ L, 0 < L ∧ L ≤ 2 * q.1 ∧ itf f L a = a ∧ (∀ i j, i < j → j < L → itf f i a ≠ itf f j a) ∧ (∀ i, i < L → rd (itf f i a) = rd a) ∧ ∀ x, x < 2 * q.1 → (vis f a L x = true ↔ rd x = rd a) := by
  have hm : ∀ x, x < 2 * q.1 → f x < 2 * q.1 := fun x hx => (h x hx).1
  obtain ⟨L, l1, l2, l3, l4⟩ := period hm (fBack_inj h) ha
  have hrd : ∀ i, rd (itf f i a) = rd a := by
    intro i
    induction i with
    | zero => rfl
    | succ i ih => rw [itf, fBack_rd h hr (itf_lt hm ha i), ih]
  refine ⟨L, l1, l2, l3, l4, fun i _ => hrd i, fun x hx => ?_⟩
  rw [vis_iff]
  constructor
  · rintro ⟨j, _, j2⟩
    rw [← j2]; exact hrd j
  · intro e
    refine (orb_iff hm (fBack_inj h) ha l1 l3 hx).mp ?_
    have ho := hr.2.2.1 a x ha hx e.symm
    exact fun R r1 r2 r3 r4 => ho R r1 r2 r3 (fun z hz => by
      have h1 := r4 _ (nxt_lt (n := n) (g := g) hz)
      rw [fBack_nxt hk h hz] at h1
      exact r2 _ _ h1)
end CWK
section CWK2
variable {n nV : Nat} {g : Nat → Sg} {q : ES} {D : CD} {A : Nat → Nat} {Q : Nat → Bool}
/-- the walk back, read off the rows -/
def prv (D : CD) (A : Nat → Nat) (s : Nat) : Nat := tw ((D.2.2.1 (A 28) s).toNatClampNeg)
theorem prv_ok (hR : cRng n nV g q D A Q) (hQ : ∀ s, s < 2 * q.1 → Q s = true) (hq : q.1 ≤ 144) (hk : ∀ s t, s < 2 * q.1 → t < 2 * q.1 → bg q s = bg q t → key n g q s = key n g q t → s = t) : fBack n g q (prv D A) ∧ cPrv D A (2 * q.1) (prv D A) := by
  obtain ⟨-, -, r3⟩ := hR
  have key' : ∀ s, s < 2 * q.1 → ∃ t, t < 2 * q.1 ∧ D.2.2.1 (A 28) s = nI t ∧ prv D A s = tw t ∧ nxt n g q (tw t) = s := by
    intro s hs
    obtain ⟨t, t1, t2, t3, t4, t5⟩ := r3 s hs (hQ s hs)
    refine ⟨t, t1, t4, ?_, ?_⟩
    · unfold prv
      rw [t4, nI_clamp (by omega)]
    · unfold nxt
      rw [tw_tw]
      exact isNx_below hQ hk hs t1 t3 t5
  refine ⟨fun s hs => ?_, fun s hs => ?_⟩
  · obtain ⟨t, t1, t2, t3, t4⟩ := key' s hs
    rw [t3]
    exact ⟨tw_lt t1, t4⟩
  · obtain ⟨t, t1, t2, t3, t4⟩ := key' s hs
    exact ⟨t, t1, t2, t3⟩
end CWK2
