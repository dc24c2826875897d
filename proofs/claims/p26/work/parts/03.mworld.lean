/-! The reference as a pure function alone: its numbers and rows; looks at places, and how a look that answers is taken apart. -/
abbrev MS : Type := (Nat → Int32) × (Nat → Nat → Int32) × (Nat → Nat → Int64)
def mpF (M : MS) (k : Nat) (v : Int32) : MS := (va_up M.1 k v, M.2.1, M.2.2)
def mpA (M : MS) (k : Nat) (f : Nat → Int32) : MS := (M.1, va_up M.2.1 k f, M.2.2)
def mpL (M : MS) (k : Nat) (f : Nat → Int64) : MS := (M.1, M.2.1, va_up M.2.2 k f)
section MROWS
variable {p : Program} {l : Launch} {e : Env} {R : Room} {s : State} {m : MethodId} {args : Array Value} {below : List Frame} {meth : Method} {c : Code} {H : Heap} {locs : List Loc} {Q : State → Prop}
theorem m_entry {vs : List Value} {n : Nat} (h : (lg_sl vs).length ≤ n) (k : ∀ ls : Array Slot, lv_has ls n (lv_args 0 vs) → W p l e R s m args below meth c H locs 0 0 Q (F0 m 0 ls [])) : W p l e R s m args below meth c H locs 0 0 Q (entryFrame m vs.toArray n) := by
  rw [lg_entry_eq]; exact k _ (lv_entry vs h)
end MROWS
/-! reading and writing with a look at the place, and what a road that answers says of them -/
section MOPT
variable {α β : Type}
def rdI (n : Nat) (f : Nat → Int32) (i : Int32) (g : Int32 → Option α) : Option α := if i < 0 ∨ n ≤ i.toNatClampNeg then none else g (f i.toNatClampNeg)
def rdL (n : Nat) (f : Nat → Int64) (i : Int32) (g : Int64 → Option α) : Option α := if i < 0 ∨ n ≤ i.toNatClampNeg then none else g (f i.toNatClampNeg)
def wrI (n : Nat) (M : MS) (k : Nat) (i v : Int32) (g : MS → Option α) : Option α := if i < 0 ∨ n ≤ i.toNatClampNeg then none else g (mpA M k (upd (M.2.1 k) i.toNatClampNeg v))
def wrL (n : Nat) (M : MS) (k : Nat) (i : Int32) (v : Int64) (g : MS → Option α) : Option α := if i < 0 ∨ n ≤ i.toNatClampNeg then none else g (mpL M k (vp_updL (M.2.2 k) i.toNatClampNeg v))
def wrF (M : MS) (k : Nat) (v : Int32) (g : MS → Option α) : Option α := g (mpF M k v)
def okB (x : Int32) (g : Option α) : Option α := if x = 0 ∨ x = 1 then g else none
def dvI (x : Int32) (g : Option α) : Option α := if x = 0 then none else g
def dvL (x : Int64) (g : Option α) : Option α := if x = 0 then none else g
def cal (x : Option β) (g : β → Option α) : Option α := x.bind g
theorem rdI_el {n : Nat} {f : Nat → Int32} {i : Int32} {g : Int32 → Option α} {r : α} (h : rdI n f i g = some r) : vp_in i n ∧ ∃ t : Int32, t = f i.toNatClampNeg ∧ g t = some r := by
  unfold rdI at h; split at h
  · cases h
  · next hn => exact ⟨hn, _, rfl, h⟩
theorem rdL_el {n : Nat} {f : Nat → Int64} {i : Int32} {g : Int64 → Option α} {r : α} (h : rdL n f i g = some r) : vp_in i n ∧ ∃ t : Int64, t = f i.toNatClampNeg ∧ g t = some r := by
  unfold rdL at h; split at h
  · cases h
  · next hn => exact ⟨hn, _, rfl, h⟩
theorem wrI_el {n : Nat} {M : MS} {k : Nat} {i v : Int32} {g : MS → Option α} {r : α} (h : wrI n M k i v g = some r) : vp_in i n ∧ ∃ M2 : MS, M2 = mpA M k (upd (M.2.1 k) i.toNatClampNeg v) ∧ g M2 = some r := by
  unfold wrI at h; split at h
  · cases h
  · next hn => exact ⟨hn, _, rfl, h⟩
theorem wrL_el {n : Nat} {M : MS} {k : Nat} {i : Int32} {v : Int64} {g : MS → Option α} {r : α} (h : wrL n M k i v g = some r) : vp_in i n ∧ ∃ M2 : MS, M2 = mpL M k (vp_updL (M.2.2 k) i.toNatClampNeg v) ∧ g M2 = some r := by
  unfold wrL at h; split at h
  · cases h
  · next hn => exact ⟨hn, _, rfl, h⟩
theorem wrF_el {M : MS} {k : Nat} {v : Int32} {g : MS → Option α} {r : α} (h : wrF M k v g = some r) : ∃ M2 : MS, M2 = mpF M k v ∧ g M2 = some r := ⟨_, rfl, h⟩
theorem okB_el {x : Int32} {g : Option α} {r : α} (h : okB x g = some r) : (x = 0 ∨ x = 1) ∧ g = some r := by
  unfold okB at h; split at h
  · next hn => exact ⟨hn, h⟩
  · cases h
theorem dvI_el {x : Int32} {g : Option α} {r : α} (h : dvI x g = some r) : ¬ x = 0 ∧ g = some r := by
  unfold dvI at h; split at h
  · cases h
  · next hn => exact ⟨hn, h⟩
theorem dvL_el {x : Int64} {g : Option α} {r : α} (h : dvL x g = some r) : ¬ x = 0 ∧ g = some r := by
  unfold dvL at h; split at h
  · cases h
  · next hn => exact ⟨hn, h⟩
theorem cal_el {x : Option β} {g : β → Option α} {r : α} (h : cal x g = some r) : ∃ t : β, x = some t ∧ g t = some r := by
  cases x with
  | none => cases h
  | some t => exact ⟨t, rfl, h⟩
def caM {σ τ : Type} (x : Option (σ × τ)) (g : σ → τ → Option α) : Option α := match x with
  | none => none
  | some q => g q.1 q.2
theorem caM_el {σ τ : Type} {x : Option (σ × τ)} {g : σ → τ → Option α} {r : α} (h : caM x g = some r) : ∃ (t : σ) (u : τ), x = some (t, u) ∧ g t u = some r := by
  cases x with
  | none => cases h
  | some t => exact ⟨t.1, t.2, rfl, h⟩
theorem ite_t {c : Prop} [Decidable c] {a b : Option α} {r : α} (hc : c) (h : (if c then a else b) = some r) : a = some r := by rw [if_pos hc] at h; exact h
theorem ite_f {c : Prop} [Decidable c] {a b : Option α} {r : α} (hc : ¬ c) (h : (if c then a else b) = some r) : b = some r := by rw [if_neg hc] at h; exact h
end MOPT
