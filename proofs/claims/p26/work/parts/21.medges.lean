/-! ### the edges; the reference finds them -/
def onB (s : Sg) (p : Pt) : Bool := decide (dX s * (p.2.num - sY s * p.2.den) * p.1.den = dY s * (p.1.num - sX s * p.1.den) * p.2.den) && (decide (sX s * p.1.den ≤ p.1.num) && decide (p.1.num ≤ eX s * p.1.den)) && (decide ((if sY s < eY s then sY s else eY s) * p.2.den ≤ p.2.num) && decide (p.2.num ≤ (if sY s < eY s then eY s else sY s) * p.2.den))
theorem onB_iff {s : Sg} {p : Pt} : onB s p = true ↔ onS s p := by
  unfold onB onS
  simp only [Bool.and_eq_true, decide_eq_true_iff]
  exact ⟨fun h => ⟨h.1.1, h.1.2, h.2⟩, fun h => ⟨⟨h.1, h.2.1⟩, h.2.2⟩⟩
abbrev ES : Type := Nat × (Nat → Nat × Nat × Nat)
def epush (q : ES) (e : Nat × Nat × Nat) : ES := (q.1 + 1, fun i => if i = q.1 then e else q.2 i)
/-- edge by edge along the segment s, over the first vertices -/
def eJ (g : Nat → Sg) (V : Nat → Pt) (s : Nat) : Nat → ES → ES × Option Nat
  | 0, q => (q, none)
  | v + 1, q => if onB (g s) (V v) then ((match (eJ g V s v q).2 with
      | none => (eJ g V s v q).1
      | some u => epush (eJ g V s v q).1 (s, u, v)), some v) else eJ g V s v q
def eI (g : Nat → Sg) (V : Nat → Pt) (nV : Nat) : Nat → ES
  | 0 => (0, fun _ => (0, 0, 0))
  | s + 1 => (eJ g V s nV (eI g V nV s)).1
theorem eJ_cnt (g : Nat → Sg) (V : Nat → Pt) (s : Nat) (q : ES) : ∀ v, (eJ g V s v q).1.1 + (if (eJ g V s v q).2 = none then 0 else 1) = q.1 + cnt (fun v => onB (g s) (V v)) v ∧ ((eJ g V s v q).2 = none ↔ cnt (fun v => onB (g s) (V v)) v = 0) ∧ ∀ u, (eJ g V s v q).2 = some u → u < v := by
  intro v
  induction v with
  | zero => exact ⟨rfl, ⟨fun _ => rfl, fun _ => rfl⟩, fun u h => by cases h⟩
  | succ v ih =>
    obtain ⟨i1, i2, i3⟩ := ih
    rw [eJ, cnt]
    cases hb : onB (g s) (V v)
    · simp only [Bool.false_eq_true, if_false, Nat.add_zero]
      exact ⟨i1, i2, fun u h => by have := i3 u h; omega⟩
    · simp only [if_true]
      refine ⟨?_, ?_, fun u h => by cases h; omega⟩
      · cases ho : (eJ g V s v q).2 with
        | none => rw [ho] at i1; simp at i1 ⊢; omega
        | some u => rw [ho] at i1; simp [epush] at i1 ⊢; omega
      · simp
def eSz (g : Nat → Sg) (V : Nat → Pt) (nV : Nat) (s : Nat) : Nat := (eI g V nV s).1
theorem eJ_le (g : Nat → Sg) (V : Nat → Pt) (s : Nat) (q : ES) (v : Nat) : (eJ g V s v q).1.1 ≤ q.1 + (cnt (fun v => onB (g s) (V v)) v - 1) := by
  obtain ⟨h1, h2, -⟩ := eJ_cnt g V s q v
  split at h1
  · next h => have := h2.mp h; omega
  · next h =>
    have : cnt (fun v => onB (g s) (V v)) v ≠ 0 := fun w => h (h2.mpr w)
    omega
theorem cnt_mono (P : Nat → Bool) {a b : Nat} (h : a ≤ b) : cnt P a ≤ cnt P b := by
  induction b with
  | zero => have : a = 0 := by omega
            subst this; exact Nat.le_refl _
  | succ b ih =>
    rcases Nat.lt_or_ge b a with q | q
    · have : a = b + 1 := by omega
      subst this; exact Nat.le_refl _
    · rw [cnt]; have := ih q; omega
theorem eI_le {n : Nat} {g : Nat → Sg} (h : gOk n g) (hn : n ≤ 12) : ∀ s, s ≤ n → (eI g (vI g n).2 (vI g n).1 s).1 ≤ 12 * s := by
  intro s
  induction s with
  | zero => intro _; exact Nat.le_refl _
  | succ s ih =>
    intro hs
    have h1 := ih (by omega)
    have h2 := eJ_le g (vI g n).2 s (eI g (vI g n).2 (vI g n).1 s) (vI g n).1
    have h3 := on_13 h (s := s) (by omega) (fun v => onB (g s) ((vI g n).2 v)) (fun v _ hp => onB_iff.mp hp)
    rw [eI]; omega
section MED
variable {F : Nat} {M : MS} {g : Nat → Sg} {n : Nat}
theorem e_isOn {nV : Nat} {V : Nat → Pt} (hco : mCo M n g) (hg : ∀ i, i < n → sOk (g i)) (hn : n ≤ 13) (hV : mVer M nV V) (hbv : ∀ i, i < nV → bV (V i)) (hnV : nV ≤ 99) {v s : Nat} (hv : v < nV) (hs : s < n) : f_isOn F M (nI v) (nI s) = some (bI (onB (g s) (V v))) := by
  obtain ⟨v1, v2, v3, v4⟩ := hV.2 v hv
  obtain ⟨c1, c2, c3, c4⟩ := hco s hs
  have ho := hg s hs
  obtain ⟨⟨b1, b2, b3, b4⟩, -⟩ := id ho
  obtain ⟨⟨x1, x2⟩, ⟨y1, y2⟩⟩ := hbv v hv
  have k3 := i32_of _ (dX_bd ho) (by omega)
  have k4 := i32_of _ (dY_bd ho) (by omega)
  have rs : ∀ {f : Nat → Int32} {G : Int32 → Option Int32}, rdI 13 f (nI s) G = G (f s) := rdI_at (by omega) (by decide)
  have rv : ∀ {f : Nat → Int64} {G : Int64 → Option Int32}, rdL 100 f (nI v) G = G (f v) := rdL_at (by omega) (by decide)
  have m1 : -2000000 ≤ sY (g s) * ((V v).2.den : Int) ∧ sY (g s) * ((V v).2.den : Int) ≤ 2000000 := by unfold inR at b2; exact mul_bd (A := 100) (B := 20000) ⟨by omega, by omega⟩ ⟨by omega, by omega⟩
  have m2 : -2000000 ≤ sX (g s) * ((V v).1.den : Int) ∧ sX (g s) * ((V v).1.den : Int) ≤ 2000000 := by unfold inR at b1; exact mul_bd (A := 100) (B := 20000) ⟨by omega, by omega⟩ ⟨by omega, by omega⟩
  have m3 : -2000000 ≤ eX (g s) * ((V v).1.den : Int) ∧ eX (g s) * ((V v).1.den : Int) ≤ 2000000 := by unfold inR at b3; exact mul_bd (A := 100) (B := 20000) ⟨by omega, by omega⟩ ⟨by omega, by omega⟩
  have m4 : -2000000 ≤ eY (g s) * ((V v).2.den : Int) ∧ eY (g s) * ((V v).2.den : Int) ≤ 2000000 := by unfold inR at b4; exact mul_bd (A := 100) (B := 20000) ⟨by omega, by omega⟩ ⟨by omega, by omega⟩
  have l1 := mul_bd (dX_bd ho) (b := (V v).2.num - sY (g s) * ((V v).2.den : Int)) (B := 6000000) ⟨by omega, by omega⟩
  have l2 := mul_bd l1 (b := ((V v).1.den : Int)) (B := 20000) ⟨by omega, by omega⟩
  have r1 := mul_bd (dY_bd ho) (b := (V v).1.num - sX (g s) * ((V v).1.den : Int)) (B := 6000000) ⟨by omega, by omega⟩
  have r2 := mul_bd r1 (b := ((V v).2.den : Int)) (B := 20000) ⟨by omega, by omega⟩
  have fin : ∀ (w h : Bool), f_isOn_b231 F M (zL (dX (g s) * ((V v).2.num - sY (g s) * ((V v).2.den : Int)) * ((V v).1.den : Int))) (zL (dY (g s) * ((V v).1.num - sX (g s) * ((V v).1.den : Int)) * ((V v).2.den : Int))) (bI w) (bI h) = some (bI (decide (dX (g s) * ((V v).2.num - sY (g s) * (V v).2.den) * (V v).1.den = dY (g s) * ((V v).1.num - sX (g s) * (V v).1.den) * (V v).2.den) && w && h)) := by
    intro w h
    unfold f_isOn_b231
    rw [zL_cmp ⟨by omega, by omega⟩ ⟨by omega, by omega⟩]
    by_cases q : dX (g s) * ((V v).2.num - sY (g s) * ((V v).2.den : Int)) * ((V v).1.den : Int) = dY (g s) * ((V v).1.num - sX (g s) * ((V v).1.den : Int)) * ((V v).2.den : Int)
    · rw [csgn_eq q, if_pos (by decide), decide_eq_true q]
      cases w <;> cases h <;> rfl
    · have hne : ¬ zI (csgn (dX (g s) * ((V v).2.num - sY (g s) * ((V v).2.den : Int)) * ((V v).1.den : Int)) (dY (g s) * ((V v).1.num - sX (g s) * ((V v).1.den : Int)) * ((V v).2.den : Int))) = 0 := by
        rcases Int.lt_or_gt_of_ne q with w | w
        · rw [csgn_lt w]; decide
        · rw [csgn_gt w]; decide
      rw [if_neg hne, decide_eq_false q]; rfl
  have cmp1 : ∀ {a : Int} {d : Nat} {k : Int}, -4000000 ≤ a ∧ a ≤ 4000000 → -2000000 ≤ k * (d : Int) ∧ k * (d : Int) ≤ 2000000 → f_compare F M (zL a) (zL (d : Int)) (zL k) 1 = some (zI (csgn a (k * d))) := by
    intro a d k h1 h2
    have h := e_compare (F := F) (M := M) (a := a) (b := (d : Int)) (c := k) (d := 1) ⟨by omega, by omega⟩
    rw [zL_1, Int.mul_one] at h
    exact h
  have lo : ∀ x y : Int, (zI (csgn x y) < 0 ↔ x < y) ∧ (0 < zI (csgn x y) ↔ y < x) := by
    intro x y
    rcases Int.lt_trichotomy x y with q | q | q
    · rw [csgn_lt q]; exact ⟨⟨fun _ => q, fun _ => by decide⟩, ⟨fun w => absurd w (by decide), fun w => by omega⟩⟩
    · rw [csgn_eq q]; exact ⟨⟨fun w => absurd w (by decide), fun w => by omega⟩, ⟨fun w => absurd w (by decide), fun w => by omega⟩⟩
    · rw [csgn_gt q]; exact ⟨⟨fun w => absurd w (by decide), fun w => by omega⟩, ⟨fun _ => q, fun _ => by decide⟩⟩
  have hi180 : ∀ (w : Bool) (lw hg2 : Int), inR lw → inR hg2 → f_isOn_b180 F M (nI v) (zL (dX (g s) * ((V v).2.num - sY (g s) * ((V v).2.den : Int)) * ((V v).1.den : Int))) (zL (dY (g s) * ((V v).1.num - sX (g s) * ((V v).1.den : Int)) * ((V v).2.den : Int))) (zI lw) (zI hg2) (bI w) = some (bI (decide (dX (g s) * ((V v).2.num - sY (g s) * (V v).2.den) * (V v).1.den = dY (g s) * ((V v).1.num - sX (g s) * (V v).1.den) * (V v).2.den) && w && (decide (lw * (V v).2.den ≤ (V v).2.num) && decide ((V v).2.num ≤ hg2 * (V v).2.den)))) := by
    intro w lw hg2 h1 h2
    have n1 : -2000000 ≤ lw * ((V v).2.den : Int) ∧ lw * ((V v).2.den : Int) ≤ 2000000 := by unfold inR at h1; exact mul_bd (A := 100) (B := 20000) ⟨by omega, by omega⟩ ⟨by omega, by omega⟩
    have n2 : -2000000 ≤ hg2 * ((V v).2.den : Int) ∧ hg2 * ((V v).2.den : Int) ≤ 2000000 := by unfold inR at h2; exact mul_bd (A := 100) (B := 20000) ⟨by omega, by omega⟩ ⟨by omega, by omega⟩
    unfold f_isOn_b180
    simp only [rv, v3, v4, zI_long (inR_32 h1), zI_long (inR_32 h2), cmp1 y1 n1, cmp1 y1 n2, cal_some]
    by_cases q1 : (V v).2.num < lw * ((V v).2.den : Int)
    · rw [if_pos ((lo _ _).1.mpr q1), decide_eq_false (show ¬ lw * ((V v).2.den : Int) ≤ (V v).2.num by omega)]
      exact fin w false
    · rw [if_neg (fun z => q1 ((lo _ _).1.mp z)), decide_eq_true (show lw * ((V v).2.den : Int) ≤ (V v).2.num by omega)]
      by_cases q2 : hg2 * ((V v).2.den : Int) < (V v).2.num
      · rw [if_pos ((lo _ _).2.mpr q2), decide_eq_false (show ¬ (V v).2.num ≤ hg2 * ((V v).2.den : Int) by omega)]
        exact fin w false
      · rw [if_neg (fun z => q2 ((lo _ _).2.mp z)), decide_eq_true (show (V v).2.num ≤ hg2 * ((V v).2.den : Int) by omega)]
        exact fin w true
  have h103 : ∀ (lw hg2 : Int), inR lw → inR hg2 → sY (g s) + eY (g s) - lw = hg2 → f_isOn_b103 F M (nI v) (nI s) (zL (dX (g s) * ((V v).2.num - sY (g s) * ((V v).2.den : Int)) * ((V v).1.den : Int))) (zL (dY (g s) * ((V v).1.num - sX (g s) * ((V v).1.den : Int)) * ((V v).2.den : Int))) (zI lw) = some (bI (decide (dX (g s) * ((V v).2.num - sY (g s) * (V v).2.den) * (V v).1.den = dY (g s) * ((V v).1.num - sX (g s) * (V v).1.den) * (V v).2.den) && (decide (sX (g s) * (V v).1.den ≤ (V v).1.num) && decide ((V v).1.num ≤ eX (g s) * (V v).1.den)) && (decide (lw * (V v).2.den ≤ (V v).2.num) && decide ((V v).2.num ≤ hg2 * (V v).2.den)))) := by
    intro lw hg2 h1 h2 h3
    unfold f_isOn_b103
    simp only [rs, rv, c1, c2, c3, c4, v1, v2, zI_long (inR_32 b1), zI_long (inR_32 b3), cmp1 x1 m2, cmp1 x1 m3, cal_some, zI_add, zI_sub, h3]
    by_cases q1 : (V v).1.num < sX (g s) * ((V v).1.den : Int)
    · rw [if_pos ((lo _ _).1.mpr q1), decide_eq_false (show ¬ sX (g s) * ((V v).1.den : Int) ≤ (V v).1.num by omega)]
      exact hi180 false lw hg2 h1 h2
    · rw [if_neg (fun z => q1 ((lo _ _).1.mp z)), decide_eq_true (show sX (g s) * ((V v).1.den : Int) ≤ (V v).1.num by omega)]
      by_cases q2 : eX (g s) * ((V v).1.den : Int) < (V v).1.num
      · rw [if_pos ((lo _ _).2.mpr q2), decide_eq_false (show ¬ (V v).1.num ≤ eX (g s) * ((V v).1.den : Int) by omega)]
        exact hi180 false lw hg2 h1 h2
      · rw [if_neg (fun z => q2 ((lo _ _).2.mp z)), decide_eq_true (show (V v).1.num ≤ eX (g s) * ((V v).1.den : Int) by omega)]
        exact hi180 true lw hg2 h1 h2
  unfold f_isOn onB
  simp only [rs, rv, e_dx hco hs hn, e_dy hco hs hn, cal_some, c1, c2, c3, c4, v1, v2, v3, v4, zI_long k3, zI_long k4, zI_long (inR_32 b1), zI_long (inR_32 b2), zL_mul, zL_sub]
  by_cases q : sY (g s) < eY (g s)
  · rw [if_neg (fun w => by have := (zI_le (inR_32 b4) (inR_32 b2)).mp w; omega), if_pos q, if_pos q]
    exact h103 _ _ b2 b4 (by omega)
  · rw [if_pos ((zI_le (inR_32 b4) (inR_32 b2)).mpr (by omega)), if_neg q, if_neg q]
    exact h103 _ _ b4 b2 (by omega)
end MED
