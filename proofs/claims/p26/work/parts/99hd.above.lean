/-! ### The face of a point: over the highest segment under it, under the lowest one over it -/
def hZ (s : Sg) (x : Int) : Int := sY s * dX s + dY s * (x - sX s)
/-- a runs above b just to the right of x -/
def abZ (a b : Sg) (x : Int) : Bool := decide (hZ b x * dX a < hZ a x * dX b) || (decide (hZ a x * dX b = hZ b x * dX a) && decide (0 < cr b a))
def goZ (s : Sg) (x : Int) : Bool := decide (0 < dX s) && (decide (sX s ≤ x) && decide (x < eX s))
def lwZ (s : Sg) (x y : Int) : Bool := decide (hZ s x < y * dX s)
theorem hZ_lny {s : Sg} (h : 0 < dX s) (x : Int) : (hZ s x : Rat) = lny s (x : Rat) * (dX s : Rat) := by
  have h1 := slp_mul h
  unfold hZ lny
  rw [Rat.intCast_add, Rat.intCast_mul, Rat.intCast_mul, Rat.intCast_sub, ← h1]
  generalize (dX s : Rat) = a
  generalize slp s = m
  grind
theorem goZ_iff {s : Sg} {x : Int} : goZ s x = true ↔ 0 < dX s ∧ (sX s : Rat) ≤ (x : Rat) ∧ (x : Rat) < (eX s : Rat) := by
  unfold goZ
  rw [Bool.and_eq_true, Bool.and_eq_true, decide_eq_true_eq, decide_eq_true_eq, decide_eq_true_eq, Rat.intCast_le_intCast, Rat.intCast_lt_intCast]
theorem lwZ_iff {s : Sg} (h : 0 < dX s) {x y : Int} : lwZ s x y = true ↔ lny s (x : Rat) < (y : Rat) := by
  unfold lwZ
  rw [decide_eq_true_eq, ← Rat.intCast_lt_intCast, hZ_lny h, Rat.intCast_mul]
  exact rmul_lt_iff (dX_pos h)
theorem abZ_low {a b : Sg} (ha : 0 < dX a) (hb : 0 < dX b) (x : Int) : abZ a b x = lowB false b a (x : Rat) := by
  have m := Rat.mul_pos (dX_pos ha) (dX_pos hb)
  have q1 : ∀ u v w : Rat, u * v * w = u * (w * v) := by intro u v w; grind
  have q2 : ∀ u v w : Rat, u * v * w = u * (v * w) := by intro u v w; grind
  have h1 : hZ b x * dX a < hZ a x * dX b ↔ lny b (x : Rat) < lny a (x : Rat) := by
    rw [← Rat.intCast_lt_intCast, Rat.intCast_mul, Rat.intCast_mul, hZ_lny ha, hZ_lny hb, q1 (lny b (x : Rat)), q2 (lny a (x : Rat))]
    exact rmul_lt_iff m
  have h2 : hZ a x * dX b = hZ b x * dX a ↔ lny b (x : Rat) = lny a (x : Rat) := by
    rw [← Rat.intCast_inj, Rat.intCast_mul, Rat.intCast_mul, hZ_lny ha, hZ_lny hb, q1 (lny b (x : Rat)), q2 (lny a (x : Rat))]
    exact (rmul_eq_iff m).trans ⟨fun h => h.symm, fun h => h.symm⟩
  unfold abZ lowB
  rw [decide_eq_decide.mpr h1, decide_eq_decide.mpr h2, decide_eq_decide.mpr (slp_cr hb ha)]
  rfl
/-- the first of those in P that R doesn't put behind another -/
def bst (P : Nat → Bool) (R : Nat → Nat → Bool) : Nat → Option Nat
  | 0 => none
  | i + 1 => if P i && (match bst P R i with
      | none => true
      | some b => R i b) then some i else bst P R i
theorem bst_ok {P : Nat → Bool} {R : Nat → Nat → Bool} (hi : ∀ i, P i = true → R i i = false) (ht : ∀ i j k, P i = true → P j = true → P k = true → R i j = true → R j k = true → R i k = true) :
    ∀ i, (bst P R i = none → ∀ j, j < i → P j = false) ∧ ∀ f, bst P R i = some f → f < i ∧ P f = true ∧ ∀ j, j < i → P j = true → R j f = false := by
  intro i
  induction i with
  | zero => exact ⟨fun _ j h => by omega, fun f h => by cases h⟩
  | succ i ih =>
    obtain ⟨i1, i2⟩ := ih
    rw [bst]
    cases hp : P i
    · rw [Bool.false_and, if_neg Bool.false_ne_true]
      refine ⟨fun h j hj => ?_, fun f h => ?_⟩
      · rcases Nat.lt_or_ge j i with z | z
        · exact i1 h j z
        · have : j = i := by omega
          subst this; exact hp
      · obtain ⟨a1, a2, a3⟩ := i2 f h
        refine ⟨by omega, a2, fun j hj pj => ?_⟩
        rcases Nat.lt_or_ge j i with z | z
        · exact a3 j z pj
        · have : j = i := by omega
          subst this; rw [hp] at pj; cases pj
    · cases ho : bst P R i with
      | none =>
        rw [Bool.true_and]
        show ((if true = true then some i else none) = none → _) ∧ ∀ f, (if true = true then some i else none) = some f → _
        rw [if_pos rfl]
        refine ⟨(fun h => by cases h), fun f h => ?_⟩
        cases h
        refine ⟨by omega, hp, fun j hj pj => ?_⟩
        rcases Nat.lt_or_ge j i with z | z
        · rw [i1 ho j z] at pj; cases pj
        · have : j = i := by omega
          subst this; exact hi j hp
      | some b =>
        obtain ⟨a1, a2, a3⟩ := i2 b ho
        rw [Bool.true_and]
        show ((if R i b = true then some i else some b) = none → _) ∧ ∀ f, (if R i b = true then some i else some b) = some f → _
        cases hR : R i b
        · rw [if_neg Bool.false_ne_true]
          refine ⟨(fun h => by cases h), fun f h => ?_⟩
          cases h
          refine ⟨by omega, a2, fun j hj pj => ?_⟩
          rcases Nat.lt_or_ge j i with z | z
          · exact a3 j z pj
          · have : j = i := by omega
            subst this; exact hR
        · rw [if_pos rfl]
          refine ⟨(fun h => by cases h), fun f h => ?_⟩
          cases h
          refine ⟨by omega, hp, fun j hj pj => ?_⟩
          rcases Nat.lt_or_ge j i with z | z
          · have := a3 j z pj
            rw [Bool.eq_false_iff] at this ⊢
            exact fun w => this (ht j i b pj hp a2 w hR)
          · have : j = i := by omega
            subst this; exact hi j hp
/-- the highest segment under a point, the lowest one over it -/
def blwS (g : Nat → Sg) (x y : Int) (i : Nat) : Option Nat := bst (fun s => goZ (g s) x && lwZ (g s) x y) (fun s b => abZ (g s) (g b) x) i
def abvS (g : Nat → Sg) (x y : Int) (i : Nat) : Option Nat := bst (fun s => goZ (g s) x && !lwZ (g s) x y) (fun s b => abZ (g b) (g s) x) i
section ABV
variable {n : Nat} {g : Nat → Sg} {q : ES} {rd root lo ou : Nat → Nat} {c : Nat}
theorem go_dX {s : Sg} {x : Int} (h : goZ s x = true) : 0 < dX s := (goZ_iff.mp h).1
theorem blw_ok (x y : Int) : ∀ i, (blwS g x y i = none → ∀ j, j < i → (goZ (g j) x && lwZ (g j) x y) = false) ∧ ∀ f, blwS g x y i = some f → f < i ∧ (goZ (g f) x && lwZ (g f) x y) = true ∧ ∀ j, j < i → (goZ (g j) x && lwZ (g j) x y) = true → lowB false (g f) (g j) (x : Rat) = false := by
  intro i
  have hd : ∀ j, (goZ (g j) x && lwZ (g j) x y) = true → 0 < dX (g j) := fun j h => go_dX (Bool.and_eq_true_iff.mp h).1
  obtain ⟨h1, h2⟩ := bst_ok (P := fun s => goZ (g s) x && lwZ (g s) x y) (R := fun s b => abZ (g s) (g b) x) (fun i hi => by
    show abZ (g i) (g i) x = false
    rw [abZ_low (hd i hi) (hd i hi), lowB_irr]) (fun i j k pi pj pk r1 r2 => by
    show abZ (g i) (g k) x = true
    have r1 : abZ (g i) (g j) x = true := r1
    have r2 : abZ (g j) (g k) x = true := r2
    rw [abZ_low (hd i pi) (hd j pj)] at r1
    rw [abZ_low (hd j pj) (hd k pk)] at r2
    rw [abZ_low (hd i pi) (hd k pk)]
    exact lowB_tr r2 r1) i
  refine ⟨h1, fun f hf => ?_⟩
  obtain ⟨a1, a2, a3⟩ := h2 f hf
  refine ⟨a1, a2, fun j hj pj => ?_⟩
  have := a3 j hj pj
  rw [← abZ_low (hd j pj) (hd f a2)]
  exact this
theorem abv_ok (x y : Int) : ∀ i, (abvS g x y i = none → ∀ j, j < i → (goZ (g j) x && !lwZ (g j) x y) = false) ∧ ∀ f, abvS g x y i = some f → f < i ∧ (goZ (g f) x && !lwZ (g f) x y) = true ∧ ∀ j, j < i → (goZ (g j) x && !lwZ (g j) x y) = true → lowB false (g j) (g f) (x : Rat) = false := by
  intro i
  have hd : ∀ j, (goZ (g j) x && !lwZ (g j) x y) = true → 0 < dX (g j) := fun j h => go_dX (Bool.and_eq_true_iff.mp h).1
  obtain ⟨h1, h2⟩ := bst_ok (P := fun s => goZ (g s) x && !lwZ (g s) x y) (R := fun s b => abZ (g b) (g s) x) (fun i hi => by
    show abZ (g i) (g i) x = false
    rw [abZ_low (hd i hi) (hd i hi), lowB_irr]) (fun i j k pi pj pk r1 r2 => by
    show abZ (g k) (g i) x = true
    have r1 : abZ (g j) (g i) x = true := r1
    have r2 : abZ (g k) (g j) x = true := r2
    rw [abZ_low (hd j pj) (hd i pi)] at r1
    rw [abZ_low (hd k pk) (hd j pj)] at r2
    rw [abZ_low (hd k pk) (hd i pi)]
    exact lowB_tr r1 r2) i
  refine ⟨h1, fun f hf => ?_⟩
  obtain ⟨a1, a2, a3⟩ := h2 f hf
  refine ⟨a1, a2, fun j hj pj => ?_⟩
  have := a3 j hj pj
  rw [← abZ_low (hd f a2) (hd j pj)]
  exact this
/-- an edge over x is of a segment over x -/
theorem sp_go (hg : gOk n g) (hE : EOk g (vI g n).2 n (vI g n).1 q) {x : Int} {e : Nat} (he : e < q.1) (h : spB false g n q (x : Rat) e = true) : goZ (gE g q e) x = true := by
  have hd := sp_wide hg hE he h
  obtain ⟨p1, p2, p3, p4⟩ := e_pts hg hE he
  have r1 := ((onS_R _ _).mp p2).2.1.1
  have r2 := ((onS_R _ _).mp p3).2.1.2
  have := spB_R.mp h
  exact goZ_iff.mpr ⟨hd, by grind, by grind⟩
theorem un_go (hg : gOk n g) (hE : EOk g (vI g n).2 n (vI g n).1 q) {x y : Int} {e : Nat} (he : e < q.1) : unP false g n q ((x : Rat), (y : Rat)) e = true ↔ spB false g n q (x : Rat) e = true ∧ (goZ (gE g q e) x && lwZ (gE g q e) x y) = true := by
  constructor
  · intro h
    obtain ⟨h1, h2⟩ := Bool.and_eq_true_iff.mp h
    have h1 : spB false g n q (x : Rat) e = true := h1
    have hd := sp_wide hg hE he h1
    refine ⟨h1, ?_⟩
    rw [sp_go hg hE he h1, Bool.true_and]
    exact (lwZ_iff hd).mpr (of_decide_eq_true h2)
  · rintro ⟨h1, h2⟩
    have hd := sp_wide hg hE he h1
    refine Bool.and_eq_true_iff.mpr ⟨h1, decide_eq_true ?_⟩
    exact (lwZ_iff hd).mp (Bool.and_eq_true_iff.mp h2).2
/-- the segment fb is the highest one under the point: its edge there is the highest -/
theorem top_blw (hg : gOk n g) (hE : EOk g (vI g n).2 n (vI g n).1 q) {x y : Int} {k : Nat} (hk : k < q.1) (hs : spB false g n q (x : Rat) k = true) (hb : blwS g x y n = some (eS q k)) : topE false g n q ((x : Rat), (y : Rat)) (some k) := by
  obtain ⟨-, b2⟩ := blw_ok (g := g) x y n
  obtain ⟨c1, c2, c3⟩ := b2 _ hb
  refine ⟨hk, (un_go hg hE hk).mpr ⟨hs, c2⟩, fun e' he' hu => ?_⟩
  obtain ⟨d1, d2⟩ := (un_go hg hE he').mp hu
  by_cases z : e' = k
  · exact Or.inl z
  · exact Or.inr (spB_tot hg hE hk he' z hs d1 (c3 _ (hE.1 e' he').1 d2))
theorem top_none (hg : gOk n g) (hE : EOk g (vI g n).2 n (vI g n).1 q) {x y : Int} (hb : blwS g x y n = none) : topE false g n q ((x : Rat), (y : Rat)) none := by
  intro e he
  rw [Bool.eq_false_iff]
  intro hu
  obtain ⟨d1, d2⟩ := (un_go hg hE he).mp hu
  rw [(blw_ok (g := g) x y n).1 hb _ (hE.1 e he).1] at d2
  cases d2
theorem fc_roots (h : FH n g q root rd c lo ou) : ∀ v, v < (vI g n).1 → root v = v → ∃ o, topE true g n q ((vI g n).2 v) o ∧ foF n g q root rd c lo ou (rd (hiv g q v)) = fcO (fun s => foF n g q root rd c lo ou (rd s)) o := fun v hv rv => by
  obtain ⟨o2, t3, -⟩ := ref_top h.1 h.2.1 true ((vI g n).2 v)
  exact ⟨o2, t3, fo_root h hv rv t3⟩
/-- what is carried under an edge tells the face on its right -/
theorem Wv_right (h : FH n g q root rd c lo ou) (y : Nat) {k : Nat} (hk : k < q.1) : Wv g n q (fun s => foF n g q root rd c lo ou (rd s)) y (2 * k) = zb (decide (foF n g q root rd c lo ou (rd (2 * k + 1)) = y)) - zb (decide (0 = y)) := by
  have hf := fo_nxt h
  have hr := h.2.2.2.2.1
  have hF := (eF_lt h.2.1 hk).1
  have hrF := hr.1 _ hF
  have hcn := hr.2.1 _ hF
  have hrr : root (root (eF q k)) = root (eF q k) := (root_conn hr hcn).symm
  have h3 := cV_all h.1 h.2.1 h.2.2.1 h.2.2.2.1 (fc := fun s => foF n g q root rd c lo ou (rd s)) hf hr (fc_roots h) y (root (eF q k)) (by omega) hrr
  rw [← cV_conn h.1 h.2.1 h.2.2.1 hf y hcn, ← bg_e, cV_at h.2.2.1 hf y (by omega)] at h3
  unfold cval at h3
  rw [tw_e] at h3
  have h3 : Wv g n q (fun s => foF n g q root rd c lo ou (rd s)) y (2 * k) - zb (decide (foF n g q root rd c lo ou (rd (2 * k + 1)) = y)) = -zb (decide (0 = y)) := h3
  omega
theorem zb_one {a b : Nat} (h : ∀ y, zb (decide (a = y)) = zb (decide (b = y))) : a = b := by
  have h1 := h a
  rw [decide_eq_true rfl] at h1
  by_cases z : b = a
  · exact z.symm
  · rw [decide_eq_false z] at h1; cases h1
/-- the segment fa is the lowest one over the point: its edge there has the face on its right -/
theorem abv_right (h : FH n g q root rd c lo ou) {x y : Int} (hp : ∀ i, i < n → ¬ onS (g i) ((x : Rat), (y : Rat))) {k : Nat} (hk : k < q.1) (hs : spB false g n q (x : Rat) k = true) (ha : abvS g x y n = some (eS q k)) {o : Option Nat} (ho : topE false g n q ((x : Rat), (y : Rat)) o) :
    foF n g q root rd c lo ou (rd (2 * k + 1)) = fcO (fun s => foF n g q root rd c lo ou (rd s)) o := by
  have hf := fo_nxt h
  have hg := h.1
  have hE := h.2.1
  obtain ⟨-, b2⟩ := abv_ok (g := g) x y n
  obtain ⟨c1, c2, c3⟩ := b2 _ ha
  have hd := sp_wide hg hE hk hs
  obtain ⟨g1, g2⟩ := Bool.and_eq_true_iff.mp c2
  have hnl : ¬ lny (gE g q k) (x : Rat) < (y : Rat) := fun w => by
    rw [(lwZ_iff hd).mpr w] at g2; cases g2
  have off : ∀ e, e < q.1 → spB false g n q (x : Rat) e = true → lny (gE g q e) (x : Rat) ≠ (y : Rat) := by
    intro e he hse w
    obtain ⟨s1, s2⟩ := spB_R.mp hse
    have := (e_on hg hE he (sp_wide hg hE he hse) (X := (x : Rat)) s1 (by grind)).1
    rw [w] at this
    exact hp _ (hE.1 e he).1 this
  have hoff := off k hk hs
  have hsame : ∀ e', e' < q.1 → unP false g n q ((x : Rat), (y : Rat)) e' = unE false g n q k (x : Rat) e' := by
    intro e' he'
    rw [Bool.eq_iff_iff]
    constructor
    · intro w
      obtain ⟨w1, w2⟩ := Bool.and_eq_true_iff.mp w
      have w2 : lny (gE g q e') (x : Rat) < (y : Rat) := of_decide_eq_true w2
      refine Bool.and_eq_true_iff.mpr ⟨w1, ?_⟩
      unfold lowB
      rw [decide_eq_true (show lny (gE g q e') (x : Rat) < lny (gE g q k) (x : Rat) by grind)]; rfl
    · intro w
      obtain ⟨w1, w2⟩ := Bool.and_eq_true_iff.mp w
      have w1 : spB false g n q (x : Rat) e' = true := w1
      have hd' := sp_wide hg hE he' w1
      refine Bool.and_eq_true_iff.mpr ⟨w1, decide_eq_true ?_⟩
      show lny (gE g q e') (x : Rat) < (y : Rat)
      apply Classical.byContradiction
      intro hn
      have hl : lwZ (g (eS q e')) x y = false := by
        rw [Bool.eq_false_iff]
        exact fun z => hn ((lwZ_iff hd').mp z)
      have := c3 (eS q e') (hE.1 e' he').1 (by rw [sp_go hg hE he' w1, hl]; rfl)
      have w2 : lowB false (g (eS q e')) (g (eS q k)) (x : Rat) = true := w2
      rw [w2] at this; cases this
  refine zb_one (fun y0 => ?_)
  have h1 := dwn_face hg hE h.2.2.1 h.2.2.2.1 (fc := fun s => foF n g q root rd c lo ou (rd s)) hf h.2.2.2.2.1 (fc_roots h) y0 ho
  have h2 := Wv_right h y0 hk
  obtain ⟨w1, w2, w3⟩ := e_wide hg hE hk hd
  obtain ⟨s1, s2⟩ := spB_R.mp hs
  have h3 : dwn false g n q (fun s => foF n g q root rd c lo ou (rd s)) y0 ((x : Rat), (y : Rat)) = Wv g n q (fun s => foF n g q root rd c lo ou (rd s)) y0 (2 * k) := by
    rw [wF hg hE y0 hk hd]
    have e1 : dwn false g n q (fun s => foF n g q root rd c lo ou (rd s)) y0 ((x : Rat), (y : Rat)) = zsm (fun e' => phi (fun s => foF n g q root rd c lo ou (rd s)) y0 e' * zb (unE false g n q k (x : Rat) e')) q.1 := zsm_congr (fun e' he' => by
      show phi _ _ _ * zb _ = phi _ _ _ * zb _
      rw [hsame e' he'])
    rw [e1, ← mv_sum hg hE h.2.2.1 hf y0 hk hd s2 s1 Rat.le_refl, mv_sum hg hE h.2.2.1 hf y0 hk hd w1 Rat.le_refl Rat.le_refl]
  omega
/-- nothing is over the point: it lies outside -/
theorem abv_none (h : FH n g q root rd c lo ou) {x y : Int} (ha : abvS g x y n = none) {o : Option Nat} (ho : topE false g n q ((x : Rat), (y : Rat)) o) : fcO (fun s => foF n g q root rd c lo ou (rd s)) o = 0 := by
  have hf := fo_nxt h
  have hg := h.1
  have hE := h.2.1
  have hall : ∀ e, e < q.1 → unP false g n q ((x : Rat), (y : Rat)) e = spB false g n q (x : Rat) e := by
    intro e he
    rw [Bool.eq_iff_iff]
    refine ⟨fun w => (Bool.and_eq_true_iff.mp w).1, fun w => (un_go hg hE he).mpr ⟨w, ?_⟩⟩
    have hgo := sp_go hg hE he w
    have := (abv_ok (g := g) x y n).1 ha _ (hE.1 e he).1
    rw [hgo, Bool.true_and, Bool.not_eq_false'] at this
    rw [hgo, Bool.true_and]
    exact this
  refine zb_one (fun y0 => ?_)
  have h1 := dwn_face hg hE h.2.2.1 h.2.2.2.1 (fc := fun s => foF n g q root rd c lo ou (rd s)) hf h.2.2.2.2.1 (fc_roots h) y0 ho
  have h2 := kir h.2.2.1 (fc := fun s => foF n g q root rd c lo ou (rd s)) hf y0 (fun u => decide (((vI g n).2 u).1 ≤ (x : Rat)))
  have h3 : dwn false g n q (fun s => foF n g q root rd c lo ou (rd s)) y0 ((x : Rat), (y : Rat)) = 0 := by
    rw [← h2]
    refine zsm_congr (fun e he => ?_)
    show phi _ _ _ * zb _ = phi _ _ _ * (zb (decide ((pF g n q e).1 ≤ (x : Rat))) - zb (decide ((pT g n q e).1 ≤ (x : Rat))))
    rw [hall e he]
    congr 1
    obtain ⟨-, -, -, p4⟩ := e_pts hg hE he
    have hle : (pF g n q e).1 ≤ (pT g n q e).1 := by
      rcases p4 with w | ⟨w, -⟩ <;> grind
    show zb (decide ((pF g n q e).1 ≤ (x : Rat)) && decide ((x : Rat) < (pT g n q e).1)) = _
    by_cases a1 : (pF g n q e).1 ≤ (x : Rat)
    · by_cases a2 : (pT g n q e).1 ≤ (x : Rat)
      · rw [decide_eq_true a1, decide_eq_true a2, decide_eq_false (show ¬ (x : Rat) < (pT g n q e).1 by grind)]; rfl
      · rw [decide_eq_true a1, decide_eq_false a2, decide_eq_true (show (x : Rat) < (pT g n q e).1 by grind)]; rfl
    · rw [decide_eq_false a1, decide_eq_false (show ¬ (pT g n q e).1 ≤ (x : Rat) by grind)]; rfl
  omega
end ABV
