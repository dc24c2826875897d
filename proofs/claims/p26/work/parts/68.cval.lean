/-! ### The face over the highest edge under a point: on the left and on the right of it the same -/
section CVL
variable {n : Nat} {g : Nat → Sg} {q : ES}
def cval (g : Nat → Sg) (n : Nat) (q : ES) (fc : Nat → Nat) (y s : Nat) : Int := Wv g n q fc y s - zb (decide (fc (tw s) = y))
theorem key_lt2 (s : Nat) : key n g q s < 2 * (n + 1) := by
  unfold key
  have := srk_le n g (sgm q s)
  rcases (show s % 2 = 0 ∨ s % 2 = 1 by omega) with z | z <;> rw [z] <;> omega
theorem tw_e (e : Nat) : tw (2 * e) = 2 * e + 1 := by unfold tw; rw [if_pos (by omega)]
theorem tw_o (e : Nat) : tw (2 * e + 1) = 2 * e := by unfold tw; rw [if_neg (by omega)]; omega
theorem cval_edge (hg : gOk n g) (hE : EOk g (vI g n).2 n (vI g n).1 q) (hk : ∀ s t, s < 2 * q.1 → t < 2 * q.1 → bg q s = bg q t → key n g q s = key n g q t → s = t) {fc : Nat → Nat} (hf : ∀ s, s < 2 * q.1 → fc (nxt n g q s) = fc s) (y : Nat) {e : Nat} (he : e < q.1) : cval g n q fc y (2 * e + 1) = cval g n q fc y (2 * e) := by
  unfold cval
  rw [wE hg hE hk hf y he, tw_e, tw_o]
  unfold phi
  omega
/-- the side before t, where one before it is there -/
theorem below_pred (hk : ∀ s t, s < 2 * q.1 → t < 2 * q.1 → bg q s = bg q t → key n g q s = key n g q t → s = t) {t : Nat} (ht : t < 2 * q.1) {s0 : Nat} (h0 : s0 < 2 * q.1) (hb0 : bg q s0 = bg q t) (hl0 : key n g q s0 < key n g q t) :
    below n g q t < 2 * q.1 ∧ bg q (below n g q t) = bg q t ∧ key n g q (below n g q t) < key n g q t ∧ ∀ s, s < 2 * q.1 → bg q s = bg q t → key n g q s < key n g q t → key n g q s ≤ key n g q (below n g q t) := by
  obtain ⟨a1, a2, a3, a4⟩ := scn_max n g q t (2 * q.1)
  have hr := below_lt (n := n) (g := g) ht
  have c1 : ckey n g q t s0 ≤ ckey n g q t (below n g q t) := a4 s0 h0 hb0
  have d0 := key_lt2 (n := n) (g := g) (q := q) s0
  have d1 := key_lt2 (n := n) (g := g) (q := q) (below n g q t)
  have hlt : key n g q (below n g q t) < key n g q t := by
    unfold ckey at c1
    rw [if_pos hl0] at c1
    split at c1 <;> omega
  refine ⟨hr, a1, hlt, fun s hs hb hl => ?_⟩
  have c2 : ckey n g q t s ≤ ckey n g q t (below n g q t) := a4 s hs hb
  unfold ckey at c2
  rw [if_pos hl, if_pos hlt] at c2
  omega
theorem fc_below {fc : Nat → Nat} (hf : ∀ s, s < 2 * q.1 → fc (nxt n g q s) = fc s) {s : Nat} (hs : s < 2 * q.1) : fc (tw s) = fc (below n g q s) := by
  have := hf (tw s) (tw_lt hs)
  unfold nxt at this
  rw [tw_tw] at this
  exact this.symm
theorem cval_step (hk : ∀ s t, s < 2 * q.1 → t < 2 * q.1 → bg q s = bg q t → key n g q s = key n g q t → s = t) {fc : Nat → Nat} (hf : ∀ s, s < 2 * q.1 → fc (nxt n g q s) = fc s) (y : Nat) {t : Nat} (ht : t < 2 * q.1) {s0 : Nat} (h0 : s0 < 2 * q.1) (hb0 : bg q s0 = bg q t) (hl0 : key n g q s0 < key n g q t) : cval g n q fc y t = cval g n q fc y (below n g q t) := by
  obtain ⟨b1, b2, b3, b4⟩ := below_pred hk ht h0 hb0 hl0
  have e1 : zsm (fun s' => xsi fc y s' * zb (decide (bg q s' = bg q t) && decide (key n g q s' < key n g q t))) (2 * q.1) = zsm (fun s' => xsi fc y s' * zb (decide (bg q s' = bg q t) && decide (key n g q s' < key n g q (below n g q t)))) (2 * q.1) + xsi fc y (below n g q t) := by
    have h1 : xsi fc y (below n g q t) = zsm (fun s' => xsi fc y s' * zb (decide (s' = below n g q t))) (2 * q.1) := by
      rw [zsm_one b1 (fun i _ hne => by rw [decide_eq_false hne, zb_f, Int.mul_zero]), decide_eq_true rfl, zb_t, Int.mul_one]
    rw [h1, ← zsm_add]
    refine zsm_congr (fun s hs => ?_)
    show xsi fc y s * zb (decide (bg q s = bg q t) && decide (key n g q s < key n g q t)) = xsi fc y s * zb (decide (bg q s = bg q t) && decide (key n g q s < key n g q (below n g q t))) + xsi fc y s * zb (decide (s = below n g q t))
    rw [← Int.mul_add]
    congr 1
    by_cases hb : bg q s = bg q t
    · rw [decide_eq_true hb, Bool.true_and, Bool.true_and]
      by_cases he : s = below n g q t
      · rw [decide_eq_true he, he, decide_eq_true b3, decide_eq_false (Nat.lt_irrefl _)]; rfl
      · rw [decide_eq_false he]
        have hne : key n g q s ≠ key n g q (below n g q t) := fun w => he (hk s _ hs b1 (by rw [hb, b2]) w)
        by_cases hl : key n g q s < key n g q t
        · have := b4 s hs hb hl
          rw [decide_eq_true hl, decide_eq_true (show key n g q s < key n g q (below n g q t) by omega)]; rfl
        · rw [decide_eq_false hl, decide_eq_false (show ¬ key n g q s < key n g q (below n g q t) by omega)]; rfl
    · rw [decide_eq_false hb, decide_eq_false (show ¬ s = below n g q t from fun w => hb (by rw [w]; exact b2))]; rfl
  unfold cval Wv
  rw [e1, b2, fc_below hf ht]
  unfold xsi
  omega
theorem cval_low (hk : ∀ s t, s < 2 * q.1 → t < 2 * q.1 → bg q s = bg q t → key n g q s = key n g q t → s = t) {fc : Nat → Nat} (hf : ∀ s, s < 2 * q.1 → fc (nxt n g q s) = fc s) (y : Nat) {lo : Nat} (hlo : lo < 2 * q.1) (hmin : ∀ s, s < 2 * q.1 → bg q s = bg q lo → key n g q lo ≤ key n g q s) :
    ∀ (K t : Nat), key n g q t < K → t < 2 * q.1 → bg q t = bg q lo → cval g n q fc y t = cval g n q fc y lo := by
  intro K
  induction K with
  | zero => intro t h; omega
  | succ K ih =>
    intro t hK ht hb
    by_cases hl : key n g q lo < key n g q t
    · obtain ⟨b1, b2, b3, b4⟩ := below_pred hk ht hlo hb.symm hl
      rw [cval_step hk hf y ht hlo hb.symm hl]
      exact ih _ (by omega) b1 (b2.trans hb)
    · have := hmin t ht hb
      rw [hk t lo ht hlo hb (by omega)]
theorem has_lo {v : Nat} (h : ∃ t, t < 2 * q.1 ∧ bg q t = v) : ∃ lo, lo < 2 * q.1 ∧ bg q lo = v ∧ ∀ s, s < 2 * q.1 → bg q s = v → key n g q lo ≤ key n g q s := by
  obtain ⟨K, ⟨t, t1, t2, t3⟩, hK⟩ := pk_least (fun K => ∃ t, t < 2 * q.1 ∧ bg q t = v ∧ key n g q t = K) (by obtain ⟨t, t1, t2⟩ := h; exact ⟨_, t, t1, t2, rfl⟩)
  refine ⟨t, t1, t2, fun s hs hb => ?_⟩
  rcases Nat.lt_or_ge (key n g q s) (key n g q t) with z | z
  · exact absurd ⟨s, hs, hb, rfl⟩ (hK _ (by omega))
  · exact z
theorem cval_at (hk : ∀ s t, s < 2 * q.1 → t < 2 * q.1 → bg q s = bg q t → key n g q s = key n g q t → s = t) {fc : Nat → Nat} (hf : ∀ s, s < 2 * q.1 → fc (nxt n g q s) = fc s) (y : Nat) {s t : Nat} (hs : s < 2 * q.1) (ht : t < 2 * q.1) (hb : bg q s = bg q t) : cval g n q fc y s = cval g n q fc y t := by
  obtain ⟨lo, l1, l2, l3⟩ := has_lo (n := n) (g := g) (q := q) (v := bg q s) ⟨s, hs, rfl⟩
  rw [cval_low hk hf y l1 (fun u hu hbu => l3 u hu (hbu.trans l2)) _ s (Nat.lt_succ_self _) hs l2.symm, cval_low hk hf y l1 (fun u hu hbu => l3 u hu (hbu.trans l2)) _ t (Nat.lt_succ_self _) ht (hb.symm.trans l2.symm)]
/-- one number for a vertex -/
noncomputable def cV (g : Nat → Sg) (n : Nat) (q : ES) (fc : Nat → Nat) (y v : Nat) : Int := cval g n q fc y (Classical.epsilon (fun t => t < 2 * q.1 ∧ bg q t = v))
theorem cV_at (hk : ∀ s t, s < 2 * q.1 → t < 2 * q.1 → bg q s = bg q t → key n g q s = key n g q t → s = t) {fc : Nat → Nat} (hf : ∀ s, s < 2 * q.1 → fc (nxt n g q s) = fc s) (y : Nat) {s : Nat} (hs : s < 2 * q.1) : cV g n q fc y (bg q s) = cval g n q fc y s := by
  have h := Classical.epsilon_spec (p := fun t => t < 2 * q.1 ∧ bg q t = bg q s) ⟨s, hs, rfl⟩
  exact cval_at hk hf y h.1 hs h.2
theorem cV_conn (hg : gOk n g) (hE : EOk g (vI g n).2 n (vI g n).1 q) (hk : ∀ s t, s < 2 * q.1 → t < 2 * q.1 → bg q s = bg q t → key n g q s = key n g q t → s = t) {fc : Nat → Nat} (hf : ∀ s, s < 2 * q.1 → fc (nxt n g q s) = fc s) (y : Nat) {v w : Nat} (h : conn q v w) : cV g n q fc y v = cV g n q fc y w :=
  h (fun a b => cV g n q fc y a = cV g n q fc y b) (fun _ => rfl) (fun _ _ h => h.symm) (fun _ _ _ h1 h2 => h1.trans h2) (fun e he => by
    rw [← bg_e (q := q) e, ← bg_o (q := q) e, cV_at hk hf y (by omega), cV_at hk hf y (by omega)]
    exact (cval_edge hg hE hk hf y he).symm)
/-- o is the highest edge under p, just beside it -/
def topE (L : Bool) (g : Nat → Sg) (n : Nat) (q : ES) (p : Pt) (o : Option Nat) : Prop := match o with
  | none => ∀ e, e < q.1 → unP L g n q p e = false
  | some e => e < q.1 ∧ unP L g n q p e = true ∧ ∀ e', e' < q.1 → unP L g n q p e' = true → e' = e ∨ lowB L (gE g q e') (gE g q e) p.1 = true
def fcO (fc : Nat → Nat) (o : Option Nat) : Nat := match o with
  | none => 0
  | some e => fc (2 * e)
theorem dwn_top (hg : gOk n g) (hE : EOk g (vI g n).2 n (vI g n).1 q) (hk : ∀ s t, s < 2 * q.1 → t < 2 * q.1 → bg q s = bg q t → key n g q s = key n g q t → s = t) {fc : Nat → Nat} (hf : ∀ s, s < 2 * q.1 → fc (nxt n g q s) = fc s) (y : Nat) {L : Bool} {p : Pt} {e : Nat} (h : topE L g n q p (some e)) :
    dwn L g n q fc y p = zb (decide (fc (2 * e) = y)) + cval g n q fc y (2 * e) := by
  obtain ⟨he, h1, h2⟩ := h
  have hsp := (Bool.and_eq_true_iff.mp h1).1
  have hd := sp_wide hg hE he hsp
  obtain ⟨w1, w2, w3⟩ := e_wide hg hE he hd
  have hW : zsm (fun e' => phi fc y e' * zb (unE L g n q e p.1 e')) q.1 = Wv g n q fc y (2 * e) := by
    rw [wF hg hE y he hd]
    cases L
    · obtain ⟨s1, s2⟩ := spB_R.mp hsp
      rw [← mv_sum hg hE hk hf y he hd s2 s1 Rat.le_refl, mv_sum hg hE hk hf y he hd w1 Rat.le_refl Rat.le_refl]
    · obtain ⟨s1, s2⟩ := spB_L.mp hsp
      exact mv_sum hg hE hk hf y he hd s1 Rat.le_refl s2
  have hone : phi fc y e = zsm (fun e' => phi fc y e' * zb (decide (e' = e))) q.1 := by
    rw [zsm_one he (fun i _ hne => by rw [decide_eq_false hne, zb_f, Int.mul_zero]), decide_eq_true rfl, zb_t, Int.mul_one]
  have hsum : dwn L g n q fc y p = phi fc y e + zsm (fun e' => phi fc y e' * zb (unE L g n q e p.1 e')) q.1 := by
    rw [hone, ← zsm_add]
    unfold dwn
    refine zsm_congr (fun e' he' => ?_)
    show phi fc y e' * zb (unP L g n q p e') = phi fc y e' * zb (decide (e' = e)) + phi fc y e' * zb (unE L g n q e p.1 e')
    rw [← Int.mul_add]
    congr 1
    by_cases hee : e' = e
    · subst hee
      rw [h1, decide_eq_true rfl]
      unfold unE
      rw [lowB_irr, Bool.and_false]; rfl
    · rw [decide_eq_false hee]
      have : unP L g n q p e' = unE L g n q e p.1 e' := by
        rw [Bool.eq_iff_iff]
        constructor
        · intro w
          have := (h2 e' he' w).resolve_left hee
          unfold unE
          rw [(Bool.and_eq_true_iff.mp w).1, this]; rfl
        · intro w
          obtain ⟨x1, x2⟩ := Bool.and_eq_true_iff.mp w
          have h3 := of_decide_eq_true (Bool.and_eq_true_iff.mp h1).2
          unfold unP
          rw [x1, Bool.true_and, decide_eq_true_eq]
          unfold lowB at x2
          rw [Bool.or_eq_true, Bool.and_eq_true, decide_eq_true_eq, decide_eq_true_eq] at x2
          rcases x2 with x2 | ⟨x2, -⟩
          · grind
          · rw [x2]; exact h3
      rw [this, zb_f, Int.zero_add]
  rw [hsum, hW]
  unfold cval phi
  rw [tw_e]
  omega
/-- at a vertex where no edge ends, the highest side is before the lowest -/
theorem root_top (hg : gOk n g) (hE : EOk g (vI g n).2 n (vI g n).1 q) (hk : ∀ s t, s < 2 * q.1 → t < 2 * q.1 → bg q s = bg q t → key n g q s = key n g q t → s = t) {v : Nat} (hev : ∀ s, s < 2 * q.1 → bg q s = v → s % 2 = 0) (hsd : ∃ t, t < 2 * q.1 ∧ bg q t = v) :
    (∀ s, s < 2 * q.1 → bg q s = v → key n g q s ≤ key n g q (hiv g q v)) ∧ ∀ lo, lo < 2 * q.1 → bg q lo = v → (∀ s, s < 2 * q.1 → bg q s = v → key n g q lo ≤ key n g q s) → below n g q lo = hiv g q v := by
  obtain ⟨i1, i2, i3⟩ := hiv_ok (g := g) hsd
  have inv : ∀ j, j ≤ 2 * q.1 → ∀ s, s < j → bg q s = v → ∃ f, hiO g q v j = some f ∧ key n g q s ≤ key n g q f := by
    intro j
    induction j with
    | zero => intro _ s h; omega
    | succ j ih =>
      intro hj s hs hb
      rw [hiO]
      by_cases hc : bg q j = v ∧ hiB g q (hiO g q v j) j = true
      · rw [if_pos hc]
        refine ⟨j, rfl, ?_⟩
        rcases Nat.lt_or_ge s j with z | z
        · obtain ⟨f, f1, f2⟩ := ih (by omega) s z hb
          have hf := hiO_lt g q v j f f1
          rw [f1] at hc
          have hw : 0 < wc g q f j := of_decide_eq_true hc.2
          have p1 := hev f (by omega) hf.2
          have p2 := hev j (by omega) hc.1
          have := ((wc_sign (q := q) hg.1 (hE.1 (f / 2) (by omega)).1 (hE.1 (j / 2) (by omega)).1).2).mp hw
          rw [if_pos (by omega)] at this
          unfold key at f2 ⊢
          rw [p1] at f2
          rw [p2]
          omega
        · have : s = j := by omega
          subst this; exact Nat.le_refl _
      · rw [if_neg hc]
        rcases Nat.lt_or_ge s j with z | z
        · exact ih (by omega) s z hb
        · have e : s = j := by omega
          subst e
          cases ho : hiO g q v s with
          | none => exact absurd ⟨hb, by rw [ho]; rfl⟩ hc
          | some f =>
            have hf := hiO_lt g q v s f ho
            refine ⟨f, rfl, ?_⟩
            have hw : ¬ 0 < wc g q f s := fun w => hc ⟨hb, by rw [ho]; exact decide_eq_true w⟩
            have p1 := hev f (by omega) hf.2
            have p2 := hev s (by omega) hb
            have := mt ((wc_sign (q := q) hg.1 (hE.1 (f / 2) (by omega)).1 (hE.1 (s / 2) (by omega)).1).2).mpr hw
            rw [if_pos (by omega)] at this
            unfold key
            rw [p1, p2]
            omega
  have hmax : ∀ s, s < 2 * q.1 → bg q s = v → key n g q s ≤ key n g q (hiv g q v) := by
    intro s hs hb
    obtain ⟨f, f1, f2⟩ := inv (2 * q.1) (Nat.le_refl _) s hs hb
    rw [i1] at f1
    cases f1
    exact f2
  refine ⟨hmax, fun lo hlo hb hmin => ?_⟩
  obtain ⟨a1, a2, a3, a4⟩ := scn_max n g q lo (2 * q.1)
  have hr := below_lt (n := n) (g := g) hlo
  have c1 : ckey n g q lo (hiv g q v) ≤ ckey n g q lo (below n g q lo) := a4 _ i2 (i3.trans hb.symm)
  have c2 := hmax _ hr (a1.trans hb)
  have c3 := hmin _ hr (a1.trans hb)
  have c4 := hmin _ i2 i3
  unfold ckey at c1
  rw [if_neg (by omega), if_neg (by omega)] at c1
  exact hk _ _ hr i2 ((a1.trans hb).trans i3.symm) (by omega)
/-- the sum at every vertex, out of the roots -/
theorem cV_all (hg : gOk n g) (hE : EOk g (vI g n).2 n (vI g n).1 q) (hk : ∀ s t, s < 2 * q.1 → t < 2 * q.1 → bg q s = bg q t → key n g q s = key n g q t → s = t) (hsd : ∀ v, v < (vI g n).1 → ∃ t, t < 2 * q.1 ∧ bg q t = v) {fc : Nat → Nat} (hf : ∀ s, s < 2 * q.1 → fc (nxt n g q s) = fc s) {root : Nat → Nat} (hr : rootOk q (vI g n).1 root) (hro : ∀ v, v < (vI g n).1 → root v = v → ∃ o, topE true g n q ((vI g n).2 v) o ∧ fc (hiv g q v) = fcO fc o) (y : Nat) :
    ∀ v, v < (vI g n).1 → root v = v → cV g n q fc y v = -zb (decide (0 = y)) := by
  intro v
  induction v using Nat.strongRecOn with
  | ind v ih =>
    intro hv hrv
    have hnoT : ∀ e, e < q.1 → eT q e ≠ v := by
      intro e he hT
      have h1 := hr.2.2 e he
      rw [hT, hrv] at h1
      have h2 := hr.1 _ (eF_lt hE he).1
      have h3 := (hE.1 e he).2.2.1
      omega
    have hev : ∀ s, s < 2 * q.1 → bg q s = v → s % 2 = 0 := by
      intro s hs hb
      rcases (show s % 2 = 0 ∨ s % 2 = 1 by omega) with z | z
      · exact z
      · exfalso
        unfold bg at hb
        rw [if_neg (by omega)] at hb
        exact hnoT _ (by omega) hb
    obtain ⟨lo, l1, l2, l3⟩ := has_lo (n := n) (g := g) (hsd v hv)
    obtain ⟨-, hbel⟩ := root_top hg hE hk hev (hsd v hv)
    have e1 : cV g n q fc y v = dwn false g n q fc y ((vI g n).2 v) - zb (decide (fc (hiv g q v) = y)) := by
      rw [← l2, cV_at hk hf y l1]
      unfold cval Wv
      rw [fc_below hf l1, hbel lo l1 l2 l3, l2, zsm_0 (fun s hs => ?_)]
      · omega
      · by_cases z : bg q s = v
        · have := l3 s hs z
          rw [decide_eq_false (show ¬ key n g q s < key n g q lo by omega), Bool.and_false, zb_f, Int.mul_zero]
        · rw [decide_eq_false z, Bool.false_and, zb_f, Int.mul_zero]
    have e2 : dwn false g n q fc y ((vI g n).2 v) = dwn true g n q fc y ((vI g n).2 v) := by
      have h := dn_sum hg hE hk hf y ((vI g n).2 v)
      rw [zsm_0 (f := fun e' => phi fc y e' * zb (vtP g n q ((vI g n).2 v) e')) (fun e he => by
        show phi fc y e * zb (vtP g n q ((vI g n).2 v) e) = 0
        rw [vtP_at hg hE hv he, decide_eq_false (hnoT e he), Bool.and_false, zb_f, Int.mul_zero])] at h
      omega
    obtain ⟨o, o1, o2⟩ := hro v hv hrv
    rw [e1, e2, o2]
    cases o with
    | none =>
      have : dwn true g n q fc y ((vI g n).2 v) = 0 := zsm_0 (fun e he => by
        show phi fc y e * zb (unP true g n q ((vI g n).2 v) e) = 0
        rw [o1 e he, zb_f, Int.mul_zero])
      rw [this]
      show 0 - zb (decide (0 = y)) = _
      omega
    | some e =>
      have h1 := dwn_top hg hE hk hf y o1
      obtain ⟨he, h2, -⟩ := o1
      have hlt : eF q e < v := by
        have hs := (spB_L.mp (Bool.and_eq_true_iff.mp h2).1).1
        have hso := (vI_good hg.1 n (Nat.le_refl _)).1
        rcases Nat.lt_trichotomy (eF q e) v with z | z | z
        · exact z
        · subst z; exact absurd hs Rat.lt_irrefl
        · have := hso _ _ z (eF_lt hE he).1
          exact absurd (Or.inl hs) (ltV_asymm this)
      have hF := (eF_lt hE he).1
      have hrF := hr.1 _ hF
      have hcn := hr.2.1 _ hF
      have hrr : root (root (eF q e)) = root (eF q e) := (root_conn hr hcn).symm
      have h3 := ih (root (eF q e)) (by omega) (by omega) hrr
      rw [← cV_conn hg hE hk hf y hcn, ← bg_e, cV_at hk hf y (by omega)] at h3
      rw [h1, h3]
      show zb (decide (fc (2 * e) = y)) + -zb (decide (0 = y)) - zb (decide (fc (2 * e) = y)) = _
      omega
theorem dwn_face (hg : gOk n g) (hE : EOk g (vI g n).2 n (vI g n).1 q) (hk : ∀ s t, s < 2 * q.1 → t < 2 * q.1 → bg q s = bg q t → key n g q s = key n g q t → s = t) (hsd : ∀ v, v < (vI g n).1 → ∃ t, t < 2 * q.1 ∧ bg q t = v) {fc : Nat → Nat} (hf : ∀ s, s < 2 * q.1 → fc (nxt n g q s) = fc s) {root : Nat → Nat} (hr : rootOk q (vI g n).1 root) (hro : ∀ v, v < (vI g n).1 → root v = v → ∃ o, topE true g n q ((vI g n).2 v) o ∧ fc (hiv g q v) = fcO fc o) (y : Nat) {L : Bool} {p : Pt} {o : Option Nat} (h : topE L g n q p o) :
    dwn L g n q fc y p = zb (decide (fcO fc o = y)) - zb (decide (0 = y)) := by
  cases o with
  | none =>
    have : dwn L g n q fc y p = 0 := zsm_0 (fun e he => by
      show phi fc y e * zb (unP L g n q p e) = 0
      rw [h e he, zb_f, Int.mul_zero])
    rw [this]
    show 0 = zb (decide (0 = y)) - zb (decide (0 = y))
    omega
  | some e =>
    rw [dwn_top hg hE hk hf y h]
    have hF := (eF_lt hE h.1).1
    have hrF := hr.1 _ hF
    have hcn := hr.2.1 _ hF
    have hrr : root (root (eF q e)) = root (eF q e) := (root_conn hr hcn).symm
    have h3 := cV_all hg hE hk hsd hf hr hro y (root (eF q e)) (by omega) hrr
    have he := h.1
    rw [← cV_conn hg hE hk hf y hcn, ← bg_e, cV_at hk hf y (by omega)] at h3
    rw [h3]
    show _ = zb (decide (fc (2 * e) = y)) - _
    omega
/-- left and right of a point off all segments: the same face -/
theorem left_right (hg : gOk n g) (hE : EOk g (vI g n).2 n (vI g n).1 q) (hk : ∀ s t, s < 2 * q.1 → t < 2 * q.1 → bg q s = bg q t → key n g q s = key n g q t → s = t) (hsd : ∀ v, v < (vI g n).1 → ∃ t, t < 2 * q.1 ∧ bg q t = v) {fc : Nat → Nat} (hf : ∀ s, s < 2 * q.1 → fc (nxt n g q s) = fc s) {root : Nat → Nat} (hr : rootOk q (vI g n).1 root) (hro : ∀ v, v < (vI g n).1 → root v = v → ∃ o, topE true g n q ((vI g n).2 v) o ∧ fc (hiv g q v) = fcO fc o) {p : Pt} (hp : ∀ i, i < n → ¬ onS (g i) p) {o o' : Option Nat} (h : topE true g n q p o) (h' : topE false g n q p o') : fcO fc o = fcO fc o' := by
  have h1 := dwn_face hg hE hk hsd hf hr hro (fcO fc o) h
  have h2 := dwn_face hg hE hk hsd hf hr hro (fcO fc o) h'
  have h3 := dn_sum hg hE hk hf (fcO fc o) p
  rw [zsm_0 (f := fun e' => phi fc (fcO fc o) e' * zb (vtP g n q p e')) (fun e he => by
    show phi fc (fcO fc o) e * zb (vtP g n q p e) = 0
    rw [vtP_off hg hE hp he, zb_f, Int.mul_zero])] at h3
  rw [decide_eq_true rfl, zb_t] at h1
  have h4 : zb (decide (fcO fc o' = fcO fc o)) = 1 := by omega
  by_cases z : fcO fc o' = fcO fc o
  · exact z.symm
  · rw [decide_eq_false z] at h4; cases h4
end CVL
