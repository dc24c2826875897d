/-! ### The faces of the rounds, at the end -/
section FOS
variable {n : Nat} {g : Nat → Sg} {q : ES} {rd root lo ou : Nat → Nat} {c : Nat}
/-- all that stands of a map -/
def FH (n : Nat) (g : Nat → Sg) (q : ES) (root rd : Nat → Nat) (c : Nat) (lo ou : Nat → Nat) : Prop :=
  gOk n g ∧ EOk g (vI g n).2 n (vI g n).1 q ∧ (∀ s t, s < 2 * q.1 → t < 2 * q.1 → bg q s = bg q t → key n g q s = key n g q t → s = t) ∧ (∀ v, v < (vI g n).1 → ∃ t, t < 2 * q.1 ∧ bg q t = v) ∧ rootOk q (vI g n).1 root ∧ rdOk n g q rd c lo ou
abbrev arF (n : Nat) (g : Nat → Sg) (q : ES) (root rd : Nat → Nat) : Nat → Bool := arS g q rd root (vI g n).1
abbrev foK (n : Nat) (g : Nat → Sg) (q : ES) (root rd : Nat → Nat) (c : Nat) (lo ou : Nat → Nat) (k : Nat) : Nat → Nat := foS n g (vI g n).2 q rd root (numF g q (arF n g q root rd) lo ou c) k
abbrev foF (n : Nat) (g : Nat → Sg) (q : ES) (root rd : Nat → Nat) (c : Nat) (lo ou : Nat → Nat) : Nat → Nat := foK n g q root rd c lo ou (vI g n).1
theorem arS_iff {k u : Nat} : arS g q rd root k u = true ↔ ∃ v, v < k ∧ root v = v ∧ u = rd (hiv g q v) := by
  induction k with
  | zero => exact ⟨(fun h => by cases h), fun ⟨v, h, _⟩ => by omega⟩
  | succ k ih =>
    rw [arS, Bool.or_eq_true, Bool.and_eq_true, decide_eq_true_eq, decide_eq_true_eq, ih]
    constructor
    · rintro (⟨v, h1, h2⟩ | h)
      · exact ⟨v, by omega, h2⟩
      · exact ⟨k, by omega, h⟩
    · rintro ⟨v, h1, h2⟩
      rcases Nat.lt_or_ge v k with z | z
      · exact Or.inl ⟨v, z, h2⟩
      · have : v = k := by omega
        subst this; exact Or.inr h2
theorem rd_conn (h : FH n g q root rd c lo ou) {s t : Nat} (hs : s < 2 * q.1) (ht : t < 2 * q.1) (e : rd s = rd t) : conn q (bg q s) (bg q t) :=
  h.2.2.2.2.2.2.2.1 s t hs ht e (fun a b => conn q (bg q a) (bg q b)) (fun a => conn_r q _) (fun a b => conn_s) (fun a b d => conn_t) (fun z hz => by
    rw [nxt_bg]
    have hc := conn_e (q := q) (show z / 2 < q.1 by omega)
    rcases (show z % 2 = 0 ∨ z % 2 = 1 by omega) with y | y
    · have e1 : z = 2 * (z / 2) := by omega
      rw [e1, tw_e, bg_e, bg_o]
      exact hc
    · have e1 : z = 2 * (z / 2) + 1 := by omega
      rw [e1, tw_o, bg_e, bg_o]
      exact conn_s hc)
theorem hiv_at (h : FH n g q root rd c lo ou) {v : Nat} (hv : v < (vI g n).1) : hiv g q v < 2 * q.1 ∧ bg q (hiv g q v) = v := (hiv_ok (g := g) (h.2.2.2.1 v hv)).2
theorem rd_hiv_inj (h : FH n g q root rd c lo ou) {v w : Nat} (hv : v < (vI g n).1) (hw : w < (vI g n).1) (rv : root v = v) (rw' : root w = w) (e : rd (hiv g q v) = rd (hiv g q w)) : v = w := by
  have h1 := hiv_at h hv
  have h2 := hiv_at h hw
  have hc := rd_conn h h1.1 h2.1 e
  rw [h1.2, h2.2] at hc
  have := root_conn h.2.2.2.2.1 hc
  omega
theorem foK_ar (h : FH n g q root rd c lo ou) {v : Nat} (hv : v < (vI g n).1) (rv : root v = v) : ∀ k, v < k → k ≤ (vI g n).1 → foK n g q root rd c lo ou k (rd (hiv g q v)) = fAv true n g (vI g n).2 q rd (foK n g q root rd c lo ou v) ((vI g n).2 v) := by
  intro k
  induction k with
  | zero => intro hk; omega
  | succ k ih =>
    intro hk hk2
    show foS n g (vI g n).2 q rd root _ (k + 1) (rd (hiv g q v)) = _
    rw [foS]
    by_cases z : v = k
    · subst z
      rw [if_pos ⟨rv, rfl⟩]
    · rw [if_neg (fun w => z (rd_hiv_inj h hv (by omega) rv w.1 w.2))]
      exact ih (by omega) (by omega)
theorem foK_low (h : FH n g q root rd c lo ou) {v e : Nat} (he : e < q.1) (hev : eF q e < v) : ∀ k, v ≤ k → k ≤ (vI g n).1 → foK n g q root rd c lo ou k (rd (2 * e)) = foK n g q root rd c lo ou v (rd (2 * e)) := by
  intro k
  induction k with
  | zero => intro hk; omega
  | succ k ih =>
    intro hk hk2
    rcases Nat.lt_or_ge k v with z | z
    · have : v = k + 1 := by omega
      rw [this]
    · show foS n g (vI g n).2 q rd root _ (k + 1) (rd (2 * e)) = _
      rw [foS, if_neg (fun w => by
        have h2 := hiv_at h (show k < (vI g n).1 by omega)
        have hc := rd_conn h (show 2 * e < 2 * q.1 by omega) h2.1 w.2
        rw [h2.2, bg_e] at hc
        have h3 := root_conn h.2.2.2.2.1 hc
        have h4 := h.2.2.2.2.1.1 _ (eF_lt h.2.1 he).1
        omega)]
      exact ih z (by omega)
theorem un_lt (h : FH n g q root rd c lo ou) {v e : Nat} (he : e < q.1) (hu : unP true g n q ((vI g n).2 v) e = true) : eF q e < v := by
  have hs := (spB_L.mp (Bool.and_eq_true_iff.mp hu).1).1
  have hso := (vI_good h.1.1 n (Nat.le_refl _)).1
  rcases Nat.lt_trichotomy (eF q e) v with z | z | z
  · exact z
  · subst z; exact absurd hs Rat.lt_irrefl
  · have := hso _ _ z (eF_lt h.2.1 he).1
    exact absurd (Or.inl hs) (ltV_asymm this)
theorem fo_root (h : FH n g q root rd c lo ou) {v : Nat} (hv : v < (vI g n).1) (rv : root v = v) {o : Option Nat} (ho : topE true g n q ((vI g n).2 v) o) : foF n g q root rd c lo ou (rd (hiv g q v)) = fcO (fun s => foF n g q root rd c lo ou (rd s)) o := by
  obtain ⟨o', t1, t2⟩ := ref_top h.1 h.2.1 true ((vI g n).2 v)
  have : o = o' := top_uniq ho t1
  subst this
  show foK n g q root rd c lo ou (vI g n).1 (rd (hiv g q v)) = _
  rw [foK_ar h hv rv (vI g n).1 hv (Nat.le_refl _), t2]
  cases o with
  | none => rfl
  | some e =>
    show foK n g q root rd c lo ou v (rd (2 * e)) = foK n g q root rd c lo ou (vI g n).1 (rd (2 * e))
    rw [foK_low h t1.1 (un_lt h t1.1 t1.2.1) (vI g n).1 (by omega) (Nat.le_refl _)]
theorem fo_num (u : Nat) (hu : arF n g q root rd u = false) : foF n g q root rd c lo ou u = numF g q (arF n g q root rd) lo ou c u := by
  have hno : ∀ v, v < (vI g n).1 → ¬ (root v = v ∧ u = rd (hiv g q v)) := fun v hv w => by
    have : arF n g q root rd u = true := arS_iff.mpr ⟨v, hv, w⟩
    rw [hu] at this; cases this
  have key' : ∀ k, k ≤ (vI g n).1 → foK n g q root rd c lo ou k u = numF g q (arF n g q root rd) lo ou c u := by
    intro k
    induction k with
    | zero => intro _; rfl
    | succ k ih =>
      intro hk
      show foS n g (vI g n).2 q rd root _ (k + 1) u = _
      rw [foS, if_neg (hno k (by omega))]
      exact ih (by omega)
  exact key' _ (Nat.le_refl _)
theorem fo_nxt (h : FH n g q root rd c lo ou) (s : Nat) (hs : s < 2 * q.1) : foF n g q root rd c lo ou (rd (nxt n g q s)) = foF n g q root rd c lo ou (rd s) := by
  rw [h.2.2.2.2.2.2.1 s hs]
/-- the face just left of a point off all segments is the face just right of it -/
theorem fAv_lr (h : FH n g q root rd c lo ou) {p : Pt} (hp : ∀ i, i < n → ¬ onS (g i) p) {o : Option Nat} (ho : topE true g n q p o) : fcO (fun s => foF n g q root rd c lo ou (rd s)) o = fAv false n g (vI g n).2 q rd (foF n g q root rd c lo ou) p := by
  obtain ⟨o', t1, t2⟩ := ref_top h.1 h.2.1 false p
  rw [t2]
  exact left_right h.1 h.2.1 h.2.2.1 h.2.2.2.1 (fc := fun s => foF n g q root rd c lo ou (rd s)) (fo_nxt h) h.2.2.2.2.1 (fun v hv rv => by
    obtain ⟨o2, t3, -⟩ := ref_top h.1 h.2.1 true ((vI g n).2 v)
    exact ⟨o2, t3, fo_root h hv rv t3⟩) hp ho t1
/-! the rounds in order -/
theorem ou_even (h : FH n g q root rd c lo ou) {u : Nat} (hu : u < c) : ou u % 2 = 0 := by
  obtain ⟨a1, a2, a3, a4⟩ := h.2.2.2.2.2.2.2.2 u hu
  rcases (show ou u % 2 = 0 ∨ ou u % 2 = 1 by omega) with z | z
  · exact z
  · exfalso
    have hup : eUp q := fun e he => (h.2.1.1 e he).2.2.1
    have h1 := odd_down hup a1 z
    have h2 := (a4 (nxt n g q (ou u)) (nxt_lt a1) (by rw [h.2.2.2.2.2.2.1 _ a1]; exact a2)).1
    rw [nxt_bg] at h2
    omega
def bfr (n : Nat) (g : Nat → Sg) (q : ES) (lo ou : Nat → Nat) (w u : Nat) : Bool := decide (lo w < lo u) || (decide (lo w = lo u) && decide (key n g q (ou w) < key n g q (ou u)))
theorem ahd_bfr (h : FH n g q root rd c lo ou) {w u : Nat} (hw : w < c) (hu : u < c) : ahd g q lo ou w u = bfr n g q lo ou w u := by
  have e1 := ou_even h hw
  have e2 := ou_even h hu
  obtain ⟨a1, -⟩ := h.2.2.2.2.2.2.2.2 w hw
  obtain ⟨b1, -⟩ := h.2.2.2.2.2.2.2.2 u hu
  have hs := (wc_sign (q := q) h.1.1 (h.2.1.1 (ou w / 2) (by omega)).1 (h.2.1.1 (ou u / 2) (by omega)).1).2
  rw [if_pos (by omega)] at hs
  have hk : key n g q (ou w) < key n g q (ou u) ↔ srk n g (sgm q (ou w)) < srk n g (sgm q (ou u)) := by
    unfold key
    rw [e1, e2]; omega
  unfold ahd bfr
  rw [decide_eq_decide.mpr (hs.trans hk.symm)]
theorem num_bfr (h : FH n g q root rd c lo ou) {u : Nat} (hu : u < c) : numF g q (arF n g q root rd) lo ou c u = 1 + cnt (fun w => !arF n g q root rd w && bfr n g q lo ou w u) c := by
  unfold numF
  congr 1
  exact cnt_congr (fun w hw => by rw [ahd_bfr h hw hu])
theorem bfr_tot (h : FH n g q root rd c lo ou) {w u : Nat} (hw : w < c) (hu : u < c) (hne : w ≠ u) : bfr n g q lo ou w u = true ∨ bfr n g q lo ou u w = true := by
  obtain ⟨a1, a2, a3, -⟩ := h.2.2.2.2.2.2.2.2 w hw
  obtain ⟨b1, b2, b3, -⟩ := h.2.2.2.2.2.2.2.2 u hu
  unfold bfr
  rw [Bool.or_eq_true, Bool.or_eq_true, Bool.and_eq_true, Bool.and_eq_true, decide_eq_true_eq, decide_eq_true_eq, decide_eq_true_eq, decide_eq_true_eq, decide_eq_true_eq, decide_eq_true_eq]
  rcases Nat.lt_trichotomy (lo w) (lo u) with z | z | z
  · exact Or.inl (Or.inl z)
  · rcases Nat.lt_trichotomy (key n g q (ou w)) (key n g q (ou u)) with y | y | y
    · exact Or.inl (Or.inr ⟨z, y⟩)
    · exfalso
      have := h.2.2.1 _ _ a1 b1 (by rw [a3, b3, z]) y
      exact hne (by rw [← a2, ← b2, this])
    · exact Or.inr (Or.inr ⟨z.symm, y⟩)
  · exact Or.inr (Or.inl z)
theorem bfr_lt {w u : Nat} (hw : w < c) (ha : arF n g q root rd w = false) (hb : bfr n g q lo ou w u = true) : cnt (fun x => !arF n g q root rd x && bfr n g q lo ou x w) c < cnt (fun x => !arF n g q root rd x && bfr n g q lo ou x u) c := by
  refine cnt_lt (i := w) (fun k hk hp => ?_) hw ?_ ?_
  · rw [Bool.and_eq_true] at hp ⊢
    refine ⟨hp.1, ?_⟩
    have h1 := hp.2
    unfold bfr at h1 hb ⊢
    rw [Bool.or_eq_true, Bool.and_eq_true, decide_eq_true_eq, decide_eq_true_eq, decide_eq_true_eq] at *
    omega
  · have : bfr n g q lo ou w w = false := by
      unfold bfr
      rw [decide_eq_false (Nat.lt_irrefl _), decide_eq_false (Nat.lt_irrefl _), Bool.and_false]; rfl
    rw [this, Bool.and_false]
  · rw [ha, hb]; rfl
/-- faces of rounds that go around no component are apart -/
theorem fo_inj (h : FH n g q root rd c lo ou) {w u : Nat} (hw : w < c) (hu : u < c) (aw : arF n g q root rd w = false) (au : arF n g q root rd u = false) (e : foF n g q root rd c lo ou w = foF n g q root rd c lo ou u) : w = u := by
  apply Classical.byContradiction
  intro hne
  rw [fo_num w aw, fo_num u au, num_bfr h hw, num_bfr h hu] at e
  rcases bfr_tot h hw hu hne with z | z
  · have := bfr_lt (c := c) (root := root) (rd := rd) hw aw z; omega
  · have := bfr_lt (c := c) (root := root) (rd := rd) hu au z; omega
/-- the lowest vertex of a round around a component is its root -/
theorem ar_root (h : FH n g q root rd c lo ou) {u : Nat} (hu : u < c) (ha : arF n g q root rd u = true) : lo u < (vI g n).1 ∧ root (lo u) = lo u ∧ u = rd (hiv g q (lo u)) := by
  obtain ⟨v, h1, h2, h3⟩ := arS_iff.mp ha
  obtain ⟨a1, a2, a3, a4⟩ := h.2.2.2.2.2.2.2.2 u hu
  have hv := hiv_at h h1
  have h4 := (a4 _ hv.1 h3.symm).1
  rw [hv.2] at h4
  have hc := rd_conn h a1 hv.1 (by rw [a2, h3])
  rw [a3, hv.2] at hc
  have h5 := root_conn h.2.2.2.2.1 hc
  have h6 := h.2.2.2.2.1.1 (lo u) (by omega)
  have : lo u = v := by omega
  rw [this]
  exact ⟨h1, h2, h3⟩
theorem root_ev (h : FH n g q root rd c lo ou) {v : Nat} (rv : root v = v) : ∀ s, s < 2 * q.1 → bg q s = v → s % 2 = 0 := by
  intro s hs hb
  rcases (show s % 2 = 0 ∨ s % 2 = 1 by omega) with z | z
  · exact z
  · exfalso
    have he : s / 2 < q.1 := by omega
    unfold bg at hb
    rw [if_neg (by omega)] at hb
    have h1 := h.2.2.2.2.1.2.2 _ he
    rw [hb, rv] at h1
    have h2 := h.2.2.2.2.1.1 _ (eF_lt h.2.1 he).1
    have h3 := (h.2.1.1 _ he).2.2.1
    omega
end FOS
