/-! ### The faces: their first vertices and their sides -/
section FAC
variable {n : Nat} {g : Nat → Sg} {q : ES} {rd root lo ou : Nat → Nat} {c : Nat}
theorem fo_pos (h : FH n g q root rd c lo ou) {u : Nat} (hu : u < c) (ha : arF n g q root rd u = false) : 0 < foF n g q root rd c lo ou u := by
  rw [fo_num u ha, num_bfr h hu]; omega
theorem lo_le (h : FH n g q root rd c lo ou) {s : Nat} (hs : s < 2 * q.1) : lo (rd s) ≤ bg q s :=
  ((h.2.2.2.2.2.2.2.2 (rd s) (h.2.2.2.2.2.1 s hs)).2.2.2 s hs rfl).1
/-- no side of a face begins ahead of its first vertex -/
theorem face_low (h : FH n g q root rd c lo ou) {u : Nat} (hu : u < c) (ha : arF n g q root rd u = false) : ∀ (K s : Nat), lo (rd s) < K → s < 2 * q.1 → foF n g q root rd c lo ou (rd s) = foF n g q root rd c lo ou u → lo u ≤ bg q s := by
  intro K
  induction K with
  | zero => intro s hK; omega
  | succ K ih =>
    intro s hK hs e
    have hr := h.2.2.2.2.2.1 s hs
    have hlo := lo_le h hs
    cases har : arF n g q root rd (rd s)
    · have := fo_inj h hr hu har ha e
      rw [this] at hlo; exact hlo
    · obtain ⟨a1, a2, a3⟩ := ar_root h hr har
      obtain ⟨o, ho, -⟩ := ref_top h.1 h.2.1 true ((vI g n).2 (lo (rd s)))
      have h1 := fo_root h a1 a2 ho
      rw [← a3, e] at h1
      have hp := fo_pos h hu ha
      cases o with
      | none => 
        have h1 : foF n g q root rd c lo ou u = 0 := h1
        omega
      | some e0 =>
        have h1 : foF n g q root rd c lo ou u = foF n g q root rd c lo ou (rd (2 * e0)) := h1
        have hlt := un_lt h ho.1 ho.2.1
        have h2 := lo_le h (show 2 * e0 < 2 * q.1 by have := ho.1; omega)
        rw [bg_e] at h2
        have h3 := ih (2 * e0) (by omega) (by have := ho.1; omega) h1.symm
        rw [bg_e] at h3
        omega
theorem face_from (h : FH n g q root rd c lo ou) {u : Nat} (hu : u < c) (ha : arF n g q root rd u = false) {e : Nat} (he : e < q.1) (hf : foF n g q root rd c lo ou (rd (2 * e)) = foF n g q root rd c lo ou u ∨ foF n g q root rd c lo ou (rd (2 * e + 1)) = foF n g q root rd c lo ou u) : lo u ≤ eF q e := by
  rcases hf with hf | hf
  · have := face_low h hu ha _ (2 * e) (Nat.lt_succ_self _) (by omega) hf
    rw [bg_e] at this; exact this
  · have hn := nxt_lt (n := n) (g := g) (show 2 * e + 1 < 2 * q.1 by omega)
    have := face_low h hu ha _ (nxt n g q (2 * e + 1)) (Nat.lt_succ_self _) hn (by rw [fo_nxt h _ (by omega)]; exact hf)
    rw [nxt_bg, tw_o, bg_e] at this; exact this
theorem face_has (h : FH n g q root rd c lo ou) {u : Nat} (hu : u < c) : ou u / 2 < q.1 ∧ eF q (ou u / 2) = lo u ∧ rd (2 * (ou u / 2)) = u := by
  obtain ⟨b1, b2, b3, -⟩ := h.2.2.2.2.2.2.2.2 u hu
  have hev := ou_even h hu
  have e1 : 2 * (ou u / 2) = ou u := by omega
  refine ⟨by omega, ?_, by rw [e1]; exact b2⟩
  rw [← bg_e, e1]; exact b3
theorem face_ord (h : FH n g q root rd c lo ou) {u w : Nat} (hu : u < c) (hw : w < c) (au : arF n g q root rd u = false) (aw : arF n g q root rd w = false) (e : foF n g q root rd c lo ou u ≤ foF n g q root rd c lo ou w) : lo u ≤ lo w := by
  rcases Nat.lt_or_ge (lo w) (lo u) with z | z
  · exfalso
    have hb : bfr n g q lo ou w u = true := by
      unfold bfr
      rw [decide_eq_true z]; rfl
    have := bfr_lt (n := n) (g := g) (q := q) (root := root) (rd := rd) hw aw hb
    rw [fo_num u au, fo_num w aw, num_bfr h hu, num_bfr h hw] at e
    omega
  · exact z
theorem tw_bg (h : FH n g q root rd c lo ou) {s : Nat} (hs : s < 2 * q.1) : bg q (tw s) ≠ bg q s := by
  have h1 := (h.2.1.1 (s / 2) (by omega)).2.2.1
  rcases (show s % 2 = 0 ∨ s % 2 = 1 by omega) with y | y
  · have e1 : s = 2 * (s / 2) := by omega
    rw [e1, tw_e, bg_e, bg_o]; omega
  · have e1 : s = 2 * (s / 2) + 1 := by omega
    rw [e1, tw_o, bg_e, bg_o]; omega
/-- a side that is before itself is alone at its vertex -/
theorem alone (hk : ∀ s t, s < 2 * q.1 → t < 2 * q.1 → bg q s = bg q t → key n g q s = key n g q t → s = t) {s : Nat} (hs : s < 2 * q.1) (hb : below n g q s = s) {t : Nat} (ht : t < 2 * q.1) (hbt : bg q t = bg q s) : t = s := by
  have a4 : ckey n g q s t ≤ ckey n g q s (below n g q s) := (scn_max n g q s (2 * q.1)).2.2.2 t ht hbt
  rw [hb] at a4
  have d1 := key_lt2 (n := n) (g := g) (q := q) s
  unfold ckey at a4
  rw [if_neg (Nat.lt_irrefl _)] at a4
  by_cases z : key n g q t < key n g q s
  · rw [if_pos z] at a4; omega
  · rw [if_neg z] at a4
    exact hk t s ht hs hbt (by omega)
/-- a round of two sides goes around a component -/
theorem two_ar (h : FH n g q root rd c lo ou) {e : Nat} (he : e < q.1) (h1 : nxt n g q (2 * e) = 2 * e + 1) (h2 : nxt n g q (2 * e + 1) = 2 * e) : arF n g q root rd (rd (2 * e)) = true := by
  unfold nxt at h1 h2
  rw [tw_e] at h1
  rw [tw_o] at h2
  have hE1 := (h.2.1.1 e he).2.2.1
  have hv := eF_lt h.2.1 he
  have a1 : ∀ t, t < 2 * q.1 → bg q t = eF q e → t = 2 * e := fun t ht hb => alone h.2.2.1 (by omega) h2 ht (by rw [bg_e]; exact hb)
  have a2 : ∀ t, t < 2 * q.1 → bg q t = eT q e → t = 2 * e + 1 := fun t ht hb => alone h.2.2.1 (by omega) h1 ht (by rw [bg_o]; exact hb)
  have hro := h.2.2.2.2.1
  have hle := hro.1 _ hv.1
  have hcn := hro.2.1 _ hv.1
  have hin := hcn (fun a b => (a = eF q e ∨ a = eT q e) ↔ (b = eF q e ∨ b = eT q e)) (fun _ => Iff.rfl) (fun _ _ h => h.symm) (fun _ _ _ h1 h2 => h1.trans h2) (fun i hi => by
    constructor
    · rintro (w | w)
      · have := a1 (2 * i) (by omega) (by rw [bg_e]; exact w)
        have : i = e := by omega
        subst this; exact Or.inr rfl
      · have := a2 (2 * i) (by omega) (by rw [bg_e]; exact w)
        omega
    · rintro (w | w)
      · have := a1 (2 * i + 1) (by omega) (by rw [bg_o]; exact w)
        omega
      · have := a2 (2 * i + 1) (by omega) (by rw [bg_o]; exact w)
        have : i = e := by omega
        subst this; exact Or.inl rfl)
  have hrt : root (eF q e) = eF q e := by
    rcases hin.mp (Or.inl rfl) with w | w
    · exact w
    · omega
  refine arS_iff.mpr ⟨eF q e, hv.1, hrt, ?_⟩
  obtain ⟨b1, b2⟩ := hiv_at h hv.1
  rw [a1 _ b1 b2]
theorem two_edges (h : FH n g q root rd c lo ou) {e e' : Nat} (he : e < q.1) (he' : e' < q.1) (hF : eF q e = eF q e') (hT : eT q e = eT q e') : e = e' := by
  by_cases z : eS q e = eS q e'
  · exact h.2.1.uniq he he' z hF
  · exfalso
    obtain ⟨-, p1, p2, p3⟩ := e_pts h.1 h.2.1 he
    obtain ⟨-, r1, r2, -⟩ := e_pts h.1 h.2.1 he'
    have := one_pt h.1 (h.2.1.1 e he).1 (h.2.1.1 e' he').1 z (p := pF g n q e) (q := pT g n q e) p1 (by unfold pF; rw [hF]; exact r1) p2 (by unfold pT; rw [hT]; exact r2)
    rw [this] at p3
    exact ltV_irr _ p3
theorem three_cnt {P : Nat → Bool} {N a b d : Nat} (ha : a < N) (hb : b < N) (hd : d < N) (pa : P a = true) (pb : P b = true) (pd : P d = true) (hab : a ≠ b) (had : a ≠ d) (hbd : b ≠ d) : 3 ≤ cnt P N := by
  have h1 := cnt_one ha pa
  have h2 := cnt_one (P := fun u => P u && decide (u ≠ a)) hb (by rw [pb, decide_eq_true (show b ≠ a from fun w => hab w.symm)]; rfl)
  have h3 := cnt_one (P := fun u => (P u && decide (u ≠ a)) && decide (u ≠ b)) hd (by rw [pd, decide_eq_true (show d ≠ a from fun w => had w.symm), decide_eq_true (show d ≠ b from fun w => hbd w.symm)]; rfl)
  omega
/-- a face that is bounded has three sides or more -/
theorem face_three (h : FH n g q root rd c lo ou) {u : Nat} (hu : u < c) (ha : arF n g q root rd u = false) : 3 ≤ cnt (fun s => decide (foF n g q root rd c lo ou (rd s) = foF n g q root rd c lo ou u)) (2 * q.1) := by
  obtain ⟨b1, b2, b3, -⟩ := h.2.2.2.2.2.2.2.2 u hu
  obtain ⟨e1, e2, e3⟩ := face_has h hu
  have hev := ou_even h hu
  have n1 := nxt_lt (n := n) (g := g) b1
  have n2 := nxt_lt (n := n) (g := g) n1
  have r1 := h.2.2.2.2.2.2.1 _ b1
  have r2 := h.2.2.2.2.2.2.1 _ n1
  have d1 : ou u ≠ nxt n g q (ou u) := fun w => by
    have := nxt_bg (n := n) (g := g) (q := q) (ou u)
    rw [← w] at this
    exact tw_bg h b1 this.symm
  have d2 : nxt n g q (ou u) ≠ nxt n g q (nxt n g q (ou u)) := fun w => by
    have := nxt_bg (n := n) (g := g) (q := q) (nxt n g q (ou u))
    rw [← w] at this
    exact tw_bg h n1 this.symm
  have d3 : ou u ≠ nxt n g q (nxt n g q (ou u)) := fun w => by
    have w1 : bg q (nxt n g q (ou u)) = bg q (tw (ou u)) := nxt_bg _
    have w2 : bg q (ou u) = bg q (tw (nxt n g q (ou u))) := by
      have := nxt_bg (n := n) (g := g) (q := q) (nxt n g q (ou u))
      rw [← w] at this; exact this
    have hs : ou u = 2 * (ou u / 2) := by omega
    have i1 := (h.2.1.1 (ou u / 2) (by omega)).2.2.1
    have i2 := (h.2.1.1 (nxt n g q (ou u) / 2) (by omega)).2.2.1
    have k1 : bg q (ou u) = eF q (ou u / 2) := by rw [← bg_e, ← hs]
    have k2 : bg q (tw (ou u)) = eT q (ou u / 2) := by rw [← bg_o, ← tw_e, ← hs]
    rcases (show nxt n g q (ou u) % 2 = 0 ∨ nxt n g q (ou u) % 2 = 1 by omega) with y | y
    · have ht : nxt n g q (ou u) = 2 * (nxt n g q (ou u) / 2) := by omega
      have k3 : bg q (nxt n g q (ou u)) = eF q (nxt n g q (ou u) / 2) := by rw [← bg_e, ← ht]
      have k4 : bg q (tw (nxt n g q (ou u))) = eT q (nxt n g q (ou u) / 2) := by rw [← bg_o, ← tw_e, ← ht]
      omega
    · have ht : nxt n g q (ou u) = 2 * (nxt n g q (ou u) / 2) + 1 := by omega
      have k3 : bg q (nxt n g q (ou u)) = eT q (nxt n g q (ou u) / 2) := by rw [← bg_o, ← ht]
      have k4 : bg q (tw (nxt n g q (ou u))) = eF q (nxt n g q (ou u) / 2) := by rw [← bg_e, ← tw_o, ← ht]
      have he := two_edges h (show ou u / 2 < q.1 by omega) (show nxt n g q (ou u) / 2 < q.1 by omega) (by omega) (by omega)
      have t1 : nxt n g q (2 * (ou u / 2)) = 2 * (ou u / 2) + 1 := by rw [← hs]; omega
      have t2 : nxt n g q (2 * (ou u / 2) + 1) = 2 * (ou u / 2) := by rw [← t1, ← hs]; exact w.symm
      have := two_ar h e1 t1 t2
      rw [e3, ha] at this; cases this
  refine three_cnt b1 n1 n2 ?_ ?_ ?_ d1 d3 d2
  · rw [b2]; exact decide_eq_true rfl
  · rw [r1, b2]; exact decide_eq_true rfl
  · rw [r2, r1, b2]; exact decide_eq_true rfl
/-- there are no more components than segments -/
theorem comp_le (h : FH n g q root rd c lo ou) : cnt (fun v => decide (root v = v)) (vI g n).1 ≤ n := by
  have hon : ∀ v, v < (vI g n).1 → ∃ e, e < q.1 ∧ (eF q e = v ∨ eT q e = v) := by
    intro v hv
    obtain ⟨t, t1, t2⟩ := h.2.2.2.1 v hv
    refine ⟨t / 2, by omega, ?_⟩
    unfold bg at t2
    split at t2
    · exact Or.inl t2
    · exact Or.inr t2
  have hro := h.2.2.2.2.1
  -- what lies on one segment belongs together
  have hseg : ∀ (K e e' : Nat), eF q e' < K → e < q.1 → e' < q.1 → eS q e = eS q e' → eF q e ≤ eF q e' → root (eF q e) = root (eF q e') := by
    intro K
    induction K with
    | zero => intro e e' hK; omega
    | succ K ih =>
      intro e e' hK he he' hs hle
      rcases Nat.eq_or_lt_of_le hle with z | z
      · rw [z]
      · obtain ⟨-, -, n1⟩ := h.2.1.1 e he
        obtain ⟨-, -, n2⟩ := h.2.1.1 e' he'
        -- the edge that ends where e' begins
        obtain ⟨d, ⟨d1, d2, d3⟩, d4⟩ := pk_least (fun d => 0 < d ∧ d ≤ eF q e' ∧ onB (g (eS q e')) ((vI g n).2 (eF q e' - d)) = true) ⟨eF q e' - eF q e, by omega, by omega, by rw [show eF q e' - (eF q e' - eF q e) = eF q e by omega, ← hs]; exact n1.2.1⟩
        obtain ⟨x, x1, x2⟩ := h.2.1.2.1 (eS q e') (eF q e' - d) (eF q e') (h.2.1.1 e' he').1 (eF_lt h.2.1 he').1 ⟨by omega, d3, n2.2.1, fun k k1 k2 => by
          cases hk : onB (g (eS q e')) ((vI g n).2 k)
          · rfl
          · exact absurd ⟨by omega, by omega, by rw [show eF q e' - (eF q e' - k) = k by omega]; exact hk⟩ (d4 (eF q e' - k) (by omega))⟩
        have y1 : eS q x = eS q e' := by unfold eS; rw [x2]
        have y2 : eF q x = eF q e' - d := by unfold eF; rw [x2]
        have y3 : eT q x = eF q e' := by unfold eT; rw [x2]
        have hle2 : eF q e ≤ eF q x := by
          rcases Nat.lt_or_ge (eF q x) (eF q e) with w | w
          · exfalso
            refine d4 (eF q e' - eF q e) (by omega) ⟨by omega, by omega, ?_⟩
            rw [show eF q e' - (eF q e' - eF q e) = eF q e by omega, ← hs]; exact n1.2.1
          · exact w
        have h5 := ih e x (by omega) he x1 (hs.trans y1.symm) hle2
        have h6 := hro.2.2 x x1
        rw [y3] at h6
        exact h5.trans h6
  have hsame : ∀ e e', e < q.1 → e' < q.1 → eS q e = eS q e' → root (eF q e) = root (eF q e') := by
    intro e e' he he' hs
    rcases Nat.le_total (eF q e) (eF q e') with z | z
    · exact hseg _ e e' (Nat.lt_succ_self _) he he' hs z
    · exact (hseg _ e' e (Nat.lt_succ_self _) he' he hs.symm z).symm
  have h1 := cnt_into (P := fun v => decide (root v = v)) (Q := fun _ => true) (N := (vI g n).1) (K := n) (fun v => eS q (Classical.epsilon (fun e => e < q.1 ∧ (eF q e = v ∨ eT q e = v)))) (fun v hv _ => by
    have hz := Classical.epsilon_spec (hon v hv)
    exact ⟨(h.2.1.1 _ hz.1).1, rfl⟩) (fun v w hv hw pv pw e => by
    have hz := Classical.epsilon_spec (hon v hv)
    have hz' := Classical.epsilon_spec (hon w hw)
    have e := hsame _ _ hz.1 hz'.1 e
    have a1 : root (eF q (Classical.epsilon (fun e => e < q.1 ∧ (eF q e = v ∨ eT q e = v)))) = root v := by
      rcases hz.2 with y | y
      · rw [y]
      · rw [hro.2.2 _ hz.1, y]
    have a2 : root (eF q (Classical.epsilon (fun e => e < q.1 ∧ (eF q e = w ∨ eT q e = w)))) = root w := by
      rcases hz'.2 with y | y
      · rw [y]
      · rw [hro.2.2 _ hz'.1, y]
    rw [a1, a2, of_decide_eq_true pv, of_decide_eq_true pw] at e
    exact e)
  rw [cnt_true] at h1
  exact h1
end FAC
