/-! ### Segments that meet, segments that cover one another, a map with a segment fewer, a map for all segments -/
def on2 (a b c d : Int) : Int := if ltP a b c d then 2 else if a = c ∧ b = d then 1 else 0
theorem onl_on2 (a b : Sg) : onl a b = on2 (if ltP (sX a) (sY a) (sX b) (sY b) then sX b else sX a) (if ltP (sX a) (sY a) (sX b) (sY b) then sY b else sY a) (if ltP (eX a) (eY a) (eX b) (eY b) then eX a else eX b) (if ltP (eX a) (eY a) (eX b) (eY b) then eY a else eY b) := rfl
theorem on2_one {a b c d : Int} (h : on2 a b c d = 1) : a = c ∧ b = d := by
  unfold on2 at h
  split at h
  · cases h
  · split at h
    · next w => exact w
    · cases h
theorem on2_two {a b c d : Int} : on2 a b c d = 2 ↔ ltP a b c d = true := by
  unfold on2
  constructor
  · intro h
    split at h
    · next w => exact w
    · split at h <;> cases h
  · intro h; rw [if_pos h]
theorem on2_pos {a b c d : Int} (h : ¬ ltV ((c : Rat), (d : Rat)) ((a : Rat), (b : Rat))) : 0 < on2 a b c d := by
  rcases ltV_tri ((a : Rat), (b : Rat)) ((c : Rat), (d : Rat)) with w | w | w
  · rw [on2_two.mpr (ltP_V.mpr w)]; decide
  · have w3 := Prod.mk.inj w
    have e1 := Rat.intCast_inj.mp w3.1
    have e2 := Rat.intCast_inj.mp w3.2
    subst e1 e2
    unfold on2
    split
    · decide
    · rw [if_pos ⟨rfl, rfl⟩]; decide
  · exact absurd w h
theorem com_pt {a b : Sg} (ha : sOk a) (hb : sOk b) {p : Pt} (p1 : onS a p) (p2 : onS b p) : 0 < com a b := by
  obtain ⟨l1, s1, e1⟩ := (onS_iff ha p).mp p1
  obtain ⟨l2, s2, e2⟩ := (onS_iff hb p).mp p2
  by_cases h0 : cr a b = 0
  · have hc := par_ct hb h0 l1 l2
    unfold com
    rw [if_pos h0, if_pos hc, onl_on2]
    refine on2_pos ?_
    have k1 : ¬ ltV p (((if ltP (sX a) (sY a) (sX b) (sY b) then sX b else sX a : Int) : Rat), ((if ltP (sX a) (sY a) (sX b) (sY b) then sY b else sY a : Int) : Rat)) := by
      cases ltP (sX a) (sY a) (sX b) (sY b)
      · exact s1
      · exact s2
    have k2 : ¬ ltV (((if ltP (eX a) (eY a) (eX b) (eY b) then eX a else eX b : Int) : Rat), ((if ltP (eX a) (eY a) (eX b) (eY b) then eY a else eY b : Int) : Rat)) p := by
      cases ltP (eX a) (eY a) (eX b) (eY b)
      · exact e2
      · exact e1
    exact leV_tr k1 k2
  · have b1 := onS_bd ha p1
    have b2 := onS_bd hb p2
    unfold com
    rw [if_neg h0]
    have q1 : prt (ct a b b) (cr a b) = true := by
      unfold onL at l1 l2
      rcases b1 with ⟨d, c1, c2⟩ | ⟨d0, d, c1, c2⟩
      · exact prt_of h0 d (by rw [crR, ctR]; grind) c1 c2
      · exact prt_of h0 d (by rw [crR, ctR]; grind) c1 c2
    have q2 : prt (ct a b a) (cr a b) = true := by
      unfold onL at l1 l2
      rcases b2 with ⟨d, c1, c2⟩ | ⟨d0, d, c1, c2⟩
      · exact prt_of h0 d (by rw [crR, ctR]; grind) c1 c2
      · exact prt_of h0 d (by rw [crR, ctR]; grind) c1 c2
    rw [q1, q2]; decide
theorem ltP_rk {x y u v : Int} (h1 : inR x) (h2 : inR y) (h3 : inR u) (h4 : inR v) : ltP x y u v = true ↔ 200 * x + y < 200 * u + v := by
  unfold ltP inR at *
  rw [decide_eq_true_eq]
  omega
/-- one point in common, on one line: where one ends and the other begins -/
theorem onl_one {a b : Sg} (ha : sOk a) (hb : sOk b) (h : onl a b = 1) : pS a = pE b ∨ pS b = pE a := by
  obtain ⟨⟨a1, a2, a3, a4⟩, al⟩ := ha
  obtain ⟨⟨b1, b2, b3, b4⟩, bl⟩ := hb
  have al := (ltP_rk a1 a2 a3 a4).mp al
  have bl := (ltP_rk b1 b2 b3 b4).mp bl
  rw [onl_on2] at h
  obtain ⟨h1, h2⟩ := on2_one h
  cases hs : ltP (sX a) (sY a) (sX b) (sY b) <;> cases he : ltP (eX a) (eY a) (eX b) (eY b) <;> rw [hs, he] at h1 h2
  · left
    have h1 : sX a = eX b := h1
    have h2 : sY a = eY b := h2
    show (((sX a : Int) : Rat), ((sY a : Int) : Rat)) = (((eX b : Int) : Rat), ((eY b : Int) : Rat))
    rw [h1, h2]
  · have h1 : sX a = eX a := h1
    have h2 : sY a = eY a := h2
    omega
  · have h1 : sX b = eX b := h1
    have h2 : sY b = eY b := h2
    omega
  · right
    have h1 : sX b = eX a := h1
    have h2 : sY b = eY a := h2
    show (((sX b : Int) : Rat), ((sY b : Int) : Rat)) = (((eX a : Int) : Rat), ((eY a : Int) : Rat))
    rw [h1, h2]
/-- what the law calls covering -/
def covB (a b : Sg) : Bool := decide (cr a b = 0) && (decide (ct a b a = 0) && (decide (200 * sX a + sY a < 200 * eX b + eY b) && decide (200 * sX b + sY b < 200 * eX a + eY a)))
theorem cov_com {a b : Sg} (ha : sOk a) (hb : sOk b) : covB a b = decide (com a b = 2) := by
  obtain ⟨⟨a1, a2, a3, a4⟩, al⟩ := ha
  obtain ⟨⟨b1, b2, b3, b4⟩, bl⟩ := hb
  have al := (ltP_rk a1 a2 a3 a4).mp al
  have bl := (ltP_rk b1 b2 b3 b4).mp bl
  have ho : onl a b = 2 ↔ 200 * sX a + sY a < 200 * eX b + eY b ∧ 200 * sX b + sY b < 200 * eX a + eY a := by
    have r1 := ltP_rk a1 a2 b1 b2
    have r2 := ltP_rk a3 a4 b3 b4
    rw [onl_on2, on2_two]
    cases hs : ltP (sX a) (sY a) (sX b) (sY b) <;> cases he : ltP (eX a) (eY a) (eX b) (eY b) <;> rw [hs] at r1 <;> rw [he] at r2
    · have n1 : ¬ (200 * sX a + sY a < 200 * sX b + sY b) := fun w => by have := r1.mpr w; cases this
      have n2 : ¬ (200 * eX a + eY a < 200 * eX b + eY b) := fun w => by have := r2.mpr w; cases this
      exact (ltP_rk a1 a2 b3 b4).trans ⟨fun w => ⟨w, by omega⟩, fun w => w.1⟩
    · have n1 : ¬ (200 * sX a + sY a < 200 * sX b + sY b) := fun w => by have := r1.mpr w; cases this
      have n2 := r2.mp rfl
      exact (ltP_rk a1 a2 a3 a4).trans ⟨fun w => ⟨by omega, by omega⟩, fun _ => al⟩
    · have n1 := r1.mp rfl
      have n2 : ¬ (200 * eX a + eY a < 200 * eX b + eY b) := fun w => by have := r2.mpr w; cases this
      exact (ltP_rk b1 b2 b3 b4).trans ⟨fun w => ⟨by omega, by omega⟩, fun _ => bl⟩
    · have n1 := r1.mp rfl
      have n2 := r2.mp rfl
      exact (ltP_rk b1 b2 a3 a4).trans ⟨fun w => ⟨by omega, w⟩, fun w => w.2⟩
  unfold covB com
  by_cases h0 : cr a b = 0
  · rw [if_pos h0, decide_eq_true h0, Bool.true_and]
    by_cases h1 : ct a b a = 0
    · rw [if_pos h1, decide_eq_true h1, Bool.true_and, decide_eq_decide.mpr ho]
      by_cases c1 : 200 * sX a + sY a < 200 * eX b + eY b <;> by_cases c2 : 200 * sX b + sY b < 200 * eX a + eY a
      · rw [decide_eq_true c1, decide_eq_true c2, decide_eq_true (⟨c1, c2⟩ : _ ∧ _)]; rfl
      · rw [decide_eq_true c1, decide_eq_false c2, decide_eq_false (fun w : _ ∧ _ => c2 w.2)]; rfl
      · rw [decide_eq_false c1, decide_eq_false (fun w : _ ∧ _ => c1 w.1)]; rfl
      · rw [decide_eq_false c1, decide_eq_false (fun w : _ ∧ _ => c1 w.1)]; rfl
    · rw [if_neg h1, decide_eq_false h1, Bool.false_and]; rfl
  · rw [if_neg h0, decide_eq_false h0, Bool.false_and]
    split <;> rfl
section MTS
variable {n : Nat} {g : Nat → Sg}
theorem com_n2 (hg : gOk n g) {i j : Nat} (hi : i < n) (hj : j < n) (hij : i ≠ j) : com (g i) (g j) ≠ 2 := by
  rcases Nat.lt_or_ge j i with z | z
  · exact hg.2 i j hi z
  · intro w
    exact hg.2 j i hj (by omega) ((com2_comm (hg.1 i hi) (hg.1 j hj)).mp w)
/-- two segments meet where they share a vertex -/
theorem meet_vx (hg : gOk n g) {i j : Nat} (hi : i < n) (hj : j < n) (hij : i ≠ j) : 0 < com (g i) (g j) ↔ ∃ v, v < (vI g n).1 ∧ onB (g i) ((vI g n).2 v) = true ∧ onB (g j) ((vI g n).2 v) = true := by
  have ha := hg.1 i hi
  have hb := hg.1 j hj
  constructor
  · intro h
    have h1 : com (g i) (g j) = 1 := by
      have := com_n2 hg hi hj hij
      have := com_02 (g i) (g j)
      omega
    by_cases h0 : cr (g i) (g j) = 0
    · have ho : onl (g i) (g j) = 1 := by
        unfold com at h1
        rw [if_pos h0] at h1
        split at h1
        · exact h1
        · cases h1
      rcases onl_one ha hb ho with w | w
      · obtain ⟨a, a1, a2⟩ := (vI_mem (g := g) (p := pS (g i)) n).mpr ⟨i, hi, Or.inl rfl⟩
        exact ⟨a, a1, onB_iff.mpr (by rw [a2]; exact onS_s ha), onB_iff.mpr (by rw [a2, w]; exact onS_e hb)⟩
      · obtain ⟨a, a1, a2⟩ := (vI_mem (g := g) (p := pS (g j)) n).mpr ⟨j, hj, Or.inl rfl⟩
        exact ⟨a, a1, onB_iff.mpr (by rw [a2, w]; exact onS_e ha), onB_iff.mpr (by rw [a2]; exact onS_s hb)⟩
    · obtain ⟨m1, m2⟩ := meet_on ha hb h0 h1
      obtain ⟨a, a1, a2⟩ := two_vert hg hi hj hij m1 m2
      exact ⟨a, a1, onB_iff.mpr (by rw [a2]; exact m1), onB_iff.mpr (by rw [a2]; exact m2)⟩
  · rintro ⟨v, -, h1, h2⟩
    exact com_pt ha hb (onB_iff.mp h1) (onB_iff.mp h2)
theorem inV_rm {x : Nat} (hx : x < n) {p : Pt} (h : inV (vI (rmG x g) (n - 1)) p) : inV (vI g n) p := by
  obtain ⟨i, hi, h⟩ := (vI_mem (n - 1)).mp h
  refine (vI_mem n).mpr ?_
  have hr : ∀ i, ∃ j, rmG x g i = g j ∧ (i < n - 1 → j < n) ∧ j = if i < x then i else i + 1 := fun i => by
    unfold rmG
    by_cases z : i < x
    · rw [if_pos z]; exact ⟨i, rfl, fun _ => by omega, by rw [if_pos z]⟩
    · rw [if_neg z]; exact ⟨i + 1, rfl, fun _ => by omega, by rw [if_neg z]⟩
  obtain ⟨j, j1, j2, j3⟩ := hr i
  refine ⟨j, j2 hi, ?_⟩
  rw [j1] at h
  rcases h with h | h | ⟨k, hk, h⟩
  · exact Or.inl h
  · exact Or.inr (Or.inl h)
  · obtain ⟨m, m1, m2, m3⟩ := hr k
    refine Or.inr (Or.inr ⟨m, by rw [j3, m3]; split <;> split <;> omega, ?_⟩)
    unfold isM at h ⊢
    rw [j1, m1] at h
    exact h
/-- with a segment fewer there are fewer edges -/
theorem rm_edges (hg : gOk n g) {x : Nat} (hx : x < n) : (EE (rmG x g) (n - 1)).1 < (EE g n).1 := by
  have hg' := gOk_rm (x := x) hg
  have hE := eI_ok g (vI g n).2 (vI g n).1 n
  have hE' := eI_ok (rmG x g) (vI (rmG x g) (n - 1)).2 (vI (rmG x g) (n - 1)).1 (n - 1)
  have hr : ∀ i, i < n - 1 → rmG x g i = g (if i < x then i else i + 1) ∧ (if i < x then i else i + 1) < n ∧ (if i < x then i else i + 1) ≠ x := fun i hi => by
    unfold rmG
    by_cases z : i < x
    · rw [if_pos z, if_pos z]; exact ⟨rfl, by omega, by omega⟩
    · rw [if_neg z, if_neg z]; exact ⟨rfl, by omega, by omega⟩
  have hex : ∀ e, e < (EE (rmG x g) (n - 1)).1 → ∃ f, f < (EE g n).1 ∧ eS (EE g n) f = (if eS (EE (rmG x g) (n - 1)) e < x then eS (EE (rmG x g) (n - 1)) e else eS (EE (rmG x g) (n - 1)) e + 1) ∧ (vI g n).2 (eF (EE g n) f) = (vI (rmG x g) (n - 1)).2 (eF (EE (rmG x g) (n - 1)) e) := by
    intro e he
    obtain ⟨h1, h2, h3⟩ := hr _ (hE'.1 e he).1
    obtain ⟨a, a1, a2⟩ := inV_rm hx (p := (vI (rmG x g) (n - 1)).2 (eF (EE (rmG x g) (n - 1)) e)) ⟨_, (eF_lt hE' he).1, rfl⟩
    have o1 := (hE'.1 e he).2.2.2.1
    have n1 := (edge_ne hg' hE' he).1
    rw [h1] at n1
    have o1 : onB (rmG x g (eS (EE (rmG x g) (n - 1)) e)) ((vI (rmG x g) (n - 1)).2 (eF (EE (rmG x g) (n - 1)) e)) = true := o1
    rw [h1] at o1
    obtain ⟨f, f1, f2, f3⟩ := seg_next hg hE h2 a1 (by rw [a2]; exact o1) (by rw [a2]; exact n1)
    exact ⟨f, f1, f2, by rw [show eF (EE g n) f = a from f3]; exact a2⟩
  have h1 := cnt_into (P := fun _ => true) (Q := fun f => decide (eS (EE g n) f ≠ x)) (N := (EE (rmG x g) (n - 1)).1) (K := (EE g n).1) (fun e => Classical.epsilon (fun f => f < (EE g n).1 ∧ eS (EE g n) f = (if eS (EE (rmG x g) (n - 1)) e < x then eS (EE (rmG x g) (n - 1)) e else eS (EE (rmG x g) (n - 1)) e + 1) ∧ (vI g n).2 (eF (EE g n) f) = (vI (rmG x g) (n - 1)).2 (eF (EE (rmG x g) (n - 1)) e))) (fun e he _ => by
    have hz := Classical.epsilon_spec (hex e he)
    have := (hr _ (hE'.1 e he).1).2.2
    refine ⟨hz.1, decide_eq_true ?_⟩
    rw [hz.2.1]; exact this) (fun e e' he he' _ _ w => by
    have hz := Classical.epsilon_spec (hex e he)
    have hz' := Classical.epsilon_spec (hex e' he')
    have w : Classical.epsilon (fun f => f < (EE g n).1 ∧ eS (EE g n) f = (if eS (EE (rmG x g) (n - 1)) e < x then eS (EE (rmG x g) (n - 1)) e else eS (EE (rmG x g) (n - 1)) e + 1) ∧ (vI g n).2 (eF (EE g n) f) = (vI (rmG x g) (n - 1)).2 (eF (EE (rmG x g) (n - 1)) e)) = Classical.epsilon (fun f => f < (EE g n).1 ∧ eS (EE g n) f = (if eS (EE (rmG x g) (n - 1)) e' < x then eS (EE (rmG x g) (n - 1)) e' else eS (EE (rmG x g) (n - 1)) e' + 1) ∧ (vI g n).2 (eF (EE g n) f) = (vI (rmG x g) (n - 1)).2 (eF (EE (rmG x g) (n - 1)) e')) := w
    have s1 : (if eS (EE (rmG x g) (n - 1)) e < x then eS (EE (rmG x g) (n - 1)) e else eS (EE (rmG x g) (n - 1)) e + 1) = (if eS (EE (rmG x g) (n - 1)) e' < x then eS (EE (rmG x g) (n - 1)) e' else eS (EE (rmG x g) (n - 1)) e' + 1) := by rw [← hz.2.1, ← hz'.2.1, w]
    have s2 : (vI (rmG x g) (n - 1)).2 (eF (EE (rmG x g) (n - 1)) e) = (vI (rmG x g) (n - 1)).2 (eF (EE (rmG x g) (n - 1)) e') := by rw [← hz.2.2, ← hz'.2.2, w]
    refine hE'.uniq he he' ?_ (vsort_inj (vI_good hg'.1 (n - 1) (Nat.le_refl _)).1 (eF_lt hE' he).1 (eF_lt hE' he').1 s2)
    show eS (EE (rmG x g) (n - 1)) e = eS (EE (rmG x g) (n - 1)) e'
    split at s1 <;> split at s1 <;> omega)
  rw [cnt_true] at h1
  obtain ⟨y, y1, y2⟩ := seg_has hg hE hx
  have h2 : cnt (fun f => decide (eS (EE g n) f ≠ x)) (EE g n).1 < cnt (fun _ => true) (EE g n).1 := cnt_lt (fun _ _ _ => rfl) y1 (decide_eq_false (fun w => w y2)) rfl
  rw [cnt_true] at h2
  omega
/-- a map for all segments that are fit for one -/
theorem FH_ex (hg : gOk n g) (hn : n ≤ 12) : ∃ root rd c lo ou, FH n g (EE g n) root rd c lo ou := by
  obtain ⟨M2, root, r, c, lo, ou, -, h, -⟩ := e_lays (F := 1000001) (M0 := (fun k => if k = 0 then nI n else 0, fun k i => if k = 1 then zI (sX (g i)) else if k = 2 then zI (sY (g i)) else if k = 3 then zI (eX (g i)) else zI (eY (g i)), fun _ _ => 0)) (n := n) (g := g) (Nat.le_refl _) (fun i hi => ⟨rfl, rfl, rfl, rfl⟩) rfl hg hn
  exact ⟨root, _, c, lo, ou, FH_of hg hn h⟩
end MTS
