/-! ### There are at most 55 rounds that go around no component -/
theorem cnt_into {P Q : Nat → Bool} {N K : Nat} (f : Nat → Nat) (h1 : ∀ v, v < N → P v = true → f v < K ∧ Q (f v) = true) (h2 : ∀ v w, v < N → w < N → P v = true → P w = true → f v = f w → v = w) : cnt P N ≤ cnt Q K := by
  refine pigeon (cnt Q K) N P (fun v => cnt Q (f v)) (fun v hv hp => cnt_lt_of (h1 v hv hp).1 (h1 v hv hp).2) (fun v w hv hw hp hq he => ?_)
  apply h2 v w hv hw hp hq
  have he : cnt Q (f v) = cnt Q (f w) := he
  rcases Nat.lt_trichotomy (f v) (f w) with z | z | z
  · have := cnt_lt_of z (h1 v hv hp).2; omega
  · exact z
  · have := cnt_lt_of z (h1 w hw hq).2; omega
section BND
variable {n : Nat} {g : Nat → Sg} {q : ES} {rd root lo ou : Nat → Nat} {c : Nat}
/-- joining along the edges -/
def pU (q : ES) : Nat → Nat → Nat
  | 0 => fun v => v
  | e + 1 => if pU q e (eF q e) = pU q e (eT q e) then pU q e else if pU q e (eF q e) < pU q e (eT q e) then jn (pU q e) (pU q e (eF q e)) (pU q e (eT q e)) else jn (pU q e) (pU q e (eT q e)) (pU q e (eF q e))
def ntE (q : ES) (e : Nat) : Bool := decide (pU q e (eF q e) = pU q e (eT q e))
theorem pU_inv {nV : Nat} (hw : eW q nV) : ∀ e, e ≤ q.1 → jInv q nV e (pU q e) := by
  intro e
  induction e with
  | zero => exact fun _ => ⟨fun v _ => Nat.le_refl _, fun _ _ => rfl, fun v _ => conn_r q v, fun i hi => by omega⟩
  | succ e ih =>
    intro he
    have i0 := ih (by omega)
    obtain ⟨w1, w2⟩ := hw e (by omega)
    rw [pU]
    split
    · next z =>
      refine ⟨i0.1, i0.2.1, i0.2.2.1, fun i hi => ?_⟩
      rcases Nat.lt_or_ge i e with y | y
      · exact i0.2.2.2 i y
      · have : i = e := by omega
        subst this; exact z
    · next z =>
      split
      · next y => exact (jInv_step i0 (by omega) w1 w2 (Or.inl ⟨rfl, rfl⟩) y).1
      · next y => exact (jInv_step i0 (by omega) w1 w2 (Or.inr ⟨rfl, rfl⟩) (by omega)).1
/-- what is joined along the edges below e belongs together by them -/
theorem pU_R {R : Nat → Nat → Prop} (r1 : ∀ a, R a a) (r2 : ∀ a b, R a b → R b a) (r3 : ∀ a b c, R a b → R b c → R a c) : ∀ e, (∀ i, i < e → R (eF q i) (eT q i)) → ∀ v, R v (pU q e v) := by
  intro e
  induction e with
  | zero => intro _ v; exact r1 v
  | succ e ih =>
    intro h v
    have i0 := ih (fun i hi => h i (by omega))
    have h1 := h e (by omega)
    have h2 : R (pU q e (eF q e)) (pU q e (eT q e)) := r3 _ _ _ (r2 _ _ (i0 _)) (r3 _ _ _ h1 (i0 _))
    rw [pU]
    split
    · exact i0 v
    · split
      · unfold jn
        split
        · next z => exact r3 _ _ _ (i0 v) (by rw [z]; exact r2 _ _ h2)
        · exact i0 v
      · unfold jn
        split
        · next z => exact r3 _ _ _ (i0 v) (by rw [z]; exact h2)
        · exact i0 v
/-- labels of rounds, joined across the edges that join nothing -/
def lbR (q : ES) (rd : Nat → Nat) : Nat → Nat → Nat
  | 0 => fun u => u
  | e + 1 => if ntE q e then jn (lbR q rd e) (lbR q rd e (rd (2 * e))) (lbR q rd e (rd (2 * e + 1))) else lbR q rd e
theorem jn_rep {p : Nat → Nat} {c : Nat} (h1 : ∀ u, u < c → p u < c) (h2 : ∀ u, u < c → p (p u) = p u) {a b : Nat} (ha : a < c) (hb : b < c) : (∀ u, u < c → jn p (p a) (p b) u < c) ∧ (∀ u, u < c → jn p (p a) (p b) (jn p (p a) (p b) u) = jn p (p a) (p b) u) ∧ cnt (fun u => decide (p u = u)) c ≤ cnt (fun u => decide (jn p (p a) (p b) u = u)) c + 1 := by
  have pa := h1 a ha
  have ipa := h2 a ha
  refine ⟨fun u hu => ?_, fun u hu => ?_, ?_⟩
  · unfold jn; split
    · exact pa
    · exact h1 u hu
  · unfold jn
    by_cases z : p u = p b
    · rw [if_pos z, ipa]
      split <;> rfl
    · rw [if_neg z, h2 u hu, if_neg z]
  · have h3 := cnt_rm (fun u => decide (p u = u)) (p b) c
    have h4 : cnt (fun u => decide (p u = u) && decide (u ≠ p b)) c ≤ cnt (fun u => decide (jn p (p a) (p b) u = u)) c := by
      refine cnt_into (fun u => u) (fun u hu hp => ⟨hu, ?_⟩) (fun u w _ _ _ _ e => e)
      rw [Bool.and_eq_true, decide_eq_true_eq, decide_eq_true_eq] at hp
      refine decide_eq_true ?_
      unfold jn
      rw [if_neg (by rw [hp.1]; exact hp.2)]
      exact hp.1
    have h5 : (if p b < c then 1 else 0) ≤ 1 := by split <;> omega
    omega
theorem lbR_inv (hr : ∀ s, s < 2 * q.1 → rd s < c) : ∀ e, e ≤ q.1 → (∀ u, u < c → lbR q rd e u < c) ∧ (∀ u, u < c → lbR q rd e (lbR q rd e u) = lbR q rd e u) ∧ c ≤ cnt (fun u => decide (lbR q rd e u = u)) c + cnt (ntE q) e := by
  intro e
  induction e with
  | zero =>
    intro _
    refine ⟨fun u hu => hu, fun _ _ => rfl, ?_⟩
    have : cnt (fun u => decide (lbR q rd 0 u = u)) c = c := by
      rw [show cnt (fun u => decide (lbR q rd 0 u = u)) c = cnt (fun _ => true) c from cnt_congr (fun i _ => decide_eq_true rfl), cnt_true]
    rw [this]; omega
  | succ e ih =>
    intro he
    obtain ⟨i1, i2, i3⟩ := ih (by omega)
    rw [lbR, cnt]
    cases hn : ntE q e
    · rw [if_neg (by decide), if_neg (by decide)]
      exact ⟨i1, i2, by omega⟩
    · rw [if_pos rfl, if_pos rfl]
      obtain ⟨j1, j2, j3⟩ := jn_rep i1 i2 (hr (2 * e) (by omega)) (hr (2 * e + 1) (by omega))
      exact ⟨j1, j2, by omega⟩
theorem lbR_keep : ∀ e k, (∀ a b, lbR q rd e a = lbR q rd e b → lbR q rd (e + k) a = lbR q rd (e + k) b) := by
  intro e k a b h
  induction k with
  | zero => exact h
  | succ k ih =>
    show lbR q rd (e + k + 1) a = lbR q rd (e + k + 1) b
    rw [lbR]
    split
    · unfold jn; rw [ih]
    · exact ih
theorem lbR_nt {e : Nat} (he : e < q.1) (hn : ntE q e = true) : lbR q rd q.1 (rd (2 * e)) = lbR q rd q.1 (rd (2 * e + 1)) := by
  have h := lbR_keep (q := q) (rd := rd) (e + 1) (q.1 - (e + 1)) (rd (2 * e)) (rd (2 * e + 1)) (by
    rw [lbR, if_pos hn]
    unfold jn
    rw [if_pos rfl]
    split
    · rfl
    · rfl)
  rw [show e + 1 + (q.1 - (e + 1)) = q.1 by omega] at h
  exact h
/-- across every edge the labels are one -/
theorem lbR_all (h : FH n g q root rd c lo ou) {e : Nat} (he : e < q.1) : lbR q rd q.1 (rd (2 * e)) = lbR q rd q.1 (rd (2 * e + 1)) := by
  have hw : eW q (vI g n).1 := fun e he => ⟨(eF_lt h.2.1 he).1, (eF_lt h.2.1 he).2⟩
  have key' : ∀ (y d e : Nat), e + d = q.1 → (∀ e', e ≤ e' → e' < q.1 → phi (fun s => lbR q rd q.1 (rd s)) y e' = 0) := by
    intro y d
    induction d with
    | zero => intro e h1 e' h2 h3; omega
    | succ d ih =>
      intro e h1 e' h2 h3
      have i0 := ih (e + 1) (by omega)
      rcases Nat.lt_or_ge e e' with z | z
      · exact i0 e' z h3
      · have : e' = e := by omega
        subst this
        cases hn : ntE q e'
        · have hne : pU q e' (eF q e') ≠ pU q e' (eT q e') := of_decide_eq_false hn
          have hj := pU_inv hw e' (by omega)
          have hk := kir (fc := fun s => lbR q rd q.1 (rd s)) h.2.2.1 (fun s hs => by
            show lbR q rd q.1 (rd (nxt n g q s)) = lbR q rd q.1 (rd s)
            rw [h.2.2.2.2.2.2.1 s hs]) y (fun v => decide (pU q e' v = pU q e' (eF q e')))
          rw [zsm_one (x := e') h3 (fun i hi hne2 => ?_)] at hk
          · rw [decide_eq_true rfl, decide_eq_false (fun w => hne w.symm)] at hk
            show phi (fun s => lbR q rd q.1 (rd s)) y e' = 0
            have hk : phi (fun s => lbR q rd q.1 (rd s)) y e' * (1 - 0) = 0 := hk
            omega
          · rcases Nat.lt_or_ge i e' with y2 | y2
            · rw [hj.2.2.2 i y2]
              show _ * (zb _ - zb _) = 0
              rw [Int.sub_self, Int.mul_zero]
            · rw [i0 i (by omega) hi, Int.zero_mul]
        · unfold phi
          show zb (decide (lbR q rd q.1 (rd (2 * e')) = y)) - zb (decide (lbR q rd q.1 (rd (2 * e' + 1)) = y)) = 0
          rw [lbR_nt h3 hn, Int.sub_self]
  have hz : ∀ y, phi (fun s => lbR q rd q.1 (rd s)) y e = 0 := fun y => key' y q.1 0 (by omega) e (by omega) he
  have h1 := hz (lbR q rd q.1 (rd (2 * e)))
  unfold phi at h1
  rw [decide_eq_true rfl, zb_t] at h1
  by_cases z : lbR q rd q.1 (rd (2 * e + 1)) = lbR q rd q.1 (rd (2 * e))
  · exact z.symm
  · rw [decide_eq_false z, zb_f] at h1; cases h1
/-- what is the same across edges and along rounds is the same on a component -/
theorem at_const (hk : ∀ s t, s < 2 * q.1 → t < 2 * q.1 → bg q s = bg q t → key n g q s = key n g q t → s = t) {f : Nat → Nat} (hf : ∀ s, s < 2 * q.1 → f s = f (below n g q s)) {s t : Nat} (hs : s < 2 * q.1) (ht : t < 2 * q.1) (hb : bg q s = bg q t) : f s = f t := by
  obtain ⟨lo, l1, l2, l3⟩ := has_lo (n := n) (g := g) (q := q) (v := bg q s) ⟨s, hs, rfl⟩
  have go : ∀ (K x : Nat), key n g q x < K → x < 2 * q.1 → bg q x = bg q lo → f x = f lo := by
    intro K
    induction K with
    | zero => intro x h; omega
    | succ K ih =>
      intro x hK hx hbx
      by_cases hl : key n g q lo < key n g q x
      · obtain ⟨b1, b2, b3, b4⟩ := below_pred hk hx l1 hbx.symm hl
        rw [hf x hx]
        exact ih _ (by omega) b1 (b2.trans hbx)
      · have := l3 x hx (hbx.trans l2)
        rw [hk x lo hx l1 hbx (by omega)]
  rw [go _ s (Nat.lt_succ_self _) hs l2.symm, go _ t (Nat.lt_succ_self _) ht (hb.symm.trans l2.symm)]
theorem lbR_conn (h : FH n g q root rd c lo ou) {s t : Nat} (hs : s < 2 * q.1) (ht : t < 2 * q.1) (hc : conn q (bg q s) (bg q t)) : lbR q rd q.1 (rd s) = lbR q rd q.1 (rd t) := by
  have htw : ∀ x, x < 2 * q.1 → lbR q rd q.1 (rd x) = lbR q rd q.1 (rd (tw x)) := by
    intro x hx
    have h1 := lbR_all h (show x / 2 < q.1 by omega)
    rcases (show x % 2 = 0 ∨ x % 2 = 1 by omega) with y | y
    · have e1 : x = 2 * (x / 2) := by omega
      rw [e1, tw_e]; exact h1
    · have e1 : x = 2 * (x / 2) + 1 := by omega
      rw [e1, tw_o]; exact h1.symm
  have hat : ∀ x z, x < 2 * q.1 → z < 2 * q.1 → bg q x = bg q z → lbR q rd q.1 (rd x) = lbR q rd q.1 (rd z) := fun x z hx hz hb =>
    at_const h.2.2.1 (f := fun x => lbR q rd q.1 (rd x)) (fun x hx => by
      show lbR q rd q.1 (rd x) = lbR q rd q.1 (rd (below n g q x))
      rw [htw x hx]
      have := h.2.2.2.2.2.2.1 (tw x) (tw_lt hx)
      unfold nxt at this
      rw [tw_tw] at this
      rw [this]) hx hz hb
  have hF : ∀ x, x < 2 * q.1 → lbR q rd q.1 (rd (Classical.epsilon (fun t => t < 2 * q.1 ∧ bg q t = bg q x))) = lbR q rd q.1 (rd x) := by
    intro x hx
    have h1 := Classical.epsilon_spec (p := fun t => t < 2 * q.1 ∧ bg q t = bg q x) ⟨x, hx, rfl⟩
    exact hat _ _ h1.1 hx h1.2
  have hR := hc (fun a b => lbR q rd q.1 (rd (Classical.epsilon (fun t => t < 2 * q.1 ∧ bg q t = a))) = lbR q rd q.1 (rd (Classical.epsilon (fun t => t < 2 * q.1 ∧ bg q t = b)))) (fun _ => rfl) (fun _ _ h => h.symm) (fun _ _ _ h1 h2 => h1.trans h2) (fun e he => by
    rw [← bg_e (q := q) e, ← bg_o (q := q) e, hF _ (by omega), hF _ (by omega)]
    exact lbR_all h he)
  rw [hF s hs, hF t ht] at hR
  exact hR
/-- rounds around nothing are no more than the edges that join nothing -/
theorem na_le (h : FH n g q root rd c lo ou) : cnt (fun u => !arF n g q root rd u) c ≤ cnt (ntE q) q.1 := by
  obtain ⟨l1, l2, l3⟩ := lbR_inv (q := q) (rd := rd) (c := c) h.2.2.2.2.2.1 q.1 (Nat.le_refl _)
  have hro := h.2.2.2.2.1
  have hout := h.2.2.2.2.2.2.2.2
  have hloV : ∀ u, u < c → lo u < (vI g n).1 := by
    intro u hu
    obtain ⟨a1, a2, a3, -⟩ := hout u hu
    rw [← a3]
    unfold bg
    have := eF_lt h.2.1 (show ou u / 2 < q.1 by omega)
    split
    · exact this.1
    · exact this.2
  have h1 : cnt (fun u => decide (lbR q rd q.1 u = u)) c ≤ cnt (fun v => decide (root v = v)) (vI g n).1 := by
    refine cnt_into (fun u => root (lo u)) (fun u hu hp => ?_) (fun u w hu hw hp hq e => ?_)
    · have hv := hloV u hu
      have := hro.1 _ hv
      exact ⟨by omega, decide_eq_true (root_conn hro (hro.2.1 _ hv)).symm⟩
    · obtain ⟨a1, a2, a3, -⟩ := hout u hu
      obtain ⟨b1, b2, b3, -⟩ := hout w hw
      have e : root (lo u) = root (lo w) := e
      have hc : conn q (bg q (ou u)) (bg q (ou w)) := by
        rw [a3, b3]
        have c1 := hro.2.1 _ (hloV u hu)
        have c2 := hro.2.1 _ (hloV w hw)
        rw [← e] at c2
        exact conn_t c1 (conn_s c2)
      have := lbR_conn h a1 b1 hc
      rw [a2, b2, of_decide_eq_true hp, of_decide_eq_true hq] at this
      exact this
  have h2 : cnt (fun v => decide (root v = v)) (vI g n).1 ≤ cnt (arF n g q root rd) c := by
    refine cnt_into (fun v => rd (hiv g q v)) (fun v hv hp => ⟨h.2.2.2.2.2.1 _ (hiv_at h hv).1, arS_iff.mpr ⟨v, hv, of_decide_eq_true hp, rfl⟩⟩) (fun v w hv hw hp hq e => rd_hiv_inj h hv hw (of_decide_eq_true hp) (of_decide_eq_true hq) e)
  have h3 := cnt_not (arF n g q root rd) c
  omega
/-! edges that join nothing, on one segment -/
theorem nt_R (hE : EOk g (vI g n).2 n (vI g n).1 q) {R : Nat → Nat → Prop} (r1 : ∀ a, R a a) (r2 : ∀ a b, R a b → R b a) (r3 : ∀ a b c, R a b → R b c → R a c) {e : Nat} (hn : ntE q e = true) (hR : ∀ i, i < e → R (eF q i) (eT q i)) : R (eF q e) (eT q e) := by
  have h1 := pU_R r1 r2 r3 e hR (eF q e)
  have h2 := pU_R r1 r2 r3 e hR (eT q e)
  rw [of_decide_eq_true hn] at h1
  exact r3 _ _ _ h1 (r2 _ _ h2)
/-- lies on an earlier segment -/
def earl (g : Nat → Sg) (V : Nat → Pt) (s v : Nat) : Prop := ∃ j, j < s ∧ onB (g j) (V v) = true
theorem nt_end (hE : EOk g (vI g n).2 n (vI g n).1 q) {e : Nat} (he : e < q.1) (hn : ntE q e = true) : earl g (vI g n).2 (eS q e) (eT q e) ∧ ∃ x, x ≤ eF q e ∧ onB (g (eS q e)) ((vI g n).2 x) = true ∧ earl g (vI g n).2 (eS q e) x := by
  obtain ⟨a1, a2, a3, a4, a5, a6⟩ := hE.1 e he
  have before : ∀ i, i < e → (eS q i < eS q e) ∨ (eS q i = eS q e ∧ eT q i ≤ eF q e) := by
    intro i hi
    rcases hE.2.2 i e hi he with w | ⟨w1, w2⟩
    · exact Or.inl w
    · right
      refine ⟨w1, ?_⟩
      obtain ⟨b1, b2, b3, b4, b5, b6⟩ := hE.1 i (by omega)
      rcases Nat.lt_or_ge (eF q e) (eT q i) with z | z
      · have := b6 _ w2 z
        rw [w1, a4] at this; cases this
      · exact z
  constructor
  · apply Classical.byContradiction
    intro hno
    have h := nt_R hE (R := fun a b => a = eT q e ↔ b = eT q e) (fun _ => Iff.rfl) (fun _ _ h => h.symm) (fun _ _ _ h1 h2 => h1.trans h2) hn (fun i hi => by
      obtain ⟨b1, b2, b3, b4, b5, b6⟩ := hE.1 i (by omega)
      rcases before i hi with w | ⟨w1, w2⟩
      · refine ⟨fun z => absurd ⟨eS q i, w, ?_⟩ hno, fun z => absurd ⟨eS q i, w, ?_⟩ hno⟩
        · rw [← z]; exact b4
        · rw [← z]; exact b5
      · exact ⟨fun z => by omega, fun z => by omega⟩)
    have := h.mpr rfl
    omega
  · apply Classical.byContradiction
    intro hno
    have h := nt_R hE (R := fun a b => (onB (g (eS q e)) ((vI g n).2 a) = true ∧ a ≤ eF q e) ↔ (onB (g (eS q e)) ((vI g n).2 b) = true ∧ b ≤ eF q e)) (fun _ => Iff.rfl) (fun _ _ h => h.symm) (fun _ _ _ h1 h2 => h1.trans h2) hn (fun i hi => by
      obtain ⟨b1, b2, b3, b4, b5, b6⟩ := hE.1 i (by omega)
      rcases before i hi with w | ⟨w1, w2⟩
      · exact ⟨fun z => absurd ⟨_, z.2, z.1, _, w, b4⟩ hno, fun z => absurd ⟨_, z.2, z.1, _, w, b5⟩ hno⟩
      · rw [w1] at b4 b5
        exact ⟨fun _ => ⟨b5, w2⟩, fun _ => ⟨b4, by omega⟩⟩)
    have := (h.mp ⟨a4, Nat.le_refl _⟩).2
    omega
noncomputable def tauE (g : Nat → Sg) (V : Nat → Pt) (s v : Nat) : Nat := Classical.epsilon (fun j => j < s ∧ onB (g j) (V v) = true)
theorem tau_inj (hg : gOk n g) {s v w : Nat} (hs : s < n) (hv : v < (vI g n).1) (hw : w < (vI g n).1) (ev : earl g (vI g n).2 s v) (ew : earl g (vI g n).2 s w) (ov : onB (g s) ((vI g n).2 v) = true) (ow : onB (g s) ((vI g n).2 w) = true) (e : tauE g (vI g n).2 s v = tauE g (vI g n).2 s w) : v = w := by
  have h1 := Classical.epsilon_spec ev
  have h2 := Classical.epsilon_spec ew
  have h1 : tauE g (vI g n).2 s v < s ∧ onB (g (tauE g (vI g n).2 s v)) ((vI g n).2 v) = true := h1
  have h2 : tauE g (vI g n).2 s w < s ∧ onB (g (tauE g (vI g n).2 s w)) ((vI g n).2 w) = true := h2
  rw [← e] at h2
  exact vsort_inj (vI_good hg.1 n (Nat.le_refl _)).1 hv hw (one_pt hg hs (show tauE g (vI g n).2 s v < n by omega) (by omega) (onB_iff.mp ov) (onB_iff.mp h1.2) (onB_iff.mp ow) (onB_iff.mp h2.2))
theorem nt_seg (hg : gOk n g) (hE : EOk g (vI g n).2 n (vI g n).1 q) {s : Nat} (hs : s < n) : cnt (fun e => ntE q e && decide (eS q e = s)) q.1 ≤ s - 1 := by
  by_cases hex : ∃ x, x < (vI g n).1 ∧ onB (g s) ((vI g n).2 x) = true ∧ earl g (vI g n).2 s x
  · obtain ⟨m, ⟨m1, m2, m3⟩, m4⟩ := pk_least _ hex
    have tlt : ∀ v, earl g (vI g n).2 s v → tauE g (vI g n).2 s v < s := fun v hv => (Classical.epsilon_spec hv).1
    have facts : ∀ e, e < q.1 → (ntE q e && decide (eS q e = s)) = true → earl g (vI g n).2 s (eT q e) ∧ onB (g s) ((vI g n).2 (eT q e)) = true ∧ eT q e < (vI g n).1 ∧ m < eT q e := by
      intro e he hp
      rw [Bool.and_eq_true, decide_eq_true_eq] at hp
      obtain ⟨hp1, hp2⟩ := hp
      obtain ⟨a1, a2, a3, a4, a5, a6⟩ := hE.1 e he
      obtain ⟨e1, x, x1, x2, x3⟩ := nt_end hE he hp1
      rw [hp2] at e1 x2 x3 a5
      refine ⟨e1, a5, a2, ?_⟩
      rcases Nat.lt_or_ge x m with z | z
      · exact absurd ⟨by omega, x2, x3⟩ (m4 x z)
      · omega
    have hne : ∀ e, e < q.1 → (ntE q e && decide (eS q e = s)) = true → tauE g (vI g n).2 s (eT q e) ≠ tauE g (vI g n).2 s m := by
      intro e he hp w
      obtain ⟨f1, f2, f3, f4⟩ := facts e he hp
      have := tau_inj hg hs f3 m1 f1 m3 f2 m2 w
      omega
    refine pigeon (s - 1) q.1 _ (fun e => if tauE g (vI g n).2 s (eT q e) < tauE g (vI g n).2 s m then tauE g (vI g n).2 s (eT q e) else tauE g (vI g n).2 s (eT q e) - 1) (fun e he hp => ?_) (fun e e' he he' hp hp' hh => ?_)
    · have h1 := hne e he hp
      have h2 := tlt _ (facts e he hp).1
      have h3 := tlt m m3
      show (if tauE g (vI g n).2 s (eT q e) < tauE g (vI g n).2 s m then tauE g (vI g n).2 s (eT q e) else tauE g (vI g n).2 s (eT q e) - 1) < s - 1
      by_cases z : tauE g (vI g n).2 s (eT q e) < tauE g (vI g n).2 s m
      · rw [if_pos z]; omega
      · rw [if_neg z]
        generalize tauE g (vI g n).2 s (eT q e) = A at *
        generalize tauE g (vI g n).2 s m = B at *
        clear hex facts
        omega
    · have h1 := hne e he hp
      have h2 := hne e' he' hp'
      obtain ⟨f1, f2, f3, f4⟩ := facts e he hp
      obtain ⟨k1, k2, k3, k4⟩ := facts e' he' hp'
      have hh : (if tauE g (vI g n).2 s (eT q e) < tauE g (vI g n).2 s m then tauE g (vI g n).2 s (eT q e) else tauE g (vI g n).2 s (eT q e) - 1) = (if tauE g (vI g n).2 s (eT q e') < tauE g (vI g n).2 s m then tauE g (vI g n).2 s (eT q e') else tauE g (vI g n).2 s (eT q e') - 1) := hh
      have ht : tauE g (vI g n).2 s (eT q e) = tauE g (vI g n).2 s (eT q e') := by
        split at hh <;> split at hh <;> omega
      have hT := tau_inj hg hs f3 k3 f1 k1 f2 k2 ht
      rw [Bool.and_eq_true, decide_eq_true_eq] at hp hp'
      exact hE.uniqT he he' (by rw [hp.2, hp'.2]) hT
  · have : cnt (fun e => ntE q e && decide (eS q e = s)) q.1 = 0 := cnt_0.mpr (fun e he => by
      rw [Bool.eq_false_iff]
      intro hp
      rw [Bool.and_eq_true, decide_eq_true_eq] at hp
      obtain ⟨a1, a2, a3, a4, a5, a6⟩ := hE.1 e he
      obtain ⟨e1, x, x1, x2, x3⟩ := nt_end hE he hp.1
      rw [hp.2] at x2 x3
      exact hex ⟨x, by omega, x2, x3⟩)
    omega
def tri2 : Nat → Nat
  | 0 => 0
  | k + 1 => tri2 k + (k - 1)
theorem tri2_mono {a b : Nat} (h : a ≤ b) : tri2 a ≤ tri2 b := by
  induction b with
  | zero => have : a = 0 := by omega
            subst this; exact Nat.le_refl _
  | succ b ih =>
    rcases Nat.lt_or_ge b a with z | z
    · have : a = b + 1 := by omega
      subst this; exact Nat.le_refl _
    · have := ih z
      rw [tri2]; omega
theorem nt_all (hg : gOk n g) (hE : EOk g (vI g n).2 n (vI g n).1 q) : ∀ k, k ≤ n → cnt (fun e => ntE q e && decide (eS q e < k)) q.1 ≤ tri2 k := by
  intro k
  induction k with
  | zero =>
    intro _
    rw [cnt_0.mpr (fun e he => by rw [decide_eq_false (by omega), Bool.and_false])]
    exact Nat.zero_le _
  | succ k ih =>
    intro hk
    have h1 := ih (by omega)
    have h2 := nt_seg hg hE (s := k) (by omega)
    have h3 := cnt_or (P := fun e => ntE q e && decide (eS q e < k)) (Q := fun e => ntE q e && decide (eS q e = k)) (N := q.1) (fun e he hp => by
      rw [Bool.and_eq_true, decide_eq_true_eq] at hp
      rw [decide_eq_false (by omega), Bool.and_false])
    have h4 : cnt (fun e => ntE q e && decide (eS q e < k + 1)) q.1 = cnt (fun s => (ntE q s && decide (eS q s < k)) || (ntE q s && decide (eS q s = k))) q.1 := cnt_congr (fun e he => by
      rw [← Bool.and_or_distrib_left]
      congr 1
      rw [Bool.eq_iff_iff, Bool.or_eq_true, decide_eq_true_eq, decide_eq_true_eq, decide_eq_true_eq]
      omega)
    rw [h4, h3, tri2]
    omega
theorem na_55 (h : FH n g q root rd c lo ou) (hn : n ≤ 12) : cnt (fun u => !arF n g q root rd u) c ≤ 55 := by
  have h1 := na_le h
  have h2 := nt_all h.1 h.2.1 n (Nat.le_refl _)
  have h3 : cnt (fun e => ntE q e && decide (eS q e < n)) q.1 = cnt (ntE q) q.1 := cnt_congr (fun e he => by
    rw [decide_eq_true (h.2.1.1 e he).1, Bool.and_true])
  have h4 := tri2_mono hn
  have h5 : tri2 12 = 55 := by decide
  omega
end BND
