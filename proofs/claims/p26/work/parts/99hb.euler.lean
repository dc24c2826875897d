/-! ### Euler's rule: faces, edges, vertices and components fit -/
section EUL
variable {n : Nat} {g : Nat → Sg} {q : ES} {rd root lo ou : Nat → Nat} {c : Nat}
theorem wE2 (hg : gOk n g) (hE : EOk g (vI g n).2 n (vI g n).1 q) (hk : ∀ s t, s < 2 * q.1 → t < 2 * q.1 → bg q s = bg q t → key n g q s = key n g q t → s = t) {zf : Nat → Int} (hz : kirZ q zf) {s : Nat} (hs : s < 2 * q.1) : WvZ g n q zf (tw s) = WvZ g n q zf s + zsd zf s := by
  have h := wEZ hg hE hk hz (e := s / 2) (by omega)
  rcases (show s % 2 = 0 ∨ s % 2 = 1 by omega) with y | y
  · have e1 : s = 2 * (s / 2) := by omega
    rw [e1, tw_e, zsd_e]
    exact h
  · have e1 : s = 2 * (s / 2) + 1 := by omega
    rw [e1, tw_o, zsd_o]
    omega
/-- around a vertex the sum moves by what the sides carry -/
theorem wStep (hk : ∀ s t, s < 2 * q.1 → t < 2 * q.1 → bg q s = bg q t → key n g q s = key n g q t → s = t) {zf : Nat → Int} (hz : kirZ q zf) {s : Nat} (hs : s < 2 * q.1) : WvZ g n q zf (below n g q s) + zsd zf (below n g q s) = WvZ g n q zf s := by
  have hb : bg q (below n g q s) = bg q s := below_bg s
  have hbl : below n g q s < 2 * q.1 := below_lt hs
  have h1 : zsd zf (below n g q s) = zsm (fun s' => zsd zf s' * zb (decide (s' = below n g q s))) (2 * q.1) := by
    rw [zsm_one hbl (fun i _ hne => by rw [decide_eq_false hne, zb_f, Int.mul_zero]), decide_eq_true rfl, zb_t, Int.mul_one]
  have h2 : zsm (fun s' => zsd zf s' * zb (decide (bg q s' = bg q s) && decide (key n g q s' < key n g q (below n g q s)))) (2 * q.1) + zsm (fun s' => zsd zf s' * zb (decide (s' = below n g q s))) (2 * q.1) = zsm (fun s' => zsd zf s' * zb (decide (bg q s' = bg q s) && decide (key n g q s' ≤ key n g q (below n g q s)))) (2 * q.1) := by
    rw [← zsm_add]
    refine zsm_congr (fun x hx => ?_)
    show zsd zf x * zb (decide (bg q x = bg q s) && decide (key n g q x < key n g q (below n g q s))) + zsd zf x * zb (decide (x = below n g q s)) = zsd zf x * zb (decide (bg q x = bg q s) && decide (key n g q x ≤ key n g q (below n g q s)))
    rw [← Int.mul_add]
    congr 1
    by_cases z : bg q x = bg q s
    · rw [decide_eq_true z, Bool.true_and, Bool.true_and]
      by_cases y : x = below n g q s
      · rw [decide_eq_true y, y, decide_eq_false (Nat.lt_irrefl _), decide_eq_true (Nat.le_refl _)]; rfl
      · have hne : key n g q x ≠ key n g q (below n g q s) := fun w => y (hk x _ hx hbl (by rw [z, hb]) w)
        rw [decide_eq_false y, show decide (key n g q x ≤ key n g q (below n g q s)) = decide (key n g q x < key n g q (below n g q s)) from decide_eq_decide.mpr (by omega), zb_f, Int.add_zero]
    · rw [decide_eq_false z, Bool.false_and, Bool.false_and, decide_eq_false (show ¬ x = below n g q s from fun w => z (by rw [w]; exact hb))]; rfl
  have h3 : zsm (fun s' => zsd zf s' * zb (decide (bg q s' = bg q s) && decide (key n g q s' ≤ key n g q (below n g q s)))) (2 * q.1) = zsm (fun s' => zsd zf s' * zb (decide (bg q s' = bg q s) && decide (key n g q s' < key n g q s))) (2 * q.1) := by
    by_cases hl : ∃ s0, s0 < 2 * q.1 ∧ bg q s0 = bg q s ∧ key n g q s0 < key n g q s
    · obtain ⟨s0, l1, l2, l3⟩ := hl
      obtain ⟨b1, b2, b3, b4⟩ := below_pred hk hs l1 l2 l3
      refine zsm_congr (fun x hx => ?_)
      show zsd zf x * zb _ = zsd zf x * zb _
      congr 2
      by_cases z : bg q x = bg q s
      · rw [decide_eq_true z, Bool.true_and, Bool.true_and]
        refine decide_eq_decide.mpr ⟨fun w => by omega, fun w => b4 x hx z w⟩
      · rw [decide_eq_false z, Bool.false_and, Bool.false_and]
    · have hmin : ∀ x, x < 2 * q.1 → bg q x = bg q s → key n g q s ≤ key n g q x := fun x hx hb2 => by
        rcases Nat.lt_or_ge (key n g q x) (key n g q s) with z | z
        · exact absurd ⟨x, hx, hb2, z⟩ hl
        · exact z
      have hmax : ∀ x, x < 2 * q.1 → bg q x = bg q s → key n g q x ≤ key n g q (below n g q s) := fun x hx hb2 => by
        have a4 := (scn_max n g q s (2 * q.1)).2.2.2 x hx hb2
        have m1 := hmin x hx hb2
        have m2 := hmin _ hbl hb
        unfold ckey at a4
        rw [if_neg (by omega)] at a4
        have a5 : key n g q x ≤ (if key n g q (below n g q s) < key n g q s then key n g q (below n g q s) + 2 * (n + 1) else key n g q (below n g q s)) := a4
        rw [if_neg (by omega)] at a5
        exact a5
      have e1 : zsm (fun s' => zsd zf s' * zb (decide (bg q s' = bg q s) && decide (key n g q s' < key n g q s))) (2 * q.1) = 0 := zsm_0 (fun x hx => by
        show zsd zf x * zb _ = 0
        by_cases z : bg q x = bg q s
        · have := hmin x hx z
          rw [decide_eq_false (show ¬ key n g q x < key n g q s by omega), Bool.and_false, zb_f, Int.mul_zero]
        · rw [decide_eq_false z, Bool.false_and, zb_f, Int.mul_zero])
      have e2 := hz (fun u => decide (u = bg q s))
      rw [e1, ← e2]
      refine zsm_congr (fun x hx => ?_)
      show zsd zf x * zb _ = zsd zf x * zb _
      congr 2
      by_cases z : bg q x = bg q s
      · rw [decide_eq_true (hmax x hx z), Bool.and_true]
      · rw [decide_eq_false z, Bool.false_and]
  unfold WvZ
  rw [hb, ← h3, ← h2, h1]
  omega
/-- the sum just to the left of a side -/
def HZ (g : Nat → Sg) (n : Nat) (q : ES) (zf : Nat → Int) (s : Nat) : Int := WvZ g n q zf (tw s)
theorem HZ_nxt (hg : gOk n g) (hE : EOk g (vI g n).2 n (vI g n).1 q) (hk : ∀ s t, s < 2 * q.1 → t < 2 * q.1 → bg q s = bg q t → key n g q s = key n g q t → s = t) {zf : Nat → Int} (hz : kirZ q zf) {s : Nat} (hs : s < 2 * q.1) : HZ g n q zf (nxt n g q s) = HZ g n q zf s := by
  unfold HZ
  rw [wE2 hg hE hk hz (nxt_lt hs)]
  unfold nxt
  exact wStep hk hz (tw_lt hs)
theorem HZ_edge (hg : gOk n g) (hE : EOk g (vI g n).2 n (vI g n).1 q) (hk : ∀ s t, s < 2 * q.1 → t < 2 * q.1 → bg q s = bg q t → key n g q s = key n g q t → s = t) {zf : Nat → Int} (hz : kirZ q zf) {e : Nat} (he : e < q.1) : HZ g n q zf (2 * e) = HZ g n q zf (2 * e + 1) + zf e := by
  unfold HZ
  rw [tw_e, tw_o]
  exact wEZ hg hE hk hz he
theorem HZ_rd (h : FH n g q root rd c lo ou) {zf : Nat → Int} (hz : kirZ q zf) {s t : Nat} (hs : s < 2 * q.1) (ht : t < 2 * q.1) (e : rd s = rd t) : HZ g n q zf s = HZ g n q zf t :=
  h.2.2.2.2.2.2.2.1 s t hs ht e (fun a b => HZ g n q zf a = HZ g n q zf b) (fun _ => rfl) (fun _ _ h => h.symm) (fun _ _ _ h1 h2 => h1.trans h2) (fun x hx => (HZ_nxt h.1 h.2.1 h.2.2.1 hz hx).symm)
/-- a number of each round -/
noncomputable def onR (q : ES) (rd : Nat → Nat) (u : Nat) : Nat := Classical.epsilon (fun s => s < 2 * q.1 ∧ rd s = u)
theorem onR_ok {s : Nat} (hs : s < 2 * q.1) : onR q rd (rd s) < 2 * q.1 ∧ rd (onR q rd (rd s)) = rd s :=
  Classical.epsilon_spec (p := fun t => t < 2 * q.1 ∧ rd t = rd s) ⟨s, hs, rfl⟩
/-- what is joined along edges that join something, below e -/
theorem pU_T {R : Nat → Nat → Prop} (r1 : ∀ a, R a a) (r2 : ∀ a b, R a b → R b a) (r3 : ∀ a b c, R a b → R b c → R a c) : ∀ e, (∀ i, i < e → ntE q i = false → R (eF q i) (eT q i)) → ∀ v, R v (pU q e v) := by
  intro e
  induction e with
  | zero => intro _ v; exact r1 v
  | succ e ih =>
    intro h v
    have i0 := ih (fun i hi => h i (by omega))
    rw [pU]
    split
    · exact i0 v
    · next z =>
      have h1 := h e (by omega) (decide_eq_false z)
      have h2 : R (pU q e (eF q e)) (pU q e (eT q e)) := r3 _ _ _ (r2 _ _ (i0 _)) (r3 _ _ _ h1 (i0 _))
      split
      · unfold jn
        split
        · next z => exact r3 _ _ _ (i0 v) (by rw [z]; exact r2 _ _ h2)
        · exact i0 v
      · unfold jn
        split
        · next z => exact r3 _ _ _ (i0 v) (by rw [z]; exact h2)
        · exact i0 v
theorem lbR_R {R : Nat → Nat → Prop} (r1 : ∀ a, R a a) (r2 : ∀ a b, R a b → R b a) (r3 : ∀ a b c, R a b → R b c → R a c) : ∀ e, (∀ i, i < e → ntE q i = true → R (rd (2 * i)) (rd (2 * i + 1))) → ∀ u, R u (lbR q rd e u) := by
  intro e
  induction e with
  | zero => intro _ v; exact r1 v
  | succ e ih =>
    intro h u
    have i0 := ih (fun i hi => h i (by omega))
    rw [lbR]
    split
    · next z =>
      have h1 := h e (by omega) z
      have h2 : R (lbR q rd e (rd (2 * e))) (lbR q rd e (rd (2 * e + 1))) := r3 _ _ _ (r2 _ _ (i0 _)) (r3 _ _ _ h1 (i0 _))
      unfold jn
      split
      · next y => exact r3 _ _ _ (i0 u) (by rw [y]; exact r2 _ _ h2)
      · exact i0 u
    · exact i0 u
/-- a way from v to w along edges that join something -/
def pthZ (q : ES) (v w : Nat) : Prop := ∃ z : Nat → Int, (∀ i, ntE q i = true → z i = 0) ∧ ∀ Rg : Nat → Bool, zsm (fun e => z e * (zb (Rg (eF q e)) - zb (Rg (eT q e)))) q.1 = zb (Rg v) - zb (Rg w)
theorem pthZ_r (v : Nat) : pthZ q v v := ⟨fun _ => 0, fun _ _ => rfl, fun Rg => by rw [zsm_0 (fun i _ => Int.zero_mul _), Int.sub_self]⟩
theorem pthZ_s {v w : Nat} (h : pthZ q v w) : pthZ q w v := by
  obtain ⟨z, h1, h2⟩ := h
  refine ⟨fun i => 0 - z i, fun i hi => (by show 0 - z i = 0; rw [h1 i hi]; rfl), fun Rg => ?_⟩
  have h3 := h2 Rg
  have h4 : zsm (fun e => (0 - z e) * (zb (Rg (eF q e)) - zb (Rg (eT q e)))) q.1 = zsm (fun e => 0 - z e * (zb (Rg (eF q e)) - zb (Rg (eT q e)))) q.1 := zsm_congr (fun e _ => by rw [Int.sub_mul, Int.zero_mul])
  rw [h4, zsm_sub, h3, zsm_0 (fun _ _ => rfl)]
  omega
theorem pthZ_t {u v w : Nat} (h : pthZ q u v) (h' : pthZ q v w) : pthZ q u w := by
  obtain ⟨z, h1, h2⟩ := h
  obtain ⟨y, k1, k2⟩ := h'
  refine ⟨fun i => z i + y i, fun i hi => (by show z i + y i = 0; rw [h1 i hi, k1 i hi]; rfl), fun Rg => ?_⟩
  have h4 : zsm (fun e => (z e + y e) * (zb (Rg (eF q e)) - zb (Rg (eT q e)))) q.1 = zsm (fun e => z e * (zb (Rg (eF q e)) - zb (Rg (eT q e))) + y e * (zb (Rg (eF q e)) - zb (Rg (eT q e)))) q.1 := zsm_congr (fun e _ => by rw [Int.add_mul])
  rw [h4, zsm_add, h2 Rg, k2 Rg]
  omega
theorem pthZ_e {e : Nat} (he : e < q.1) (hn : ntE q e = false) : pthZ q (eF q e) (eT q e) := by
  refine ⟨fun i => zb (decide (i = e)), fun i hi => ?_, fun Rg => ?_⟩
  · show zb (decide (i = e)) = 0
    rw [decide_eq_false (show ¬ i = e from fun w => by rw [w, hn] at hi; cases hi)]; rfl
  · rw [zsm_one he (fun i _ hne => (by show zb (decide (i = e)) * _ = 0; rw [decide_eq_false hne, zb_f, Int.zero_mul]))]
    show zb (decide (e = e)) * _ = _
    rw [decide_eq_true rfl, zb_t, Int.one_mul]
/-- an edge that joins nothing closes a way: a flow along it and along edges that join something -/
theorem cycZ {e : Nat} (he : e < q.1) (hn : ntE q e = true) : ∃ zf : Nat → Int, kirZ q zf ∧ zf e = 1 ∧ ∀ i, ntE q i = true → i ≠ e → zf i = 0 := by
  have hp : pthZ q (eF q e) (eT q e) := by
    have h := pU_T (q := q) (R := pthZ q) pthZ_r (fun _ _ => pthZ_s) (fun _ _ _ => pthZ_t) e (fun i hi hni => pthZ_e (by omega) hni)
    have h1 := h (eF q e)
    have h2 := h (eT q e)
    rw [of_decide_eq_true hn] at h1
    exact pthZ_t h1 (pthZ_s h2)
  obtain ⟨z, z1, z2⟩ := hp
  refine ⟨fun i => zb (decide (i = e)) - z i, kirE_of (fun Rg => ?_), ?_, fun i hi hne => ?_⟩
  · have h4 : zsm (fun i => (zb (decide (i = e)) - z i) * (zb (Rg (eF q i)) - zb (Rg (eT q i)))) q.1 = zsm (fun i => zb (decide (i = e)) * (zb (Rg (eF q i)) - zb (Rg (eT q i))) - z i * (zb (Rg (eF q i)) - zb (Rg (eT q i)))) q.1 := zsm_congr (fun i _ => by rw [Int.sub_mul])
    rw [h4, zsm_sub, z2 Rg, zsm_one he (fun i _ hne => by rw [decide_eq_false hne, zb_f, Int.zero_mul]), decide_eq_true rfl, zb_t, Int.one_mul]
    omega
  · show zb (decide (e = e)) - z e = 1
    rw [z1 e hn, decide_eq_true rfl]; rfl
  · show zb (decide (i = e)) - z i = 0
    rw [z1 i hi, decide_eq_false hne]; rfl
/-- an edge that joins nothing parts two rounds that nothing before has joined -/
theorem nt_apart (h : FH n g q root rd c lo ou) {e : Nat} (he : e < q.1) (hn : ntE q e = true) : lbR q rd e (rd (2 * e)) ≠ lbR q rd e (rd (2 * e + 1)) := by
  intro hq
  obtain ⟨zf, z1, z2, z3⟩ := cycZ he hn
  have hR := lbR_R (q := q) (rd := rd) (R := fun a b => HZ g n q zf (onR q rd a) = HZ g n q zf (onR q rd b)) (fun _ => rfl) (fun _ _ h => h.symm) (fun _ _ _ h1 h2 => h1.trans h2) e (fun i hi hni => by
    have o1 := onR_ok (rd := rd) (show 2 * i < 2 * q.1 by omega)
    have o2 := onR_ok (rd := rd) (show 2 * i + 1 < 2 * q.1 by omega)
    show HZ g n q zf (onR q rd (rd (2 * i))) = HZ g n q zf (onR q rd (rd (2 * i + 1)))
    rw [HZ_rd h z1 o1.1 (by omega) o1.2, HZ_rd h z1 o2.1 (by omega) o2.2, HZ_edge h.1 h.2.1 h.2.2.1 z1 (show i < q.1 by omega), z3 i hni (by omega), Int.add_zero])
  have h1 := hR (rd (2 * e))
  have h2 := hR (rd (2 * e + 1))
  have o1 := onR_ok (rd := rd) (show 2 * e < 2 * q.1 by omega)
  have o2 := onR_ok (rd := rd) (show 2 * e + 1 < 2 * q.1 by omega)
  have h3 : HZ g n q zf (onR q rd (rd (2 * e))) = HZ g n q zf (onR q rd (rd (2 * e + 1))) := h1.trans (by rw [hq]; exact h2.symm)
  rw [HZ_rd h z1 o1.1 (by omega) o1.2, HZ_rd h z1 o2.1 (by omega) o2.2, HZ_edge h.1 h.2.1 h.2.2.1 z1 he, z2] at h3
  omega
theorem cnt_one {P : Nat → Bool} {x N : Nat} (hx : x < N) (hp : P x = true) : cnt P N = cnt (fun u => P u && decide (u ≠ x)) N + 1 := by
  have h := cnt_add1 (P := fun u => P u && decide (u ≠ x)) (Q := P) (x := x) (by rw [decide_eq_false (fun w => w rfl), Bool.and_false]) (fun s => by
    by_cases z : s = x
    · rw [z, hp, decide_eq_true rfl, Bool.or_true]
    · rw [decide_eq_false z, decide_eq_true z, Bool.and_true, Bool.or_false]) N
  rw [if_pos hx] at h
  exact h
theorem lbR_cnt (h : FH n g q root rd c lo ou) : ∀ e, e ≤ q.1 → cnt (fun u => decide (lbR q rd e u = u)) c + cnt (ntE q) e ≤ c := by
  intro e
  induction e with
  | zero =>
    intro _
    have := cnt_le (fun u => decide (lbR q rd 0 u = u)) c
    rw [show cnt (ntE q) 0 = 0 from rfl]
    omega
  | succ e ih =>
    intro he
    have i0 := ih (by omega)
    obtain ⟨l1, l2, -⟩ := lbR_inv (q := q) (rd := rd) (c := c) h.2.2.2.2.2.1 e (by omega)
    rw [lbR, cnt]
    cases hn : ntE q e
    · rw [if_neg (by decide), if_neg (by decide)]; omega
    · rw [if_pos rfl, if_pos rfl]
      have ha := h.2.2.2.2.2.1 (2 * e) (by omega)
      have hb := h.2.2.2.2.2.1 (2 * e + 1) (by omega)
      have hne := nt_apart h (show e < q.1 by omega) hn
      have h1 := cnt_one (P := fun u => decide (lbR q rd e u = u)) (l1 _ hb) (decide_eq_true (l2 _ hb))
      have h2 : cnt (fun u => decide (jn (lbR q rd e) (lbR q rd e (rd (2 * e))) (lbR q rd e (rd (2 * e + 1))) u = u)) c ≤ cnt (fun u => decide (lbR q rd e u = u) && decide (u ≠ lbR q rd e (rd (2 * e + 1)))) c := by
        refine cnt_into (fun u => u) (fun u hu hp => ⟨hu, ?_⟩) (fun _ _ _ _ _ _ w => w)
        have hp := of_decide_eq_true hp
        unfold jn at hp
        by_cases z : lbR q rd e u = lbR q rd e (rd (2 * e + 1))
        · rw [if_pos z] at hp
          exfalso
          rw [← hp, l2 _ ha] at z
          exact hne z
        · rw [if_neg z] at hp
          rw [decide_eq_true hp, Bool.true_and]
          exact decide_eq_true (fun w => z (by rw [w, l2 _ hb]))
      omega
theorem root_rd (h : FH n g q root rd c lo ou) {s t : Nat} (hs : s < 2 * q.1) (ht : t < 2 * q.1) (e : rd s = rd t) : root (bg q s) = root (bg q t) := root_conn h.2.2.2.2.1 (rd_conn h hs ht e)
/-- no fewer labels than components -/
theorem lbR_comp (h : FH n g q root rd c lo ou) : cnt (fun v => decide (root v = v)) (vI g n).1 ≤ cnt (fun u => decide (lbR q rd q.1 u = u)) c := by
  obtain ⟨l1, l2, -⟩ := lbR_inv (q := q) (rd := rd) (c := c) h.2.2.2.2.2.1 q.1 (Nat.le_refl _)
  refine cnt_into (fun v => lbR q rd q.1 (rd (hiv g q v))) (fun v hv hp => ?_) (fun v w hv hw hp hq e => ?_)
  · have hr := h.2.2.2.2.2.1 _ (hiv_at h hv).1
    exact ⟨l1 _ hr, decide_eq_true (l2 _ hr)⟩
  · have hR := lbR_R (q := q) (rd := rd) (R := fun a b => root (bg q (onR q rd a)) = root (bg q (onR q rd b))) (fun _ => rfl) (fun _ _ h => h.symm) (fun _ _ _ h1 h2 => h1.trans h2) q.1 (fun i hi _ => by
      have o1 := onR_ok (rd := rd) (show 2 * i < 2 * q.1 by omega)
      have o2 := onR_ok (rd := rd) (show 2 * i + 1 < 2 * q.1 by omega)
      show root (bg q (onR q rd (rd (2 * i)))) = root (bg q (onR q rd (rd (2 * i + 1))))
      rw [root_rd h o1.1 (by omega) o1.2, root_rd h o2.1 (by omega) o2.2, bg_e, bg_o]
      exact h.2.2.2.2.1.2.2 i hi)
    have e : lbR q rd q.1 (rd (hiv g q v)) = lbR q rd q.1 (rd (hiv g q w)) := e
    have a1 := hiv_at h hv
    have a2 := hiv_at h hw
    have h1 := hR (rd (hiv g q v))
    have h2 := hR (rd (hiv g q w))
    have o1 := onR_ok (rd := rd) a1.1
    have o2 := onR_ok (rd := rd) a2.1
    have h3 : root (bg q (onR q rd (rd (hiv g q v)))) = root (bg q (onR q rd (rd (hiv g q w)))) := h1.trans (by rw [e]; exact h2.symm)
    rw [root_rd h o1.1 a1.1 o1.2, root_rd h o2.1 a2.1 o2.2, a1.2, a2.2, of_decide_eq_true hp, of_decide_eq_true hq] at h3
    exact h3
/-- the rounds around a component are as many as the components -/
theorem ar_comp (h : FH n g q root rd c lo ou) : cnt (arF n g q root rd) c ≤ cnt (fun v => decide (root v = v)) (vI g n).1 := by
  refine cnt_into lo (fun u hu hp => ?_) (fun u w hu hw hp hq e => ?_)
  · obtain ⟨a1, a2, -⟩ := ar_root h hu hp
    exact ⟨a1, decide_eq_true a2⟩
  · obtain ⟨-, -, a3⟩ := ar_root h hu hp
    obtain ⟨-, -, b3⟩ := ar_root h hw hq
    rw [a3, b3, e]
theorem nt_na (h : FH n g q root rd c lo ou) : cnt (fun u => !arF n g q root rd u) c = cnt (ntE q) q.1 := by
  have h1 := na_le h
  have h2 := lbR_cnt h q.1 (Nat.le_refl _)
  have h3 := lbR_comp h
  have h4 := ar_comp h
  have h5 := cnt_not (arF n g q root rd) c
  omega
/-- each edge that joins something makes the roots one fewer -/
theorem pU_cnt {nV : Nat} (hw : eW q nV) : ∀ e, e ≤ q.1 → cnt (fun v => decide (pU q e v = v)) nV + e = nV + cnt (ntE q) e := by
  intro e
  induction e with
  | zero =>
    intro _
    rw [show cnt (fun v => decide (pU q 0 v = v)) nV = cnt (fun _ => true) nV from cnt_congr (fun i _ => decide_eq_true rfl), cnt_true]; rfl
  | succ e ih =>
    intro he
    have i0 := ih (by omega)
    have hj := pU_inv hw e (by omega)
    obtain ⟨w1, w2⟩ := hw e (by omega)
    rw [cnt, pU]
    by_cases z : pU q e (eF q e) = pU q e (eT q e)
    · rw [if_pos z, show ntE q e = true from decide_eq_true z, if_pos rfl]; omega
    · rw [if_neg z, show ntE q e = false from decide_eq_false z, if_neg Bool.false_ne_true]
      by_cases y : pU q e (eF q e) < pU q e (eT q e)
      · rw [if_pos y]
        have := (jInv_step hj (by omega) w1 w2 (Or.inl ⟨rfl, rfl⟩) y).2
        omega
      · rw [if_neg y]
        have := (jInv_step hj (by omega) w1 w2 (Or.inr ⟨rfl, rfl⟩) (by omega)).2
        omega
theorem roots_eq {nV : Nat} {p p' : Nat → Nat} (h : rootOk q nV p) (h' : rootOk q nV p') : cnt (fun v => decide (p v = v)) nV ≤ cnt (fun v => decide (p' v = v)) nV := by
  refine cnt_into (fun v => v) (fun v hv hp => ⟨hv, decide_eq_true ?_⟩) (fun _ _ _ _ _ _ w => w)
  have hp := of_decide_eq_true hp
  have h1 := h'.1 v hv
  have h2 := root_conn h (h'.2.1 v hv)
  have h3 := h.1 (p' v) (by omega)
  omega
/-- EULER: faces and vertices are two more than edges, but for the components -/
theorem euler (h : FH n g q root rd c lo ou) : cnt (fun u => !arF n g q root rd u) c + (vI g n).1 = q.1 + cnt (fun v => decide (root v = v)) (vI g n).1 := by
  have hw : eW q (vI g n).1 := fun e he => ⟨(eF_lt h.2.1 he).1, (eF_lt h.2.1 he).2⟩
  have h1 := nt_na h
  have h2 := pU_cnt hw q.1 (Nat.le_refl _)
  have hj := pU_inv hw q.1 (Nat.le_refl _)
  have hp : rootOk q (vI g n).1 (pU q q.1) := ⟨hj.1, hj.2.2.1, hj.2.2.2⟩
  have h3 := roots_eq hp h.2.2.2.2.1
  have h4 := roots_eq h.2.2.2.2.1 hp
  omega
end EUL
