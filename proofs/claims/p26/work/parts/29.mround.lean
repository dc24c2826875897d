/-! ### the reference goes round a face -/
def vis (f : Nat → Nat) (a : Nat) : Nat → Nat → Bool
  | 0, _ => false
  | i + 1, s => vis f a i s || decide (itf f i a = s)
theorem vis_iff (f : Nat → Nat) (a : Nat) : ∀ i s, vis f a i s = true ↔ ∃ j, j < i ∧ itf f j a = s := by
  intro i
  induction i with
  | zero => intro s; exact ⟨(fun h => by cases h), fun ⟨j, h, _⟩ => by omega⟩
  | succ i ih =>
    intro s
    rw [vis, Bool.or_eq_true, ih, decide_eq_true_iff]
    constructor
    · rintro (⟨j, h1, h2⟩ | h)
      · exact ⟨j, by omega, h2⟩
      · exact ⟨i, by omega, h⟩
    · rintro ⟨j, h1, h2⟩
      rcases Nat.lt_or_ge j i with z | z
      · exact Or.inl ⟨j, z, h2⟩
      · have e : j = i := by omega
        subst e; exact Or.inr h2
def mrk (f : Nat → Nat) (a c i : Nat) (r : Nat → Option Nat) : Nat → Option Nat := fun s => if vis f a i s then some c else r s
def stp (g : Nat → Sg) (q : ES) (p : Nat × Nat) (x : Nat) : Nat × Nat := if bg q x < p.1 ∨ (bg q x = p.1 ∧ 0 < wc g q x p.2) then (bg q x, x) else p
def lof (g : Nat → Sg) (q : ES) (f : Nat → Nat) (a : Nat) : Nat → Nat × Nat
  | 0 => (bg q a, a)
  | i + 1 => stp g q (lof g q f a i) (itf f i a)
theorem lof_mem (g : Nat → Sg) (q : ES) (f : Nat → Nat) (a : Nat) : ∀ i, (∃ j, (j < i ∨ j = 0) ∧ (lof g q f a i).2 = itf f j a) ∧ bg q (lof g q f a i).2 = (lof g q f a i).1 := by
  intro i
  induction i with
  | zero => exact ⟨⟨0, Or.inr rfl, rfl⟩, rfl⟩
  | succ i ih =>
    obtain ⟨⟨j, h1, h2⟩, h3⟩ := ih
    rw [lof, stp]
    split
    · exact ⟨⟨i, Or.inl (by omega), rfl⟩, rfl⟩
    · exact ⟨⟨j, h1.imp (fun h => by omega) id, h2⟩, h3⟩
theorem lof_min (g : Nat → Sg) (q : ES) (f : Nat → Nat) (a : Nat) : ∀ i j, j < i → (lof g q f a i).1 ≤ bg q (itf f j a) := by
  intro i
  induction i with
  | zero => intro j h; omega
  | succ i ih =>
    intro j hj
    rw [lof, stp]
    split
    · next hc =>
      show bg q (itf f i a) ≤ _
      rcases Nat.lt_or_ge j i with z | z
      · have := ih j z; omega
      · have e : j = i := by omega
        subst e; exact Nat.le_refl _
    · next hc =>
      rcases Nat.lt_or_ge j i with z | z
      · exact ih j z
      · have e : j = i := by omega
        subst e
        rcases Nat.lt_or_ge (bg q (itf f j a)) (lof g q f a j).1 with y | y
        · exact absurd (Or.inl y) hc
        · exact y
theorem lof_key {n : Nat} {g : Nat → Sg} {q : ES} {f : Nat → Nat} {a : Nat} (hg : ∀ i, i < n → sOk (g i)) (hs : ∀ j, sgm q (itf f j a) < n) : ∀ i, 0 < i → (∀ j, j < i → bg q (itf f j a) = (lof g q f a i).1 → itf f j a % 2 = 0) → ∀ j, j < i → bg q (itf f j a) = (lof g q f a i).1 → key n g q (lof g q f a i).2 ≤ key n g q (itf f j a) := by
  intro i
  induction i with
  | zero => intro h; omega
  | succ i ih =>
    intro _ he j hj hb
    rcases Nat.eq_zero_or_pos i with hi | hi
    · subst hi
      have e : j = 0 := by omega
      subst e
      have e2 : (lof g q f a 1).2 = a := by
        rw [lof, stp]; split
        · rfl
        · rfl
      show key n g q (lof g q f a 1).2 ≤ _
      rw [e2]; exact Nat.le_refl _
    · obtain ⟨⟨k, k1, k2⟩, k3⟩ := lof_mem g q f a i
      have hk : k < i := by omega
      have hmin := lof_min g q f a i
      rw [lof] at he hb ⊢
      unfold stp at he hb ⊢
      by_cases hc : bg q (itf f i a) < (lof g q f a i).1 ∨ (bg q (itf f i a) = (lof g q f a i).1 ∧ 0 < wc g q (itf f i a) (lof g q f a i).2)
      · rw [if_pos hc] at he hb ⊢
        show key n g q (itf f i a) ≤ _
        have hb : bg q (itf f j a) = bg q (itf f i a) := hb
        rcases Nat.lt_or_ge j i with z | z
        · have h1 := hmin j z
          rcases hc with hc | ⟨hc, hw⟩
          · omega
          · have e1 : itf f i a % 2 = 0 := he i (by omega) rfl
            have e2 : (lof g q f a i).2 % 2 = 0 := by rw [k2]; exact he k (by omega) (by show bg q (itf f k a) = bg q (itf f i a); rw [← k2, k3, hc])
            have h2 := ((wc_sign (q := q) hg (hs i) (by rw [k2]; exact hs k)).2).mp hw
            rw [if_pos (by omega)] at h2
            have h3 := ih hi (fun j' hj' hb' => he j' (by omega) (by show bg q (itf f j' a) = bg q (itf f i a); omega)) j z (by omega)
            have h4 : key n g q (itf f i a) ≤ key n g q (lof g q f a i).2 := by unfold key; rw [e1, e2]; omega
            omega
        · have e : j = i := by omega
          subst e; exact Nat.le_refl _
      · rw [if_neg hc] at he hb ⊢
        rcases Nat.lt_or_ge j i with z | z
        · exact ih hi (fun j' hj' hb' => he j' (by omega) hb') j z hb
        · have e : j = i := by omega
          subst e
          have e1 : itf f j a % 2 = 0 := he j (by omega) hb
          have e2 : (lof g q f a j).2 % 2 = 0 := by rw [k2]; exact he k (by omega) (by rw [← k2, k3])
          have hw : ¬ 0 < wc g q (itf f j a) (lof g q f a j).2 := fun w => hc (Or.inr ⟨hb, w⟩)
          have h2 := mt ((wc_sign (q := q) hg (hs j) (by rw [k2]; exact hs k)).2).mpr hw
          rw [if_pos (by omega)] at h2
          unfold key; rw [e1, e2]; omega
section MRD
variable {F : Nat} {g : Nat → Sg} {n : Nat} {q : ES}
/-- what going round writes: the rounds, and of one round its lowest vertex and way -/
def mFrR (c : Nat) (M M2 : MS) : Prop := M2.2.2 = M.2.2 ∧ M2.1 = M.1 ∧ (∀ j, j ≠ 15 → j ≠ 17 → j ≠ 18 → j ≠ 19 → M2.2.1 j = M.2.1 j) ∧ ∀ r, r ≠ c → M2.2.1 17 r = M.2.1 17 r ∧ M2.2.1 18 r = M.2.1 18 r ∧ M2.2.1 19 r = M.2.1 19 r
theorem mFrR.trans {c : Nat} {M M2 M3 : MS} (h : mFrR c M M2) (h2 : mFrR c M2 M3) : mFrR c M M3 := ⟨h2.1.trans h.1, h2.2.1.trans h.2.1, fun j a b d e => (h2.2.2.1 j a b d e).trans (h.2.2.1 j a b d e), fun r hr => ⟨(h2.2.2.2 r hr).1.trans (h.2.2.2 r hr).1, (h2.2.2.2 r hr).2.1.trans (h.2.2.2 r hr).2.1, (h2.2.2.2 r hr).2.2.trans (h.2.2.2 r hr).2.2⟩⟩
theorem mCo_frR {c : Nat} {M M0 : MS} (h : mCo M0 n g) (hf : mFrR c M0 M) : mCo M n g := fun i hi => by
  rw [hf.2.2.1 1 (by decide) (by decide) (by decide) (by decide), hf.2.2.1 2 (by decide) (by decide) (by decide) (by decide), hf.2.2.1 3 (by decide) (by decide) (by decide) (by decide), hf.2.2.1 4 (by decide) (by decide) (by decide) (by decide)]; exact h i hi
theorem mEdg_frR {c : Nat} {M M0 : MS} (h : mEdg M0 q) (hf : mFrR c M0 M) : mEdg M q := ⟨by rw [hf.2.1]; exact h.1, fun i hi => by unfold mE3; rw [hf.2.2.1 12 (by decide) (by decide) (by decide) (by decide), hf.2.2.1 13 (by decide) (by decide) (by decide) (by decide), hf.2.2.1 14 (by decide) (by decide) (by decide) (by decide)]; exact h.2 i hi⟩
theorem mpA_s (M : MS) (k : Nat) (f : Nat → Int32) : (mpA M k f).2.1 k = f := va_up_self _ _ _
theorem mpA_n (M : MS) {k j : Nat} (f : Nat → Int32) (h : j ≠ k) : (mpA M k f).2.1 j = M.2.1 j := va_up_ne _ _ h
theorem e_gr36 {M0 : MS} (hF : 1000 ≤ F) (hco : mCo M0 n g) (hg : ∀ i, i < n → sOk (g i)) (hn : n ≤ 13) (hE : mEdg M0 q) (hq : q.1 ≤ 158) (hsg : ∀ e, e < q.1 → eS q e < n) (hbb : ∀ s, s < 2 * q.1 → bg q s < 2147483648) {c : Nat} (hc : c < 320) (h16 : M0.1 16 = nI c) {a L : Nat} (ha : a < 2 * q.1) (hL0 : 0 < L) (hL : itf (nxt n g q) L a = a) (hap : ∀ i j, i < j → j < L → itf (nxt n g q) i a ≠ itf (nxt n g q) j a) {r : Nat → Option Nat} (hr : ∀ i, r (itf (nxt n g q) i a) = none) :
    ∀ (d m i : Nat) (M : MS), i + d = L → d < m → (∀ s, s < 2 * q.1 → M.2.1 15 s = oI (mrk (nxt n g q) a c i r s)) → M.2.1 17 c = nI (lof g q (nxt n g q) a i).1 → M.2.1 18 c = nI (lof g q (nxt n g q) a i).2 → M.2.1 19 c = 0 → mFrR c M0 M → ∃ M2, f_goesRound_L36 F m M (nI (itf (nxt n g q) i a)) = some M2 ∧ (∀ s, s < 2 * q.1 → M2.2.1 15 s = oI (mrk (nxt n g q) a c L r s)) ∧ M2.2.1 17 c = nI (lof g q (nxt n g q) a L).1 ∧ M2.2.1 18 c = nI (lof g q (nxt n g q) a L).2 ∧ M2.2.1 19 c = 0 ∧ mFrR c M0 M2 := by
  have hlt : ∀ i, itf (nxt n g q) i a < 2 * q.1 := fun i => itf_lt (fun x hx => nxt_lt hx) ha i
  have hseg : ∀ s, s < 2 * q.1 → sgm q s < n := fun s hs => hsg _ (by omega)
  intro d
  induction d with
  | zero =>
    intro m i M hi hm h15 h17 h18 h19 hf
    obtain ⟨m, rfl⟩ : ∃ x, m = x + 1 := ⟨m - 1, by omega⟩
    have e : i = L := by omega
    subst e
    refine ⟨M, ?_, h15, h17, h18, h19, hf⟩
    rw [f_goesRound_L36, hL, rdI_at (by omega) (by decide), h15 a ha]
    have hv : mrk (nxt n g q) a c i r a = some c := by
      have hvv : vis (nxt n g q) a i a = true := (vis_iff _ _ _ _).mpr ⟨0, hL0, rfl⟩
      unfold mrk; rw [if_pos hvv]
    rw [hv, if_neg (fun w => by have := (oI_m1 (o := some c) (fun u hu => by cases hu; omega)).mp w; cases this)]
  | succ d ih =>
    intro m i M hi hm h15 h17 h18 h19 hf
    obtain ⟨m, rfl⟩ : ∃ x, m = x + 1 := ⟨m - 1, by omega⟩
    have hx := hlt i
    generalize hxe : itf (nxt n g q) i a = x at *
    have hnone : mrk (nxt n g q) a c i r x = none := by
      unfold mrk
      rw [if_neg (fun w => by
        obtain ⟨j, h1, h2⟩ := (vis_iff _ _ _ _).mp w
        exact hap j i h1 (by omega) (h2.trans hxe.symm)), ← hxe]
      exact hr i
    have h16M : M.1 16 = nI c := by rw [hf.2.1]; exact h16
    rw [f_goesRound_L36, rdI_at (by omega) (by decide), h15 x hx, hnone, if_pos (show oI none = -1 from rfl), h16M, wrI_at (by omega) (by decide)]
    generalize hM7 : mpA M 15 (upd (M.2.1 15) x (nI c)) = M7
    have hf7 : mFrR c M M7 := by
      subst hM7
      exact ⟨rfl, rfl, fun j a _ _ _ => mpA_n _ _ a, fun r hr => ⟨by rw [mpA_n _ _ (by decide)], by rw [mpA_n _ _ (by decide)], by rw [mpA_n _ _ (by decide)]⟩⟩
    have hE7 : mEdg M7 q := mEdg_frR hE (hf.trans hf7)
    have hco7 : mCo M7 n g := mCo_frR hco (hf.trans hf7)
    have h16' : M7.1 16 = nI c := by rw [hf7.2.1]; exact h16M
    have a17 : M7.2.1 17 c = nI (lof g q (nxt n g q) a i).1 := by rw [← hM7, mpA_n _ _ (by decide)]; exact h17
    have a18 : M7.2.1 18 c = nI (lof g q (nxt n g q) a i).2 := by rw [← hM7, mpA_n _ _ (by decide)]; exact h18
    have a19 : M7.2.1 19 c = 0 := by rw [← hM7, mpA_n _ _ (by decide)]; exact h19
    have a15 : ∀ s, s < 2 * q.1 → M7.2.1 15 s = oI (mrk (nxt n g q) a c (i + 1) r s) := by
      intro s hs
      rw [← hM7, mpA_s]
      unfold mrk
      rw [vis, hxe]
      by_cases z : s = x
      · rw [z, upI_s, decide_eq_true rfl, Bool.or_true]; rfl
      · rw [upI_n z, decide_eq_false (fun w => z w.symm), Bool.or_false]; exact h15 s hs
    rw [e_begin hE7 hq hx, cal_some, h16', rdI_at (by omega) (by decide), a17]
    obtain ⟨⟨k, k1, k2⟩, k3⟩ := lof_mem g q (nxt n g q) a i
    have hou : (lof g q (nxt n g q) a i).2 < 2 * q.1 := by rw [k2]; exact hlt k
    have hlo : (lof g q (nxt n g q) a i).1 < 2147483648 := by rw [← k3]; exact hbb _ hou
    have el : lof g q (nxt n g q) a (i + 1) = stp g q (lof g q (nxt n g q) a i) x := by rw [lof, hxe]
    -- the end of a step
    have fin : ∀ fl : Bool, (if fl then (bg q x, x) else lof g q (nxt n g q) a i) = lof g q (nxt n g q) a (i + 1) → ∃ M2, f_goesRound_b110 F (f_goesRound_L36 F m) M7 (nI x) (nI (bg q x)) (bI fl) = some M2 ∧ (∀ s, s < 2 * q.1 → M2.2.1 15 s = oI (mrk (nxt n g q) a c L r s)) ∧ M2.2.1 17 c = nI (lof g q (nxt n g q) a L).1 ∧ M2.2.1 18 c = nI (lof g q (nxt n g q) a L).2 ∧ M2.2.1 19 c = 0 ∧ mFrR c M0 M2 := by
      intro fl hfl
      have tail : ∀ u w : Nat, u = (lof g q (nxt n g q) a (i + 1)).1 → w = (lof g q (nxt n g q) a (i + 1)).2 → ∃ M2, f_goesRound_b165 F (f_goesRound_L36 F m) (mpA M7 18 (upd (M7.2.1 18) c (nI w))) (nI x) (nI u) (nI c) = some M2 ∧ (∀ s, s < 2 * q.1 → M2.2.1 15 s = oI (mrk (nxt n g q) a c L r s)) ∧ M2.2.1 17 c = nI (lof g q (nxt n g q) a L).1 ∧ M2.2.1 18 c = nI (lof g q (nxt n g q) a L).2 ∧ M2.2.1 19 c = 0 ∧ mFrR c M0 M2 := by
        intro u w hu hw
        unfold f_goesRound_b165
        rw [wrI_at (by omega) (by decide)]
        generalize hM9 : mpA (mpA M7 18 (upd (M7.2.1 18) c (nI w))) 17 (upd ((mpA M7 18 (upd (M7.2.1 18) c (nI w))).2.1 17) c (nI u)) = M9
        have hf9 : mFrR c M7 M9 := by
          subst hM9
          refine ⟨rfl, rfl, fun j a b d e => by rw [mpA_n _ _ b, mpA_n _ _ d], fun r hr => ⟨?_, ?_, ?_⟩⟩
          · rw [mpA_s, upI_n hr, mpA_n _ _ (by decide)]
          · rw [mpA_n _ _ (by decide), mpA_s, upI_n hr]
          · rw [mpA_n _ _ (by decide), mpA_n _ _ (by decide)]
        have hfa := (hf.trans hf7).trans hf9
        rw [e_next hF (mCo_frR hco hfa) hg hn (mEdg_frR hE hfa) hq hsg hbb hx, cal_some, show nxt n g q x = itf (nxt n g q) (i + 1) a by rw [itf, hxe]]
        refine ih m (i + 1) M9 (by omega) (by omega) (fun s hs => ?_) ?_ ?_ ?_ hfa
        · rw [hf9.2.2.1 15 |> fun _ => show M9.2.1 15 = M7.2.1 15 by rw [← hM9, mpA_n _ _ (by decide), mpA_n _ _ (by decide)]]
          exact a15 s hs
        · rw [← hM9, mpA_s, upI_s, hu]
        · rw [← hM9, mpA_n _ _ (by decide), mpA_s, upI_s, hw]
        · rw [← hM9, mpA_n _ _ (by decide), mpA_n _ _ (by decide)]; exact a19
      unfold f_goesRound_b110
      cases fl
      · rw [if_pos (show bI false = 0 from rfl), h16', rdI_at (by omega) (by decide), a18]
        unfold f_goesRound_b138
        rw [wrI_at (by omega) (by decide), if_pos (show bI false = 0 from rfl)]
        have e16 : (mpA M7 18 (upd (M7.2.1 18) c (nI (lof g q (nxt n g q) a i).2))).1 16 = nI c := h16'
        rw [e16, rdI_at (by omega) (by decide), mpA_n _ _ (by decide), a17]
        exact tail _ _ (by rw [← hfl]; rfl) (by rw [← hfl]; rfl)
      · rw [if_neg (show ¬ bI true = 0 by decide), h16']
        unfold f_goesRound_b138
        rw [wrI_at (by omega) (by decide), if_neg (show ¬ bI true = 0 by decide)]
        have e16 : (mpA M7 18 (upd (M7.2.1 18) c (nI x))).1 16 = nI c := h16'
        rw [e16]
        exact tail _ _ (by rw [← hfl]; rfl) (by rw [← hfl]; rfl)
    have hl1 : nI (bg q x) < nI (lof g q (nxt n g q) a i).1 ↔ bg q x < (lof g q (nxt n g q) a i).1 := nI_ltI (hbb x hx) hlo
    have he1 : nI (bg q x) = nI (lof g q (nxt n g q) a i).1 ↔ bg q x = (lof g q (nxt n g q) a i).1 := nI_eq (hbb x hx) hlo
    by_cases y1 : bg q x < (lof g q (nxt n g q) a i).1
    · rw [if_pos (hl1.mpr y1)]
      exact fin true (by rw [el, stp, if_pos (Or.inl y1)]; rfl)
    · rw [if_neg (fun w => y1 (hl1.mp w)), rdI_at (by omega) (by decide), a17]
      by_cases y2 : bg q x = (lof g q (nxt n g q) a i).1
      · rw [if_pos (he1.mpr y2), rdI_at (by omega) (by decide), a18, e_wayCross hco7 hn hE7 hq hx hou (hseg x hx) (hseg _ hou), cal_some]
        have kw := i32_of _ (wc_bd (g := g) (q := q) (hg _ (hseg x hx)) (hg _ (hseg _ hou))) (by omega)
        by_cases y3 : 0 < wc g q x (lof g q (nxt n g q) a i).2
        · rw [if_neg (fun w => by have := (zI_le0 kw).mp w; omega)]
          exact fin true (by rw [el, stp, if_pos (Or.inr ⟨y2, y3⟩)]; rfl)
        · rw [if_pos ((zI_le0 kw).mpr (by omega))]
          exact fin false (by rw [el]; exact (if_neg (fun w => Or.elim w y1 (fun w => y3 w.2)) : stp g q (lof g q (nxt n g q) a i) x = lof g q (nxt n g q) a i).symm)
      · rw [if_neg (fun w => y2 (he1.mp w))]
        exact fin false (by rw [el]; exact (if_neg (fun w => Or.elim w y1 (fun w => y2 w.1)) : stp g q (lof g q (nxt n g q) a i) x = lof g q (nxt n g q) a i).symm)
end MRD
