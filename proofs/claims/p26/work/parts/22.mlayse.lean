/-! ### the reference's edges -/
def mE3 (M : MS) (i : Nat) (e : Nat × Nat × Nat) : Prop := M.2.1 12 i = nI e.1 ∧ M.2.1 13 i = nI e.2.1 ∧ M.2.1 14 i = nI e.2.2
def mEdg (M : MS) (q : ES) : Prop := M.1 11 = nI q.1 ∧ ∀ i, i < q.1 → mE3 M i (q.2 i)
def mFrE (M M2 : MS) : Prop := M2.2.2 = M.2.2 ∧ (∀ j, j ≠ 11 → M2.1 j = M.1 j) ∧ ∀ j, j ≠ 12 → j ≠ 13 → j ≠ 14 → M2.2.1 j = M.2.1 j
theorem mFrE.trans {M M2 M3 : MS} (h : mFrE M M2) (h2 : mFrE M2 M3) : mFrE M M3 := ⟨h2.1.trans h.1, fun j hj => (h2.2.1 j hj).trans (h.2.1 j hj), fun j a b c => (h2.2.2 j a b c).trans (h.2.2 j a b c)⟩
theorem mFrE.rfl' {M : MS} : mFrE M M := ⟨rfl, fun _ _ => rfl, fun _ _ _ _ => rfl⟩
theorem mCo_frE {M M0 : MS} {n : Nat} {g : Nat → Sg} (h : mCo M0 n g) (hf : mFrE M0 M) : mCo M n g := fun i hi => by
  rw [hf.2.2 1 (by decide) (by decide) (by decide), hf.2.2 2 (by decide) (by decide) (by decide), hf.2.2 3 (by decide) (by decide) (by decide), hf.2.2 4 (by decide) (by decide) (by decide)]; exact h i hi
theorem mVer_frE {M M0 : MS} {n : Nat} {V : Nat → Pt} (h : mVer M0 n V) (hf : mFrE M0 M) : mVer M n V := ⟨(hf.2.1 5 (by decide)).trans h.1, fun i hi => by unfold mV4; rw [hf.1]; exact h.2 i hi⟩
def oI (o : Option Nat) : Int32 := match o with
  | none => -1
  | some u => nI u
theorem oI_m1 {o : Option Nat} (h : ∀ u, o = some u → u < 2147483648) : oI o = -1 ↔ o = none := by
  cases o with
  | none => exact ⟨fun _ => rfl, fun _ => rfl⟩
  | some u =>
    constructor
    · intro e
      exfalso
      have h1 : nI u = -1 := e
      exact nI_pos (h u rfl) (by rw [h1]; decide)
    · intro e; cases e
theorem upI_s {f : Nat → Int32} {k : Nat} {x : Int32} : upd f k x k = x := pk_us
theorem upI_n {f : Nat → Int32} {k j : Nat} {x : Int32} (h : j ≠ k) : upd f k x j = f j := pk_un h
theorem mpA_1 (M : MS) (k : Nat) (f : Nat → Int32) : (mpA M k f).1 = M.1 := rfl
theorem mE3_put {M M2 : MS} {k : Nat} {x1 x2 x3 : Int32} (h : M2 = mpA (mpA (mpA M 12 (upd (M.2.1 12) k x1)) 13 (upd (M.2.1 13) k x2)) 14 (upd (M.2.1 14) k x3)) :
    (M2.2.1 12 k = x1 ∧ M2.2.1 13 k = x2 ∧ M2.2.1 14 k = x3) ∧ (∀ i e, i ≠ k → mE3 M i e → mE3 M2 i e) ∧ M2.1 = M.1 ∧ mFrE M M2 := by
  subst h
  refine ⟨⟨upI_s, upI_s, upI_s⟩, fun i e hi he => ⟨(upI_n hi).trans he.1, (upI_n hi).trans he.2.1, (upI_n hi).trans he.2.2⟩, rfl, rfl, fun _ _ => rfl, fun j a b c => ?_⟩
  show va_up (va_up (va_up M.2.1 12 _) 13 _) 14 _ j = M.2.1 j
  rw [va_up_ne _ _ c, va_up_ne _ _ b, va_up_ne _ _ a]
section MLE
variable {F : Nat} {M0 : MS} {g : Nat → Sg} {n : Nat} {nV : Nat} {V : Nat → Pt}
theorem e_le19 (hco : mCo M0 n g) (hg : ∀ i, i < n → sOk (g i)) (hn : n ≤ 13) (hV : mVer M0 nV V) (hbv : ∀ i, i < nV → bV (V i)) (hnV : nV ≤ 99) {s : Nat} (hs : s < n) (k7 : MS → Int32 → Option MS) {q0 : ES} (hq : ∀ v, v ≤ nV → (eJ g V s v q0).1.1 ≤ 158) :
    ∀ (d m v : Nat) (M : MS), v + d = nV → d < m → mEdg M (eJ g V s v q0).1 → mFrE M0 M → ∃ M2, mEdg M2 (eJ g V s nV q0).1 ∧ mFrE M0 M2 ∧ f_laysEdges_L19 F k7 m M (nI s) (oI (eJ g V s v q0).2) (nI v) = k7 M2 (nI (s + 1)) := by
  intro d
  induction d with
  | zero =>
    intro m v M hv hm he hf
    obtain ⟨m, rfl⟩ : ∃ q, m = q + 1 := ⟨m - 1, by omega⟩
    have e : v = nV := by omega
    subst e
    refine ⟨M, he, hf, ?_⟩
    rw [f_laysEdges_L19, (mVer_frE hV hf).1, if_pos (Int32.le_refl _), nI_1]
  | succ d ih =>
    intro m v M hv hm he hf
    obtain ⟨m, rfl⟩ : ∃ q, m = q + 1 := ⟨m - 1, by omega⟩
    have hvn : v < nV := by omega
    have hVM := mVer_frE hV hf
    have hsz := hq v (by omega)
    obtain ⟨-, -, hu⟩ := eJ_cnt g V s q0 v
    rw [f_laysEdges_L19, hVM.1, if_neg (by rw [nI_leI (by omega) (by omega)]; omega), e_isOn (mCo_frE hco hf) hg hn hVM hbv hnV hvn hs, cal_some]
    cases hb : onB (g s) (V v)
    · rw [if_pos (show bI false = 0 from rfl)]
      unfold f_laysEdges_b87
      rw [nI_1]
      have e : eJ g V s (v + 1) q0 = eJ g V s v q0 := by rw [eJ, hb]; rfl
      rw [← e]
      exact ih m (v + 1) M (by omega) (by omega) (by rw [e]; exact he) hf
    · rw [if_neg (show ¬ bI true = 0 by decide)]
      have e2 : (eJ g V s (v + 1) q0).2 = some v := by rw [eJ, hb]; rfl
      obtain ⟨h11, hE⟩ := he
      simp only [h11, wrI_at (show (eJ g V s v q0).1.1 < 160 by omega) (show 160 < 2147483648 by decide), mpA_1]
      generalize hM2 : mpA (mpA (mpA M 12 (upd (M.2.1 12) (eJ g V s v q0).1.1 (nI s))) 13 (upd ((mpA M 12 (upd (M.2.1 12) (eJ g V s v q0).1.1 (nI s))).2.1 13) (eJ g V s v q0).1.1 (oI (eJ g V s v q0).2))) 14 (upd ((mpA (mpA M 12 (upd (M.2.1 12) (eJ g V s v q0).1.1 (nI s))) 13 (upd ((mpA M 12 (upd (M.2.1 12) (eJ g V s v q0).1.1 (nI s))).2.1 13) (eJ g V s v q0).1.1 (oI (eJ g V s v q0).2))).2.1 14) (eJ g V s v q0).1.1 (nI v)) = M2
      obtain ⟨g1, g2, g3, g4⟩ := mE3_put (M := M) (M2 := M2) (k := (eJ g V s v q0).1.1) (x1 := nI s) (x2 := oI (eJ g V s v q0).2) (x3 := nI v) hM2.symm
      cases ho : (eJ g V s v q0).2 with
      | none =>
        have e1 : (eJ g V s (v + 1) q0).1 = (eJ g V s v q0).1 := by rw [eJ, hb, ho]; rfl
        rw [if_pos (show oI none = -1 from rfl)]
        unfold f_laysEdges_b81 f_laysEdges_b87 wrF
        rw [nI_1]
        have hr := ih m (v + 1) (mpF M2 11 (nI (eJ g V s v q0).1.1 + 0)) (by omega) (by omega) ?_ ?_
        · rw [e2] at hr; exact hr
        · rw [e1]
          refine ⟨?_, fun i hi => g2 i _ (by omega) (hE i hi)⟩
          show va_up M2.1 11 _ 11 = _
          rw [va_up_self]; exact nI_add _ 0
        · exact hf.trans (g4.trans ⟨rfl, fun j hj => va_up_ne _ _ hj, fun _ _ _ _ => rfl⟩)
      | some u =>
        have hul := hu u ho
        have e1 : (eJ g V s (v + 1) q0).1 = epush (eJ g V s v q0).1 (s, u, v) := by rw [eJ, hb, ho]; rfl
        rw [if_neg (fun w => by have := (oI_m1 (o := some u) (fun x hx => by cases hx; omega)).mp w; cases this)]
        unfold f_laysEdges_b81 f_laysEdges_b87 wrF
        rw [nI_1]
        have hr := ih m (v + 1) (mpF M2 11 (nI (eJ g V s v q0).1.1 + 1)) (by omega) (by omega) ?_ ?_
        · rw [e2] at hr; exact hr
        · rw [e1]
          refine ⟨?_, fun i hi => ?_⟩
          · show va_up M2.1 11 _ 11 = _
            rw [va_up_self]; exact nI_1 _
          · show mE3 M2 i (if i = (eJ g V s v q0).1.1 then (s, u, v) else (eJ g V s v q0).1.2 i)
            by_cases w : i = (eJ g V s v q0).1.1
            · rw [if_pos w, w]; rw [ho] at g1; exact g1
            · have hi' : i < (eJ g V s v q0).1.1 + 1 := hi
              rw [if_neg w]; exact g2 i _ w (hE i (by omega))
        · exact hf.trans (g4.trans ⟨rfl, fun j hj => va_up_ne _ _ hj, fun _ _ _ _ => rfl⟩)
theorem e_le7 (hF : 1000 ≤ F) (hco : mCo M0 n g) (h0 : M0.1 0 = nI n) (hg : ∀ i, i < n → sOk (g i)) (hn : n ≤ 13) (hV : mVer M0 nV V) (hbv : ∀ i, i < nV → bV (V i)) (hnV : nV ≤ 99) (hq : ∀ s v, s < n → v ≤ nV → (eJ g V s v (eI g V nV s)).1.1 ≤ 158) :
    ∀ (d m s : Nat) (M : MS), s + d = n → d < m → mEdg M (eI g V nV s) → mFrE M0 M → ∃ M2, f_laysEdges_L7 F m M (nI s) = some M2 ∧ mEdg M2 (eI g V nV n) ∧ mFrE M0 M2 := by
  intro d
  induction d with
  | zero =>
    intro m s M hs hm he hf
    obtain ⟨m, rfl⟩ : ∃ q, m = q + 1 := ⟨m - 1, by omega⟩
    have e : s = n := by omega
    subst e
    refine ⟨M, ?_, he, hf⟩
    rw [f_laysEdges_L7, hf.2.1 0 (by decide), h0, if_pos (Int32.le_refl _)]
  | succ d ih =>
    intro m s M hs hm he hf
    obtain ⟨m, rfl⟩ : ∃ q, m = q + 1 := ⟨m - 1, by omega⟩
    have hsn : s < n := by omega
    rw [f_laysEdges_L7, hf.2.1 0 (by decide), h0, if_neg (by rw [nI_leI (by omega) (by omega)]; omega)]
    obtain ⟨M2, g1, g2, g3⟩ := e_le19 (F := F) hco hg hn hV hbv hnV hsn (f_laysEdges_L7 F m) (q0 := eI g V nV s) (fun v hv => hq s v hsn hv) nV F 0 M (by omega) (by omega) he hf
    have g3 : f_laysEdges_L19 F (f_laysEdges_L7 F m) F M (nI s) (-1) 0 = f_laysEdges_L7 F m M2 (nI (s + 1)) := g3
    rw [g3]
    exact ih m (s + 1) M2 (by omega) (by omega) (by rw [eI]; exact g1) g2
theorem eJ_158 {g : Nat → Sg} {n : Nat} (h : gOk n g) (hn : n ≤ 12) {s v : Nat} (hs : s < n) (hv : v ≤ (vI g n).1) : (eJ g (vI g n).2 s v (eI g (vI g n).2 (vI g n).1 s)).1.1 ≤ 158 := by
  have h1 := eI_le h hn s (by omega)
  have h2 := eJ_le g (vI g n).2 s (eI g (vI g n).2 (vI g n).1 s) v
  have h3 := on_13 h hs (fun v => onB (g s) ((vI g n).2 v)) (fun v _ hp => onB_iff.mp hp)
  have h4 := cnt_mono (fun v => onB (g s) ((vI g n).2 v)) hv
  omega
theorem e_laysEdges (hF : 1000 ≤ F) (hco : mCo M0 n g) (h0 : M0.1 0 = nI n) (hg : gOk n g) (hn : n ≤ 12) (hV : mVer M0 (vI g n).1 (vI g n).2) :
    ∃ M2, f_laysEdges F M0 = some M2 ∧ mEdg M2 (eI g (vI g n).2 (vI g n).1 n) ∧ mFrE M0 M2 := by
  have hc := vI_cnt g n
  have ht := tri_le n (by omega)
  unfold f_laysEdges wrF
  have hf : mFrE M0 (mpF M0 11 0) := ⟨rfl, fun j hj => va_up_ne _ _ hj, fun _ _ _ _ => rfl⟩
  exact e_le7 hF hco h0 hg.1 (by omega) hV (vI_good hg.1 n (Nat.le_refl _)).2 (by omega) (fun s v hs hv => eJ_158 hg hn hs hv) n F 0 (mpF M0 11 0) (by omega) (by omega) ⟨rfl, fun i h => by have : i < 0 := h; omega⟩ hf
end MLE
