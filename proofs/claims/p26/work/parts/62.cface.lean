/-! ### the class's faces: painting one round, a face more -/
theorem cnt_or {P Q : Nat → Bool} {N : Nat} (h : ∀ s, s < N → P s = true → Q s = false) : cnt (fun s => P s || Q s) N = cnt P N + cnt Q N := by
  induction N with
  | zero => rfl
  | succ N ih =>
    rw [cnt, cnt, cnt, ih (fun s hs => h s (by omega))]
    have := h N (by omega)
    cases hp : P N
    · cases hq : Q N <;> simp <;> omega
    · rw [this hp]; simp; omega
theorem cnt_vis {f : Nat → Nat} {a N : Nat} (hm : ∀ i, itf f i a < N) {L : Nat} (hd : ∀ i j, i < j → j < L → itf f i a ≠ itf f j a) : ∀ i, i ≤ L → cnt (vis f a i) N = i := by
  intro i
  induction i with
  | zero => intro _; exact cnt_0.mpr (fun _ _ => rfl)
  | succ i ih =>
    intro hi
    have h0 : vis f a i (itf f i a) = false := by
      cases h : vis f a i (itf f i a)
      · rfl
      · obtain ⟨j, j1, j2⟩ := (vis_iff f a i _).mp h
        exact absurd j2 (hd j i j1 (by omega))
    rw [cnt_add1 (P := vis f a i) (Q := vis f a (i + 1)) (x := itf f i a) h0 (fun s => by
      rw [vis]
      congr 1
      exact decide_eq_decide.mpr ⟨fun w => w.symm, fun w => w.symm⟩) N, ih (by omega), if_pos (hm i)]
theorem nI_sm (k : Nat) : nI (k + 1) - 1 = nI k := by
  rw [nI_zI, show (1 : Int32) = zI 1 from rfl, zI_sub, nI_zI]
  congr 1; omega
section CFA
variable {F : Nat} {S : CS} {D : CD} {A : Nat → Nat} {n nV : Nat} {g : Nat → Sg} {q : ES} {rd fo : Nat → Nat} {ar : Nat → Bool} {c : Nat} {lo ou : Nat → Nat}
/-- nF faces are there, the rounds in Pd are painted -/
def fSt (D : CD) (A : Nat → Nat) (q : ES) (rd fo : Nat → Nat) (ar : Nat → Bool) (c : Nat) (lo : Nat → Nat) (nF : Nat) (Pd : Nat → Bool) : Prop :=
  (∀ s, s < 2 * q.1 → D.2.2.1 (A 29) s = oI (if Pd (rd s) then some (fo (rd s)) else none)) ∧ D.1 (A 6) 2 = nI nF ∧ D.2.2.1 (A 32) 0 = -1 ∧ (∀ u, u < c → ar u = false → fo u < nF → D.2.2.1 (A 32) (fo u) = nI (lo u)) ∧
  (∀ x, x < nF → D.2.2.1 (A 33) x = nI (cnt (fun s => Pd (rd s) && decide (fo (rd s) = x)) (2 * q.1))) ∧ ∀ u, u < c → Pd u = true → fo u < nF
theorem k_paint (hF : 1000 ≤ F) (hL : cLay S A) (hq : q.1 ≤ 144) (hk : ∀ s t, s < 2 * q.1 → t < 2 * q.1 → bg q s = bg q t → key n g q s = key n g q t → s = t) (hr : rdOk n g q rd c lo ou) {Q : Nat → Bool} (hR : cRng n nV g q D A Q) (hQ : ∀ s, s < 2 * q.1 → Q s = true) {nF : Nat} (hnF : nF ≤ 56) {Pd : Nat → Bool} (h : fSt D A q rd fo ar c lo nF Pd) {a : Nat} (ha : a < 2 * q.1) (hPa : Pd (rd a) = false) (hfa : fo (rd a) < nF) :
    ∃ D2, f_X6_paintBorder F S D (A 0) (nI a) (nI (fo (rd a))) = some D2 ∧ cFrR A [29, 33] D D2 ∧ fSt D2 A q rd fo ar c lo nF (fun u => Pd u || decide (u = rd a)) := by
  obtain ⟨f1, f2⟩ := prv_ok hR hQ hq hk
  obtain ⟨L, l1, l2, l3, l4, l5, l6⟩ := fBack_vis hk f1 hr ha
  obtain ⟨s1, s2, s3, s4, s5, s6⟩ := h
  have hm : ∀ x, x < 2 * q.1 → prv D A x < 2 * q.1 := fun x hx => (f1 x hx).1
  obtain ⟨D2, b1, b2, b3, b4, b5⟩ := k_pb5 (F := F) (D := D) hL (N := 2 * q.1) (by omega) f2 hm (a := a) (L := L) (fc := fo (rd a)) (c0 := cnt (fun s => Pd (rd s) && decide (fo (rd s) = fo (rd a))) (2 * q.1)) ha (by omega) l1 l2 l3 l4 (r := fun s => if Pd (rd s) then some (fo (rd s)) else none) (fun i hi => by
      show (if Pd (rd (itf (prv D A) i a)) then some (fo (rd (itf (prv D A) i a))) else none) = none
      rw [l5 i hi, hPa]; rfl) (fun s u hs hsu => by
      have hsu : (if Pd (rd s) then some (fo (rd s)) else none) = some u := hsu
      split at hsu
      · next hp => cases hsu; have := s6 _ (hr.1 s hs) hp; omega
      · cases hsu) (by have := cnt_le (fun s => Pd (rd s) && decide (fo (rd s) = fo (rd a))) (2 * q.1); omega) L F 0 D (by omega) (by omega) cFrR.rf (fun s hs => s1 s hs) (s5 _ hfa) (fun u _ => rfl)
  have n1 : ∀ i j, i < 124 → j < 124 → i ≠ j → A i ≠ A j := fun i j => ly_ne hL i j
  refine ⟨D2, b1, b2, fun s hs => ?_, by rw [b2.1]; exact s2, by rw [b2.row hL (j := 32) (by omega) (by decide)]; exact s3, fun u hu h1 h2 => by rw [b2.row hL (j := 32) (by omega) (by decide)]; exact s4 u hu h1 h2, fun x hx => ?_, fun u hu hp => ?_⟩
  · rw [b3 s hs]
    unfold mrk
    show oI (if vis (prv D A) a L s = true then some (fo (rd a)) else (if Pd (rd s) = true then some (fo (rd s)) else none)) = oI (if (Pd (rd s) || decide (rd s = rd a)) = true then some (fo (rd s)) else none)
    by_cases z : rd s = rd a
    · rw [if_pos ((l6 s hs).mpr z), z, decide_eq_true (p := rd a = rd a) rfl, Bool.or_true]; rfl
    · rw [if_neg (fun w => z ((l6 s hs).mp w)), decide_eq_false z, Bool.or_false]
  · by_cases z : x = fo (rd a)
    · subst z
      rw [b4]
      have hcv := cnt_vis (f := prv D A) (a := a) (N := 2 * q.1) (fun i => itf_lt hm ha i) l4 L (Nat.le_refl _)
      have hco := cnt_or (P := fun s => Pd (rd s) && decide (fo (rd s) = fo (rd a))) (Q := vis (prv D A) a L) (N := 2 * q.1) (fun s hs hp => by
        cases hv : vis (prv D A) a L s
        · rfl
        · rw [Bool.and_eq_true] at hp
          rw [(l6 s hs).mp hv, hPa] at hp
          cases hp.1)
      rw [hcv] at hco
      rw [← hco]
      congr 1
      refine cnt_congr (fun s hs => ?_)
      show (Pd (rd s) && decide (fo (rd s) = fo (rd a)) || vis (prv D A) a L s) = ((Pd (rd s) || decide (rd s = rd a)) && decide (fo (rd s) = fo (rd a)))
      by_cases y : rd s = rd a
      · rw [(l6 s hs).mpr y, y, decide_eq_true (p := rd a = rd a) rfl, decide_eq_true (p := fo (rd a) = fo (rd a)) rfl]; simp
      · have hv : vis (prv D A) a L s = false := by
          cases hv : vis (prv D A) a L s
          · rfl
          · exact absurd ((l6 s hs).mp hv) y
        rw [hv, decide_eq_false y, Bool.or_false, Bool.or_false]
    · rw [b5 x z, s5 x hx]
      congr 1
      refine cnt_congr (fun s hs => ?_)
      show (Pd (rd s) && decide (fo (rd s) = x)) = ((Pd (rd s) || decide (rd s = rd a)) && decide (fo (rd s) = x))
      by_cases y : rd s = rd a
      · rw [y, decide_eq_false (show ¬ fo (rd a) = x from fun w => z w.symm), Bool.and_false, Bool.and_false]
      · rw [decide_eq_false y, Bool.or_false]
  · rw [Bool.or_eq_true] at hp
    rcases hp with hp | hp
    · exact s6 u hu hp
    · rw [of_decide_eq_true hp]; exact hfa
theorem k_append1 (hL : cLay S A) {nF : Nat} (hnF : nF < 56) (h0 : 0 < nF) {Pd : Nat → Bool} (h : fSt D A q rd fo ar c lo nF Pd) (hrc : ∀ s, s < 2 * q.1 → rd s < c) {u : Nat} (hu : fo u = nF) (hinj : ∀ u', u' < c → ar u' = false → fo u' = nF → u' = u) :
    ∃ D2, f_X1_append F S D (A 6) (nI (lo u)) = some (D2, nI nF) ∧ D2.2.2.1 (A 28) = D.2.2.1 (A 28) ∧ D2.2.1 = D.2.1 ∧ D2.2.2.2 = D.2.2.2 ∧ (∀ b k, b ≠ A 6 ∨ k ≠ 2 → D2.1 b k = D.1 b k) ∧ (∀ b, b ≠ A 32 → b ≠ A 33 → D2.2.2.1 b = D.2.2.1 b) ∧ fSt D2 A q rd fo ar c lo (nF + 1) Pd := by
  obtain ⟨s1, s2, s3, s4, s5, s6⟩ := h
  have n1 : ∀ i j, i < 124 → j < 124 → i ≠ j → A i ≠ A j := fun i j => ly_ne hL i j
  have hc : ∀ (D : CD) (a : Nat) (f : Nat → Int32), (cpA D a f).1 = D.1 := fun _ _ _ => rfl
  have rb : ∀ b, b ≠ A 32 → b ≠ A 33 → (cpF (cpA (cpA D (A 32) (upd (D.2.2.1 (A 32)) nF (nI (lo u)))) (A 33) (upd (D.2.2.1 (A 33)) nF 0)) (A 6) 2 (nI (nF + 1))).2.2.1 b = D.2.2.1 b := by
    intro b h1 h2
    show (cpA (cpA D (A 32) _) (A 33) _).2.2.1 b = _
    rw [cpA_n _ _ h2, cpA_n _ _ h1]
  have r32 : (cpF (cpA (cpA D (A 32) (upd (D.2.2.1 (A 32)) nF (nI (lo u)))) (A 33) (upd (D.2.2.1 (A 33)) nF 0)) (A 6) 2 (nI (nF + 1))).2.2.1 (A 32) = upd (D.2.2.1 (A 32)) nF (nI (lo u)) := by
    show (cpA (cpA D (A 32) _) (A 33) _).2.2.1 (A 32) = _
    rw [cpA_n _ _ (n1 32 33 (by omega) (by omega) (by omega)), cpA_s]
  have r33 : (cpF (cpA (cpA D (A 32) (upd (D.2.2.1 (A 32)) nF (nI (lo u)))) (A 33) (upd (D.2.2.1 (A 33)) nF 0)) (A 6) 2 (nI (nF + 1))).2.2.1 (A 33) = upd (D.2.2.1 (A 33)) nF 0 := by
    show (cpA (cpA D (A 32) _) (A 33) _).2.2.1 (A 33) = _
    rw [cpA_s]
  refine ⟨_, ?_, rb _ (n1 28 32 (by omega) (by omega) (by omega)) (n1 28 33 (by omega) (by omega) (by omega)), rfl, rfl, fun b k hb => cpF_n _ _ hb, rb, fun s hs => ?_, cpF_s _ _ _ _, ?_, fun u' hu' h1 h2 => ?_, fun x hx => ?_, fun u' hu' hp => ?_⟩
  · unfold f_X1_append cfW
    rw [ly_k hL 6 (by decide) (by decide), ly_r hL 6 0 30 (by decide), ly_k hL 30 (by decide) (by decide), s2, k_set (rw_first hL) hnF, cal_some, ly_r hL 6 1 31 (by decide), ly_k hL 31 (by decide) (by decide), hc, s2, k_set (rw_side hL) hnF, cal_some, hc, hc, s2, nI_1, cpA_n _ _ (n1 33 32 (by omega) (by omega) (by omega))]
    show some (_, (cpF _ (A 6) 2 (nI (nF + 1))).1 (A 6) 2 - 1) = _
    rw [cpF_s, nI_sm]
  · rw [rb _ (n1 29 32 (by omega) (by omega) (by omega)) (n1 29 33 (by omega) (by omega) (by omega))]; exact s1 s hs
  · rw [r32, upI_n (by omega)]; exact s3
  · rw [r32]
    by_cases z : fo u' = nF
    · rw [z, upI_s, hinj u' hu' h1 z]
    · rw [upI_n z]; exact s4 u' hu' h1 (by omega)
  · rw [r33]
    by_cases z : x = nF
    · subst z
      rw [upI_s]
      have : cnt (fun s => Pd (rd s) && decide (fo (rd s) = x)) (2 * q.1) = 0 := cnt_0.mpr (fun s hs => by
        cases hp : Pd (rd s)
        · rfl
        · have := s6 _ (hrc s hs) hp
          rw [decide_eq_false (show ¬ fo (rd s) = x by omega)]; rfl)
      rw [this]; rfl
    · rw [upI_n z]; exact s5 x (by omega)
  · have := s6 u' hu' hp; omega
end CFA
