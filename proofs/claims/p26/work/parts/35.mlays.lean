/-! ### the whole map of the reference, and what it holds -/
section HS
variable {n : Nat} {g : Nat → Sg}
theorem sp_ne {s : Sg} (h : sOk s) : pS s ≠ pE s := by
  intro e
  have := (ltP_V (x := sX s) (y := sY s) (u := eX s) (v := eY s)).mp h.2
  have e : pS s = pE s := e
  rw [show (((sX s : Int) : Rat), ((sY s : Int) : Rat)) = (((eX s : Int) : Rat), ((eY s : Int) : Rat)) from e] at this
  exact ltV_irr _ this
theorem has_side (hg : gOk n g) {q : ES} (hE : EOk g (vI g n).2 n (vI g n).1 q) {v : Nat} (hv : v < (vI g n).1) : ∃ t, t < 2 * q.1 ∧ bg q t = v := by
  have hon : ∃ i, i < n ∧ onB (g i) ((vI g n).2 v) = true := by
    obtain ⟨i, hi, h⟩ := (vI_mem n).mp ⟨v, hv, rfl⟩
    refine ⟨i, hi, onB_iff.mpr ?_⟩
    rcases h with h | h | ⟨k, hk, h1, h2, h3⟩
    · rw [h]; exact onS_s (hg.1 i hi)
    · rw [h]; exact onS_e (hg.1 i hi)
    · rw [h3]; exact (meet_on (hg.1 i hi) (hg.1 k (by omega)) h1 h2).1
  obtain ⟨i, hi, hP⟩ := hon
  obtain ⟨a, ha, ha2⟩ := (vI_mem (g := g) (p := pS (g i)) n).mpr ⟨i, hi, Or.inl rfl⟩
  obtain ⟨b, hb, hb2⟩ := (vI_mem (g := g) (p := pE (g i)) n).mpr ⟨i, hi, Or.inr (Or.inl rfl)⟩
  have pa : onB (g i) ((vI g n).2 a) = true := onB_iff.mpr (by rw [ha2]; exact onS_s (hg.1 i hi))
  have pb : onB (g i) ((vI g n).2 b) = true := onB_iff.mpr (by rw [hb2]; exact onS_e (hg.1 i hi))
  have hab : a ≠ b := by
    intro e; subst e
    exact sp_ne (hg.1 i hi) (ha2.symm.trans hb2)
  have hw : ∃ w, w < (vI g n).1 ∧ w ≠ v ∧ onB (g i) ((vI g n).2 w) = true := by
    by_cases z : a = v
    · exact ⟨b, hb, by omega, pb⟩
    · exact ⟨a, ha, z, pa⟩
  obtain ⟨w, w1, w2, w3⟩ := hw
  rcases Nat.lt_or_ge v w with z | z
  · obtain ⟨x, ⟨x1, x2, x3⟩, x4⟩ := pk_least (fun x => v < x ∧ x < (vI g n).1 ∧ onB (g i) ((vI g n).2 x) = true) ⟨w, z, w1, w3⟩
    obtain ⟨e, e1, e2⟩ := hE.2.1 i v x hi x2 ⟨x1, hP, x3, fun k k1 k2 => by
      cases hk : onB (g i) ((vI g n).2 k)
      · rfl
      · exact absurd ⟨k1, by omega, hk⟩ (x4 k k2)⟩
    refine ⟨2 * e, by omega, ?_⟩
    unfold bg
    rw [if_pos (by omega), show 2 * e / 2 = e by omega]
    show (q.2 e).2.1 = v
    rw [e2]
  · obtain ⟨d, ⟨d1, d2, d3⟩, d4⟩ := pk_least (fun d => 0 < d ∧ d ≤ v ∧ onB (g i) ((vI g n).2 (v - d)) = true) ⟨v - w, by omega, by omega, by rw [show v - (v - w) = w by omega]; exact w3⟩
    obtain ⟨e, e1, e2⟩ := hE.2.1 i (v - d) v hi hv ⟨by omega, d3, hP, fun k k1 k2 => by
      cases hk : onB (g i) ((vI g n).2 k)
      · rfl
      · exact absurd ⟨by omega, by omega, by rw [show v - (v - k) = k by omega]; exact hk⟩ (d4 (v - k) (by omega))⟩
    refine ⟨2 * e + 1, by omega, ?_⟩
    unfold bg
    rw [if_neg (by omega), show (2 * e + 1) / 2 = e by omega]
    show (q.2 e).2.2 = v
    rw [e2]
end HS
abbrev VV (g : Nat → Sg) (n : Nat) : Nat := (vI g n).1
abbrev VP (g : Nat → Sg) (n : Nat) : Nat → Pt := (vI g n).2
abbrev EE (g : Nat → Sg) (n : Nat) : ES := eI g (vI g n).2 (vI g n).1 n
/-- the facts of the row of edges that are used all over -/
theorem EE_facts {n : Nat} {g : Nat → Sg} (hg : gOk n g) (hn : n ≤ 12) : VV g n ≤ 90 ∧ (EE g n).1 ≤ 144 ∧ EOk g (VP g n) n (VV g n) (EE g n) ∧ eW (EE g n) (VV g n) ∧ (∀ e, e < (EE g n).1 → eS (EE g n) e < n) ∧ eUp (EE g n) ∧ (∀ s, s < 2 * (EE g n).1 → bg (EE g n) s < VV g n) ∧ (∀ s t, s < 2 * (EE g n).1 → t < 2 * (EE g n).1 → bg (EE g n) s = bg (EE g n) t → key n g (EE g n) s = key n g (EE g n) t → s = t) ∧ (∀ v, v < VV g n → ∃ t, t < 2 * (EE g n).1 ∧ bg (EE g n) t = v) := by
  have h1 := vI_cnt g n
  have h2 := tri_le n (by omega)
  have h3 := eI_le hg hn n (Nat.le_refl _)
  have h4 := eI_ok g (vI g n).2 (vI g n).1 n
  have hw : eW (EE g n) (VV g n) := fun e he => by
    obtain ⟨-, a2, a3⟩ := h4.1 e he
    exact ⟨Nat.lt_trans a3.1 a2, a2⟩
  refine ⟨by show (vI g n).1 ≤ 90; omega, by show (eI g (vI g n).2 (vI g n).1 n).1 ≤ 144; omega, h4, hw, fun e he => (h4.1 e he).1, fun e he => (h4.1 e he).2.2.1, fun s hs => ?_, fun s t hs ht => key_inj hg h4 hs ht, fun v hv => has_side hg h4 hv⟩
  have := hw (s / 2) (by omega)
  unfold bg; split
  · exact this.1
  · exact this.2
/-- the map that stands in the reference's rows -/
def mPic (M : MS) (n : Nat) (g : Nat → Sg) (root : Nat → Nat) (r : Nat → Option Nat) (c : Nat) (lo ou : Nat → Nat) : Prop :=
  M.1 0 = nI n ∧ mCo M n g ∧ mVer M (VV g n) (VP g n) ∧ mEdg M (EE g n) ∧ rootOk (EE g n) (VV g n) root ∧ mPar M (VV g n) root ∧ M.1 22 = nI (cnt (fun v => decide (root v = v)) (VV g n)) ∧
  c ≤ 2 * (EE g n).1 ∧ RInv n g (EE g n) r c lo ou ∧ (∀ s, s < 2 * (EE g n).1 → r s ≠ none) ∧ (∀ s, s < 2 * (EE g n).1 → M.2.1 15 s = nI ((r s).getD 0)) ∧ M.1 16 = nI c ∧ (∀ u, u < c → M.2.1 17 u = nI (lo u) ∧ M.2.1 18 u = nI (ou u)) ∧
  (∀ w, w < c → M.2.1 19 w = bI (arS g (EE g n) (fun s => (r s).getD 0) root (VV g n) w)) ∧ M.1 21 = nI (1 + cnt (fun w => !arS g (EE g n) (fun s => (r s).getD 0) root (VV g n) w) c) ∧
  ∀ w, w < c → M.2.1 20 w = nI (foS n g (VP g n) (EE g n) (fun s => (r s).getD 0) root (numF g (EE g n) (arS g (EE g n) (fun s => (r s).getD 0) root (VV g n)) lo ou c) (VV g n) w)
theorem e_lays {F : Nat} {M0 : MS} {n : Nat} {g : Nat → Sg} (hF : 1000001 ≤ F) (hco : mCo M0 n g) (h0 : M0.1 0 = nI n) (hg : gOk n g) (hn : n ≤ 12) :
    ∃ M2 root r c lo ou, f_lays F M0 = some M2 ∧ mPic M2 n g root r c lo ou ∧ M2.1 23 = M0.1 23 := by
  obtain ⟨k1, k2, k3, k4, k5, k6, k7, k8, k9⟩ := EE_facts hg hn
  unfold f_lays
  obtain ⟨M1, a1, a2, a3⟩ := e_laysVertices hF hco h0 hg.1 hn
  rw [a1, cal_some]
  have c1 := mCo_fr hco a3.1
  obtain ⟨M2, b1, b2, b3⟩ := e_laysEdges (F := F) (by omega) c1 (by rw [a3.2 0 (by decide)]; exact h0) hg hn a2
  rw [b1, cal_some]
  have c2 := mCo_frE c1 b3
  have v2 := mVer_frE a2 b3
  obtain ⟨M3, root, d1, d2, d3, d4, d5⟩ := e_laysParts (F := F) (q := EE g n) (nV := VV g n) (by omega) b2 k4 (by omega) (by omega) v2.1
  rw [d1, cal_some]
  have e3 : mEdg M3 (EE g n) := mEdg_frP b2 d4
  have c3 : mCo M3 n g := fun i hi => by
    rw [d4.2.2 1 (by decide), d4.2.2 2 (by decide), d4.2.2 3 (by decide), d4.2.2 4 (by decide)]; exact c2 i hi
  have v3 : mVer M3 (VV g n) (VP g n) := ⟨(d4.2.1 5 (by decide)).trans v2.1, fun i hi => by unfold mV4; rw [d4.1]; exact v2.2 i hi⟩
  obtain ⟨M4, r, c, lo, ou, f1, f2, f3, f4, f5, f6⟩ := e_laysRounds (F := F) (q := EE g n) (by omega) c3 hg.1 (by omega) e3 (by omega) k5 k6 (fun s hs => by have := k7 s hs; omega) k8
  rw [f1, cal_some]
  have e4 := mEdg_frS e3 f6
  have c4 := mCo_frS c3 f6
  have v4 : mVer M4 (VV g n) (VP g n) := ⟨(f6.2.1 5 (by decide)).trans v3.1, fun i hi => by unfold mV4; rw [f6.1]; exact v3.2 i hi⟩
  have p4 : mPar M4 (VV g n) root := fun v hv => by rw [f6.2.2 10 (by decide) (by decide) (by decide) (by decide)]; exact d3 v hv
  have h4 : M4.1 0 = nI n := by rw [f6.2.1 0 (by decide), d4.2.1 0 (by decide), b3.2.1 0 (by decide), a3.2 0 (by decide)]; exact h0
  have hr : ∀ s, s < 2 * (EE g n).1 → M4.2.1 15 s = nI ((r s).getD 0) ∧ (r s).getD 0 < c := by
    intro s hs
    have h1 := f4.1 s hs
    cases hrs : r s with
    | none => exact absurd hrs (f5 s hs)
    | some u =>
      rw [hrs] at h1
      exact ⟨h1, f3.2.1 s u hs hrs⟩
  have hlo : ∀ u, u < c → M4.2.1 17 u = nI (lo u) ∧ M4.2.1 18 u = nI (ou u) ∧ lo u < 2147483648 ∧ ou u < 2 * (EE g n).1 := by
    intro u hu
    obtain ⟨x1, x2, -⟩ := f4.2.2 u hu
    obtain ⟨y1, -, y3, -⟩ := f3.2.2.2 u hu
    exact ⟨x1, x2, by rw [← y3]; have := k7 _ y1; omega, y1⟩
  have P : fPre F M4 n g (VV g n) (VP g n) (EE g n) root (fun s => (r s).getD 0) lo ou c := ⟨by omega, h4, c4, hg.1, by omega, v4, (vI_good hg.1 n (Nat.le_refl _)).2, by omega, e4, by omega, k4, k5, (fun s hs => by have := k7 s hs; omega), p4, d2.1, k9, hr, by omega, f4.2.1, hlo⟩
  obtain ⟨M5, g1, g2, g3, g4, g5⟩ := e_laysFaces P (fun w hw => (f4.2.2 w hw).2.2)
  rw [g1, cal_some]
  refine ⟨M5, root, r, c, lo, ou, rfl, ⟨by rw [g2.2.1 0 (by decide)]; exact h4, mCo_frF c4 g2, mVer_frF v4 g2, mEdg_frF e4 g2, d2, fun v hv => by rw [g2.2.2 10 (by decide) (by decide)]; exact p4 v hv, ?_, f2, f3, f5, fun s hs => by rw [g2.2.2 15 (by decide) (by decide)]; exact (hr s hs).1, by rw [g2.2.1 16 (by decide)]; exact f4.2.1, fun u hu => ?_, g3, g4, g5⟩, ?_⟩
  · rw [g2.2.1 22 (by decide), f6.2.1 22 (by decide)]; exact d5
  · rw [g2.2.2 17 (by decide) (by decide), g2.2.2 18 (by decide) (by decide)]
    exact ⟨(hlo u hu).1, (hlo u hu).2.1⟩
  · rw [g2.2.1 23 (by decide), f6.2.1 23 (by decide), d4.2.1 23 (by decide), b3.2.1 23 (by decide), a3.2 23 (by decide)]
