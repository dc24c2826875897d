/-! ### all rounds of the reference -/
def RInv (n : Nat) (g : Nat → Sg) (q : ES) (r : Nat → Option Nat) (c : Nat) (lo ou : Nat → Nat) : Prop :=
  (∀ s, s < 2 * q.1 → r (nxt n g q s) = r s) ∧ (∀ s u, s < 2 * q.1 → r s = some u → u < c) ∧
  (∀ s t u, s < 2 * q.1 → t < 2 * q.1 → r s = some u → r t = some u → orb (nxt n g q) (2 * q.1) s t) ∧
  ∀ u, u < c → ou u < 2 * q.1 ∧ r (ou u) = some u ∧ bg q (ou u) = lo u ∧ ∀ s, s < 2 * q.1 → r s = some u → lo u ≤ bg q s ∧ (bg q s = lo u → key n g q (ou u) ≤ key n g q s)
theorem RInv_orb {n : Nat} {g : Nat → Sg} {q : ES} {r : Nat → Option Nat} (h : ∀ s, s < 2 * q.1 → r (nxt n g q s) = r s) {x y : Nat} (ho : orb (nxt n g q) (2 * q.1) x y) : r x = r y :=
  ho (fun a b => r a = r b) (fun _ => rfl) (fun _ _ h => h.symm) (fun _ _ _ h1 h2 => h1.trans h2) (fun z hz => (h z hz).symm)
/-- edges go from a lower vertex to a higher one -/
def eUp (q : ES) : Prop := ∀ e, e < q.1 → eF q e < eT q e
theorem odd_down {q : ES} (h : eUp q) {x : Nat} (hx : x < 2 * q.1) (ho : x % 2 = 1) : bg q (tw x) < bg q x := by
  have := h (x / 2) (by omega)
  unfold bg
  rw [tw_half, tw_par, ho, if_pos (by decide), if_neg (by decide)]
  exact this
theorem even_up {q : ES} (h : eUp q) {x : Nat} (hx : x < 2 * q.1) (ho : x % 2 = 0) : bg q x < bg q (tw x) := by
  have := h (x / 2) (by omega)
  unfold bg
  rw [tw_half, tw_par, ho, if_pos rfl, if_neg (by decide)]
  exact this
theorem RInv_add {n : Nat} {g : Nat → Sg} {q : ES} (hg : ∀ i, i < n → sOk (g i)) (hsg : ∀ e, e < q.1 → eS q e < n) (hup : eUp q) (hk : ∀ s t, s < 2 * q.1 → t < 2 * q.1 → bg q s = bg q t → key n g q s = key n g q t → s = t) {r : Nat → Option Nat} {c : Nat} {lo ou : Nat → Nat} (h : RInv n g q r c lo ou) {a L : Nat} (ha : a < 2 * q.1) (hn : r a = none) (hL0 : 0 < L) (hL : itf (nxt n g q) L a = a) :
    RInv n g q (mrk (nxt n g q) a c L r) (c + 1) (fun u => if u = c then (lof g q (nxt n g q) a L).1 else lo u) (fun u => if u = c then (lof g q (nxt n g q) a L).2 else ou u) := by
  obtain ⟨h1, h2, h3, h4⟩ := h
  have hm : ∀ x, x < 2 * q.1 → nxt n g q x < 2 * q.1 := fun x hx => nxt_lt hx
  have hi := nxt_inj (n := n) (g := g) (q := q) hk
  have hlt : ∀ i, itf (nxt n g q) i a < 2 * q.1 := fun i => itf_lt hm ha i
  have hv : ∀ s, s < 2 * q.1 → (vis (nxt n g q) a L s = true ↔ orb (nxt n g q) (2 * q.1) a s) := fun s hs => (vis_iff _ _ _ _).trans (orb_iff hm hi ha hL0 hL hs).symm
  have hvn : ∀ s, s < 2 * q.1 → vis (nxt n g q) a L s = true → r s = none := fun s hs hv' => by rw [← RInv_orb h1 ((hv s hs).mp hv')]; exact hn
  have m1 : ∀ s, vis (nxt n g q) a L s = true → mrk (nxt n g q) a c L r s = some c := fun s h => by unfold mrk; rw [if_pos h]
  have m0 : ∀ s, ¬ vis (nxt n g q) a L s = true → mrk (nxt n g q) a c L r s = r s := fun s h => by unfold mrk; rw [if_neg h]
  refine ⟨fun s hs => ?_, fun s u hs hu => ?_, fun s t u hs ht hu hu2 => ?_, fun u hu => ?_⟩
  · by_cases z : vis (nxt n g q) a L s = true
    · rw [m1 s z, m1 _ ((hv _ (hm s hs)).mpr (orb_t ((hv s hs).mp z) (orb_f hs)))]
    · rw [m0 s z, m0 _ (fun w => z ((hv s hs).mpr (orb_t ((hv _ (hm s hs)).mp w) (orb_s (orb_f hs)))))]
      exact h1 s hs
  · by_cases z : vis (nxt n g q) a L s = true
    · rw [m1 s z] at hu; cases hu; omega
    · rw [m0 s z] at hu; have := h2 s u hs hu; omega
  · by_cases z : vis (nxt n g q) a L s = true
    · rw [m1 s z] at hu; cases hu
      by_cases y : vis (nxt n g q) a L t = true
      · exact orb_t (orb_s ((hv s hs).mp z)) ((hv t ht).mp y)
      · rw [m0 t y] at hu2; have := h2 t c ht hu2; omega
    · rw [m0 s z] at hu
      by_cases y : vis (nxt n g q) a L t = true
      · rw [m1 t y] at hu2; cases hu2; have := h2 s c hs hu; omega
      · rw [m0 t y] at hu2; exact h3 s t u hs ht hu hu2
  · by_cases e : u = c
    · subst e
      simp only [if_true]
      obtain ⟨⟨k, k1, k2⟩, k3⟩ := lof_mem g q (nxt n g q) a L
      have hkL : k < L := by omega
      have hmin := lof_min g q (nxt n g q) a L
      have hev : ∀ j, j < L → bg q (itf (nxt n g q) j a) = (lof g q (nxt n g q) a L).1 → itf (nxt n g q) j a % 2 = 0 := by
        intro j hj hb
        rcases (show itf (nxt n g q) j a % 2 = 0 ∨ itf (nxt n g q) j a % 2 = 1 by omega) with z | z
        · exact z
        · exfalso
          have d1 := odd_down hup (hlt j) z
          rw [← nxt_bg (n := n) (g := g)] at d1
          have d2 : (lof g q (nxt n g q) a L).1 ≤ bg q (itf (nxt n g q) (j + 1) a) := by
            by_cases w : j + 1 < L
            · exact hmin (j + 1) w
            · rw [show j + 1 = L by omega, hL]
              exact hmin 0 hL0
          have d3 : itf (nxt n g q) (j + 1) a = nxt n g q (itf (nxt n g q) j a) := rfl
          rw [d3] at d2
          omega
      have hkey := lof_key (n := n) (g := g) (q := q) (f := nxt n g q) (a := a) hg (fun j => hsg _ (by have := hlt j; omega)) L hL0 hev
      refine ⟨by rw [k2]; exact hlt k, m1 _ ((vis_iff _ _ _ _).mpr ⟨k, hkL, k2.symm⟩), k3, fun s hs hu => ?_⟩
      have hvs : vis (nxt n g q) a L s = true := by
        by_cases z : vis (nxt n g q) a L s = true
        · exact z
        · rw [m0 s z] at hu; have := h2 s u hs hu; omega
      obtain ⟨j, j1, j2⟩ := (vis_iff _ _ _ _).mp hvs
      rw [← j2]
      exact ⟨hmin j j1, hkey j j1⟩
    · simp only [if_neg e]
      obtain ⟨a1, a2, a3, a4⟩ := h4 u (by omega)
      have hz : ¬ vis (nxt n g q) a L (ou u) = true := fun w => by have := hvn _ a1 w; rw [a2] at this; cases this
      refine ⟨a1, by rw [m0 _ hz]; exact a2, a3, fun s hs hu => ?_⟩
      by_cases z : vis (nxt n g q) a L s = true
      · rw [m1 s z] at hu; cases hu; exact absurd rfl e
      · rw [m0 s z] at hu; exact a4 s hs hu
def mRd (q : ES) (M : MS) (r : Nat → Option Nat) (c : Nat) (lo ou : Nat → Nat) : Prop := (∀ s, s < 2 * q.1 → M.2.1 15 s = oI (r s)) ∧ M.1 16 = nI c ∧ ∀ u, u < c → M.2.1 17 u = nI (lo u) ∧ M.2.1 18 u = nI (ou u) ∧ M.2.1 19 u = 0
def mFrS (M M2 : MS) : Prop := M2.2.2 = M.2.2 ∧ (∀ j, j ≠ 16 → M2.1 j = M.1 j) ∧ ∀ j, j ≠ 15 → j ≠ 17 → j ≠ 18 → j ≠ 19 → M2.2.1 j = M.2.1 j
theorem mFrS.trans {M M2 M3 : MS} (h : mFrS M M2) (h2 : mFrS M2 M3) : mFrS M M3 := ⟨h2.1.trans h.1, fun j hj => (h2.2.1 j hj).trans (h.2.1 j hj), fun j a b d e => (h2.2.2 j a b d e).trans (h.2.2 j a b d e)⟩
theorem mFrS.rf {M : MS} : mFrS M M := ⟨rfl, fun _ _ => rfl, fun _ _ _ _ _ => rfl⟩
section MRS
variable {F : Nat} {g : Nat → Sg} {n : Nat} {q : ES}
theorem mCo_frS {M M0 : MS} (h : mCo M0 n g) (hf : mFrS M0 M) : mCo M n g := fun i hi => by
  rw [hf.2.2 1 (by decide) (by decide) (by decide) (by decide), hf.2.2 2 (by decide) (by decide) (by decide) (by decide), hf.2.2 3 (by decide) (by decide) (by decide) (by decide), hf.2.2 4 (by decide) (by decide) (by decide) (by decide)]; exact h i hi
theorem mEdg_frS {M M0 : MS} (h : mEdg M0 q) (hf : mFrS M0 M) : mEdg M q := ⟨(hf.2.1 11 (by decide)).trans h.1, fun i hi => by unfold mE3; rw [hf.2.2 12 (by decide) (by decide) (by decide) (by decide), hf.2.2 13 (by decide) (by decide) (by decide) (by decide), hf.2.2 14 (by decide) (by decide) (by decide) (by decide)]; exact h.2 i hi⟩
theorem e_goesRound {M : MS} (hF : 1000 ≤ F) (hco : mCo M n g) (hg : ∀ i, i < n → sOk (g i)) (hn : n ≤ 13) (hE : mEdg M q) (hq : q.1 ≤ 158) (hsg : ∀ e, e < q.1 → eS q e < n) (hup : eUp q) (hbb : ∀ s, s < 2 * q.1 → bg q s < 2147483648) (hk : ∀ s t, s < 2 * q.1 → t < 2 * q.1 → bg q s = bg q t → key n g q s = key n g q t → s = t)
    {r : Nat → Option Nat} {c : Nat} {lo ou : Nat → Nat} (hc : c < 320) (hR : RInv n g q r c lo ou) (hM : mRd q M r c lo ou) {a : Nat} (ha : a < 2 * q.1) (hna : r a = none) :
    ∃ M2 r2 lo2 ou2, f_goesRound F M (nI a) = some M2 ∧ RInv n g q r2 (c + 1) lo2 ou2 ∧ (∀ s, s < 2 * q.1 → M2.2.1 15 s = oI (r2 s)) ∧ (∀ u, u < c + 1 → M2.2.1 17 u = nI (lo2 u) ∧ M2.2.1 18 u = nI (ou2 u) ∧ M2.2.1 19 u = 0) ∧ mFrS M M2 ∧ M2.1 = M.1 ∧ r2 a ≠ none ∧ ∀ s, r s ≠ none → r2 s ≠ none := by
  have hm : ∀ x, x < 2 * q.1 → nxt n g q x < 2 * q.1 := fun x hx => nxt_lt hx
  have hi := nxt_inj (n := n) (g := g) (q := q) hk
  obtain ⟨L, hL0, hLN, hL, hap⟩ := period hm hi ha
  obtain ⟨h15, h16, h179⟩ := hM
  have hrn : ∀ i, r (itf (nxt n g q) i a) = none := by
    intro i
    induction i with
    | zero => exact hna
    | succ i ih => rw [itf, hR.1 _ (itf_lt hm ha i)]; exact ih
  unfold f_goesRound
  rw [e_begin hE hq ha, cal_some, h16, wrI_at (by omega) (by decide)]
  rw [show (mpA M 17 (upd (M.2.1 17) c (nI (bg q a)))).1 16 = nI c from h16, wrI_at (by omega) (by decide), okB_0]
  rw [show (mpA (mpA M 17 (upd (M.2.1 17) c (nI (bg q a)))) 18 (upd ((mpA M 17 (upd (M.2.1 17) c (nI (bg q a)))).2.1 18) c (nI a))).1 16 = nI c from h16, wrI_at (by omega) (by decide)]
  generalize hM1 : mpA (mpA (mpA M 17 (upd (M.2.1 17) c (nI (bg q a)))) 18 (upd ((mpA M 17 (upd (M.2.1 17) c (nI (bg q a)))).2.1 18) c (nI a))) 19 (upd ((mpA (mpA M 17 (upd (M.2.1 17) c (nI (bg q a)))) 18 (upd ((mpA M 17 (upd (M.2.1 17) c (nI (bg q a)))).2.1 18) c (nI a))).2.1 19) c 0) = M1
  have hf1 : mFrR c M M1 := by
    subst hM1
    refine ⟨rfl, rfl, fun j _ b d e => by rw [mpA_n _ _ e, mpA_n _ _ d, mpA_n _ _ b], fun u hu => ⟨?_, ?_, ?_⟩⟩
    · rw [mpA_n _ _ (by decide), mpA_n _ _ (by decide), mpA_s, upI_n hu]
    · rw [mpA_n _ _ (by decide), mpA_s, upI_n hu, mpA_n _ _ (by decide)]
    · rw [mpA_s, upI_n hu, mpA_n _ _ (by decide), mpA_n _ _ (by decide)]
  obtain ⟨M2, e1, e2, e3, e4, e5, e6⟩ := e_gr36 hF (mCo_frR hco hf1) hg hn (mEdg_frR hE hf1) hq hsg hbb hc (by rw [hf1.2.1]; exact h16) ha hL0 hL hap (r := r) hrn L F 0 M1 (by omega) (by omega) (fun s hs => by
        have e0 : mrk (nxt n g q) a c 0 r s = r s := rfl
        rw [e0, ← hM1, mpA_n _ _ (by decide), mpA_n _ _ (by decide), mpA_n _ _ (by decide)]; exact h15 s hs) (by rw [← hM1, mpA_n _ _ (by decide), mpA_n _ _ (by decide), mpA_s, upI_s]; rfl) (by rw [← hM1, mpA_n _ _ (by decide), mpA_s, upI_s]; rfl) (by rw [← hM1, mpA_s, upI_s]) ⟨rfl, rfl, fun _ _ _ _ _ => rfl, fun _ _ => ⟨rfl, rfl, rfl⟩⟩
  have hf2 := hf1.trans e6
  refine ⟨M2, _, _, _, e1, RInv_add hg hsg hup hk hR ha hna hL0 hL, e2, fun u hu => ?_, ⟨hf2.1, fun j _ => by rw [hf2.2.1], hf2.2.2.1⟩, hf2.2.1, ?_, fun s hs => ?_⟩
  · by_cases e : u = c
    · subst e; simp only [if_true]; exact ⟨e3, e4, e5⟩
    · simp only [if_neg e]
      obtain ⟨x1, x2, x3⟩ := hf2.2.2.2 u e
      rw [x1, x2, x3]; exact h179 u (by omega)
  · have hvv : vis (nxt n g q) a L a = true := (vis_iff _ _ _ _).mpr ⟨0, hL0, rfl⟩
    unfold mrk; rw [if_pos hvv]; intro w; cases w
  · unfold mrk; split
    · intro w; cases w
    · exact hs
end MRS
