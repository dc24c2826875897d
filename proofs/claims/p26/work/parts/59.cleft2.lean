/-! ### the class: faceLeftOf -/
section CLG
variable {F : Nat} {S : CS} {D : CD} {A sg w : Nat → Nat} {n nV : Nat} {g : Nat → Sg} {V : Nat → Pt} {q : ES}
def lfV (D : CD) (A : Nat → Nat) (o : Option Nat) : Int32 := match o with
  | none => 0
  | some e => D.2.2.1 (A 29) (2 * e)
theorem k_fl4 (hL : cLay S A) (hl : cLin S D A sg n g) (hn : n ≤ 12) (ho : ∀ i, i < n → sOk (g i)) (hv : cVer S D A w nV V) (hbv : ∀ i, i < nV → bV (V i)) (hnV : nV ≤ 90) (hE : cE3 D A q) (hq : q.1 ≤ 144) (hw : eW q nV) (hseg : ∀ e, e < q.1 → eS q e < n) {c : Nat} {p : Pt} (hp : cPt S D c p) (bp : bV p) :
    ∀ (d m e : Nat), e + d = q.1 → d < m → f_X6_faceLeftOf_L4 F S D (A 0) m c (oI (fL g V q p e)) (nI e) = some (lfV D A (fL g V q p q.1)) := by
  intro d
  induction d with
  | zero =>
    intro m e hj hm
    obtain ⟨m, rfl⟩ : ∃ q, m = q + 1 := ⟨m - 1, by omega⟩
    have e0 : e = q.1 := by omega
    subst e0
    rw [f_X6_faceLeftOf_L4, ly_k hL 0 (by decide) (by decide), ly_r hL 0 3 5 (by decide), ly_k hL 5 (by decide) (by decide), hE.1, if_pos (Int32.le_refl _)]
    cases hf : fL g V q p q.1 with
    | none => rw [if_pos (show oI none = -1 from rfl)]; rfl
    | some f =>
      have hlt := (fL_lt g V q p _ f hf).1
      have t2 : (2 : Int32) * nI f = nI (2 * f) := by rw [show (2 : Int32) = zI 2 from rfl, nI_zI, zI_mul, nI_zI]; rfl
      rw [if_neg (fun u => by have := (oI_m1 (o := some f) (fun x hx => by cases hx; omega)).mp u; cases this), ly_r hL 0 3 5 (by decide), ly_k hL 5 (by decide) (by decide), ly_r hL 5 4 24 (by decide), ly_k hL 24 (by decide) (by decide), show oI (some f) = nI f from rfl, t2, k_get (rw_face hL) (by omega), cal_some]
      rfl
  | succ d ih =>
    intro m e hj hm
    obtain ⟨m, rfl⟩ : ∃ q, m = q + 1 := ⟨m - 1, by omega⟩
    have hen : e < q.1 := by omega
    have i1 := ih m (e + 1) (by omega) (by omega)
    rw [fL] at i1
    rw [f_X6_faceLeftOf_L4, ly_k hL 0 (by decide) (by decide), ly_r hL 0 3 5 (by decide), ly_k hL 5 (by decide) (by decide), hE.1, if_neg (by rw [nI_leI (by omega) (by omega)]; omega), k_isUnder hL hl hn ho hv hbv hnV hE hq hw hseg hp bp hen, cal_some]
    unfold f_X6_faceLeftOf_b41
    rw [nI_1]
    cases hu : uE g V q p e
    · rw [hu, Bool.false_and, if_neg (by decide)] at i1
      rw [if_pos (show bI false = 0 from rfl)]; exact i1
    · rw [hu, Bool.true_and] at i1
      rw [if_neg (show ¬ bI true = 0 by decide)]
      cases hf : fL g V q p e with
      | none =>
        rw [hf, if_pos (show hEo g q p e none = true from rfl)] at i1
        rw [if_pos (show oI none = -1 from rfl)]; exact i1
      | some f =>
        have hlt := (fL_lt g V q p _ f hf).1
        rw [hf] at i1
        rw [if_neg (fun u => by have := (oI_m1 (o := some f) (fun x hx => by cases hx; omega)).mp u; cases this), show oI (some f) = nI f from rfl, k_isHigher hL hl hn ho hE hq hseg hp bp hen (by omega), cal_some]
        cases hh : hE2 g q p e f
        · rw [if_neg (show ¬ hEo g q p e (some f) = true from fun u => by have u : hE2 g q p e f = true := u; rw [hh] at u; cases u)] at i1
          rw [if_pos (show bI false = 0 from rfl)]; exact i1
        · rw [if_pos (show hEo g q p e (some f) = true from hh)] at i1
          rw [if_neg (show ¬ bI true = 0 by decide)]; exact i1
end CLG
