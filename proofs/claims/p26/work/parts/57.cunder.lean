/-! ### the class: which edge lies under a point -/
def uE (g : Nat → Sg) (V : Nat → Pt) (q : ES) (p : Pt) (e : Nat) : Bool := decide (cmpR (V (eF q e)).1 p.1 < 0) && (decide (0 ≤ cmpR (V (eT q e)).1 p.1) && decide (hgt (g (eS q e)) p * p.2.den < p.2.num * (dX (g (eS q e)) * p.1.den)))
section CUN
variable {F : Nat} {S : CS} {D : CD} {A sg w : Nat → Nat} {n nV : Nat} {g : Nat → Sg} {V : Nat → Pt} {q : ES}
theorem k_isUnder (hL : cLay S A) (hl : cLin S D A sg n g) (hn : n ≤ 12) (ho : ∀ i, i < n → sOk (g i)) (hv : cVer S D A w nV V) (hbv : ∀ i, i < nV → bV (V i)) (hnV : nV ≤ 90) (hE : cE3 D A q) (hq : q.1 ≤ 144) (hw : eW q nV) (hseg : ∀ e, e < q.1 → eS q e < n) {c : Nat} {p : Pt} (hp : cPt S D c p) (bp : bV p) {e : Nat} (he : e < q.1) :
    f_X6_isUnder F S D (A 0) (nI e) c = some (bI (uE g V q p e)) := by
  obtain ⟨w1, w2⟩ := hw e he
  obtain ⟨x1, x2, x3⟩ := hE.2 e he
  have hs := hseg e he
  have p1 := pt_kd hL (hv.2.1 _ (show eF q e < 90 by omega)).1
  have p2 := pt_kd hL (hv.2.1 _ (show eT q e < 90 by omega)).1
  have s1 := hl.2.2.2.2 _ hs
  unfold f_X6_isUnder uE
  rw [ly_k hL 0 (by decide) (by decide), ly_r hL 0 2 4 (by decide), ly_r hL 0 3 5 (by decide), ly_k hL 5 (by decide) (by decide), ly_r hL 5 1 21 (by decide), ly_k hL 21 (by decide) (by decide), k_get (rw_start hL) (by omega), cal_some, ly_k hL 4 (by decide) (by decide), x2, k_at hL hv.2.1 (by omega), cal_some, ck_ok p1, k_cmpX (hv.2.2.2 _ w1) hp (hbv _ w1) bp, cal_some]
  by_cases z1 : cmpR (V (eF q e)).1 p.1 < 0
  · rw [if_neg (fun u => by have := (zI_0le (cmpR_32 _ _)).mp u; omega), decide_eq_true z1, Bool.true_and, ly_r hL 0 2 4 (by decide), ly_r hL 0 3 5 (by decide), ly_k hL 5 (by decide) (by decide), ly_r hL 5 2 22 (by decide), ly_k hL 22 (by decide) (by decide), k_get (rw_end hL) (by omega), cal_some, ly_k hL 4 (by decide) (by decide), x3, k_at hL hv.2.1 (by omega), cal_some, ck_ok p2, k_cmpX (hv.2.2.2 _ w2) hp (hbv _ w2) bp, cal_some]
    by_cases z2 : 0 ≤ cmpR (V (eT q e)).1 p.1
    · rw [if_neg (fun u => by have := (zI_lt0 (cmpR_32 _ _)).mp u; omega), decide_eq_true z2, Bool.true_and, ly_r hL 0 3 5 (by decide), ly_k hL 5 (by decide) (by decide), ly_r hL 5 0 20 (by decide), ly_k hL 20 (by decide) (by decide), k_get (rw_line hL) (by omega), cal_some, x1, k_lineAt hL hl hn hs, cal_some, ck_ok s1.1, k_cmpHeight s1 (ho _ hs) hp bp, cal_some]
      have c1 := csgn_s (hgt (g (eS q e)) p * p.2.den) (p.2.num * (dX (g (eS q e)) * p.1.den))
      have c2 := csgn_32 (hgt (g (eS q e)) p * p.2.den) (p.2.num * (dX (g (eS q e)) * p.1.den))
      by_cases z3 : hgt (g (eS q e)) p * p.2.den < p.2.num * (dX (g (eS q e)) * p.1.den)
      · rw [if_neg (fun u => by have := (zI_0le c2).mp u; have := c1.1.mpr z3; omega), decide_eq_true z3]; rfl
      · rw [if_pos ((zI_0le c2).mpr (by have : ¬ csgn (hgt (g (eS q e)) p * p.2.den) (p.2.num * (dX (g (eS q e)) * p.1.den)) < 0 := fun u => z3 (c1.1.mp u); omega)), decide_eq_false z3]; rfl
    · rw [if_pos ((zI_lt0 (cmpR_32 _ _)).mpr (by omega)), decide_eq_false z2]; rfl
  · rw [if_pos ((zI_0le (cmpR_32 _ _)).mpr (by omega)), decide_eq_false z1]; rfl
end CUN
