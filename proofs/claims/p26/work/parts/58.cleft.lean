/-! ### the class: the face just left of a point -/
def hE2 (g : Nat → Sg) (q : ES) (p : Pt) (e f : Nat) : Bool := decide (hgt (g (eS q f)) p * dX (g (eS q e)) < hgt (g (eS q e)) p * dX (g (eS q f))) || (decide (hgt (g (eS q e)) p * dX (g (eS q f)) = hgt (g (eS q f)) p * dX (g (eS q e))) && decide (0 < cr (g (eS q e)) (g (eS q f))))
def hEo (g : Nat → Sg) (q : ES) (p : Pt) (e : Nat) (o : Option Nat) : Bool := match o with
  | none => true
  | some f => hE2 g q p e f
def fL (g : Nat → Sg) (V : Nat → Pt) (q : ES) (p : Pt) : Nat → Option Nat
  | 0 => none
  | e + 1 => if uE g V q p e && hEo g q p e (fL g V q p e) then some e else fL g V q p e
theorem fL_lt (g : Nat → Sg) (V : Nat → Pt) (q : ES) (p : Pt) : ∀ e f, fL g V q p e = some f → f < e ∧ uE g V q p f = true := by
  intro e
  induction e with
  | zero => intro f h; cases h
  | succ e ih =>
    intro f h
    rw [fL] at h
    split at h
    · next hc => cases h; rw [Bool.and_eq_true] at hc; exact ⟨by omega, hc.1⟩
    · have := ih f h; exact ⟨by omega, this.2⟩
section CLF
variable {F : Nat} {S : CS} {D : CD} {A sg w : Nat → Nat} {n nV : Nat} {g : Nat → Sg} {V : Nat → Pt} {q : ES}
theorem k_isHigher (hL : cLay S A) (hl : cLin S D A sg n g) (hn : n ≤ 12) (ho : ∀ i, i < n → sOk (g i)) (hE : cE3 D A q) (hq : q.1 ≤ 144) (hseg : ∀ e, e < q.1 → eS q e < n) {c : Nat} {p : Pt} (hp : cPt S D c p) (bp : bV p) {e f : Nat} (he : e < q.1) (hf : f < q.1) :
    f_X6_isHigher F S D (A 0) (nI e) (nI f) c = some (bI (hE2 g q p e f)) := by
  have x1 := (hE.2 e he).1
  have y1 := (hE.2 f hf).1
  have hs := hseg e he
  have ht := hseg f hf
  have s1 := hl.2.2.2.2 _ hs
  have t1 := hl.2.2.2.2 _ ht
  have c1 := csgn_s (hgt (g (eS q e)) p * dX (g (eS q f))) (hgt (g (eS q f)) p * dX (g (eS q e)))
  have c2 := csgn_32 (hgt (g (eS q e)) p * dX (g (eS q f))) (hgt (g (eS q f)) p * dX (g (eS q e)))
  have d1 := csgn_s 0 (cr (g (eS q e)) (g (eS q f)))
  have d2 := csgn_32 0 (cr (g (eS q e)) (g (eS q f)))
  unfold f_X6_isHigher hE2
  rw [ly_k hL 0 (by decide) (by decide), ly_r hL 0 3 5 (by decide), ly_k hL 5 (by decide) (by decide), ly_r hL 5 0 20 (by decide), ly_k hL 20 (by decide) (by decide), k_get (rw_line hL) (by omega), cal_some, x1, k_lineAt hL hl hn hs, cal_some, ly_r hL 0 3 5 (by decide), ly_k hL 5 (by decide) (by decide), ly_r hL 5 0 20 (by decide), ly_k hL 20 (by decide) (by decide), k_get (rw_line hL) (by omega), cal_some, y1, k_lineAt hL hl hn ht, cal_some, ck_ok s1.1, k_cmpHeights s1 (ho _ hs) t1 (ho _ ht) hp bp, cal_some, k_slopes s1 t1 (ho _ hs) (ho _ ht), cal_some]
  by_cases z1 : hgt (g (eS q f)) p * dX (g (eS q e)) < hgt (g (eS q e)) p * dX (g (eS q f))
  · rw [if_pos ((zI_0lt c2).mpr (c1.2.2.mpr z1)), decide_eq_true z1]; rfl
  · rw [if_neg (fun u => z1 (c1.2.2.mp ((zI_0lt c2).mp u))), decide_eq_false z1]
    by_cases z2 : hgt (g (eS q e)) p * dX (g (eS q f)) = hgt (g (eS q f)) p * dX (g (eS q e))
    · rw [if_pos ((zI_eq0 c2).mpr (c1.2.1.mpr z2)), decide_eq_true z2]
      by_cases z3 : 0 < cr (g (eS q e)) (g (eS q f))
      · rw [if_neg (fun u => by have := (zI_0le d2).mp u; have := d1.1.mpr z3; omega), decide_eq_true z3]; rfl
      · rw [if_pos ((zI_0le d2).mpr (by have : ¬ csgn 0 (cr (g (eS q e)) (g (eS q f))) < 0 := fun u => z3 (d1.1.mp u); omega)), decide_eq_false z3]; rfl
    · rw [if_neg (fun u => z2 (c1.2.1.mp ((zI_eq0 c2).mp u))), decide_eq_false z2]; rfl
end CLF
