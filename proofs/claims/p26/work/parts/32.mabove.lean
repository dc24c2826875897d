/-! ### the face over the highest segment below a point, in the reference -/
def hgt (s : Sg) (p : Pt) : Int := sY s * dX s * p.1.den + dY s * (p.1.num - sX s * p.1.den)
def udr (L : Bool) (s : Sg) (p : Pt) : Bool := decide (0 < dX s) && (if L then decide (sX s * p.1.den < p.1.num) && decide (p.1.num ≤ eX s * p.1.den) else decide (sX s * p.1.den ≤ p.1.num) && decide (p.1.num < eX s * p.1.den)) && decide (hgt s p * p.2.den < p.2.num * (dX s * p.1.den))
def btr (L : Bool) (a b : Sg) (p : Pt) : Bool := decide (hgt b p * (dX a * p.1.den) < hgt a p * (dX b * p.1.den)) || (decide (hgt a p * (dX b * p.1.den) = hgt b p * (dX a * p.1.den)) && (if L then decide (0 < cr a b) else decide (cr a b < 0)))
def fAs (L : Bool) (g : Nat → Sg) (p : Pt) : Nat → Option Nat
  | 0 => none
  | i + 1 => if udr L (g i) p then (match fAs L g p i with
      | none => some i
      | some f => if btr L (g i) (g f) p then some i else some f) else fAs L g p i
theorem fAs_lt (L : Bool) (g : Nat → Sg) (p : Pt) : ∀ i f, fAs L g p i = some f → f < i ∧ udr L (g f) p = true := by
  intro i
  induction i with
  | zero => intro f h; cases h
  | succ i ih =>
    intro f h
    rw [fAs] at h
    by_cases hu : udr L (g i) p = true
    · rw [if_pos hu] at h
      cases ho : fAs L g p i with
      | none => rw [ho] at h; cases h; exact ⟨by omega, hu⟩
      | some k =>
        rw [ho] at h
        have hk := ih k ho
        have h : (if btr L (g i) (g k) p = true then some i else some k) = some f := h
        by_cases hb : btr L (g i) (g k) p = true
        · rw [if_pos hb] at h; cases h; exact ⟨by omega, hu⟩
        · rw [if_neg hb] at h; cases h; exact ⟨by omega, hk.2⟩
    · rw [if_neg hu] at h
      have := ih f h; exact ⟨by omega, this.2⟩
/-- the edge's stretch has the point's x -/
def eRg (L : Bool) (V : Nat → Pt) (q : ES) (p : Pt) (e : Nat) : Bool := if L then decide ((V (eF q e)).1 < p.1) && !decide ((V (eT q e)).1 < p.1) else !decide (p.1 < (V (eF q e)).1) && decide (p.1 < (V (eT q e)).1)
def eO (L : Bool) (V : Nat → Pt) (q : ES) (s : Nat) (p : Pt) : Nat → Option Nat
  | 0 => none
  | j + 1 => if eS q j = s ∧ eRg L V q p j = true then some j else eO L V q s p j
/-- the value that the reference gives, over the rounds' numbers rd and their faces fo -/
def fAv (L : Bool) (n : Nat) (g : Nat → Sg) (V : Nat → Pt) (q : ES) (rd fo : Nat → Nat) (p : Pt) : Nat := match fAs L g p n with
  | none => 0
  | some s => match eO L V q s p q.1 with
    | none => 0
    | some e => fo (rd (2 * e))
section MAB
variable {F : Nat} {M : MS} {g : Nat → Sg} {n nV : Nat} {V : Nat → Pt} {q : ES}
theorem hg_bd {s : Sg} (hs : sOk s) {p : Pt} (hp : bR p.1) : -800000000 ≤ hgt s p ∧ hgt s p ≤ 800000000 := by
  obtain ⟨⟨b1, b2, b3, b4⟩, -⟩ := id hs
  unfold inR at b1 b2
  obtain ⟨⟨h1, h2⟩, h3⟩ := hp
  have m1 := mul_bd (a := sY s) (A := 100) ⟨by omega, by omega⟩ (dX_bd hs)
  have m2 := mul_bd m1 (b := (p.1.den : Int)) (B := 20000) ⟨by omega, by omega⟩
  have m3 := mul_bd (a := sX s) (A := 100) (b := (p.1.den : Int)) (B := 20000) ⟨by omega, by omega⟩ ⟨by omega, by omega⟩
  have m4 := mul_bd (dY_bd hs) (b := p.1.num - sX s * (p.1.den : Int)) (B := 6000000) ⟨by omega, by omega⟩
  unfold hgt; omega
theorem dxd_bd {s : Sg} (hs : sOk s) {r : Rat} (hp : bR r) : -2000000 ≤ dX s * (r.den : Int) ∧ dX s * (r.den : Int) ≤ 2000000 :=
  mul_bd (dX_bd hs) (b := (r.den : Int)) (B := 20000) ⟨by have := hp.2; omega, by have := hp.2; omega⟩
theorem e_height (hco : mCo M n g) (hg : ∀ i, i < n → sOk (g i)) (hn : n ≤ 13) {i : Nat} (hi : i < n) (p : Pt) : f_height F M (nI i) (zL p.1.num) (zL p.1.den) = some (zL (hgt (g i) p)) := by
  obtain ⟨c1, c2, -, -⟩ := hco i hi
  have ho := hg i hi
  obtain ⟨⟨b1, b2, -, -⟩, -⟩ := id ho
  have k3 := i32_of _ (dX_bd ho) (by omega)
  have k4 := i32_of _ (dY_bd ho) (by omega)
  unfold f_height
  rw [rdI_at (by omega) (by decide), e_dx hco hi hn, cal_some, e_dy hco hi hn, cal_some, rdI_at (by omega) (by decide), c1, c2, zI_long k3, zI_long k4, zI_long (inR_32 b1), zI_long (inR_32 b2), zL_mul, zL_mul, zL_mul, zL_sub, zL_mul, zL_add]
  rfl
theorem csgn_32 (a b : Int) : i32 (csgn a b) := by
  unfold csgn i32; split
  · omega
  · split <;> omega
theorem csgn_s (a b : Int) : (csgn a b < 0 ↔ a < b) ∧ (csgn a b = 0 ↔ a = b) ∧ (0 < csgn a b ↔ b < a) := by
  rcases Int.lt_trichotomy a b with q | q | q
  · rw [csgn_lt q]; exact ⟨⟨fun _ => q, fun _ => by decide⟩, ⟨(fun w => by cases w), fun w => by omega⟩, ⟨fun w => by omega, fun w => by omega⟩⟩
  · rw [csgn_eq q]; exact ⟨⟨fun w => by omega, fun w => by omega⟩, ⟨fun _ => q, fun _ => rfl⟩, ⟨fun w => by omega, fun w => by omega⟩⟩
  · rw [csgn_gt q]; exact ⟨⟨fun w => by omega, fun w => by omega⟩, ⟨(fun w => by cases w), fun w => by omega⟩, ⟨fun _ => q, fun _ => by decide⟩⟩
theorem e_heights (hco : mCo M n g) (hg : ∀ i, i < n → sOk (g i)) (hn : n ≤ 13) {i j : Nat} (hi : i < n) (hj : j < n) {p : Pt} (hp : bR p.1) : f_heights F M (nI i) (nI j) (zL p.1.num) (zL p.1.den) = some (zI (csgn (hgt (g i) p * (dX (g j) * p.1.den)) (hgt (g j) p * (dX (g i) * p.1.den)))) := by
  have k3 := i32_of _ (dX_bd (hg i hi)) (by omega)
  have k4 := i32_of _ (dX_bd (hg j hj)) (by omega)
  have m1 := mul_bd (hg_bd (hg i hi) hp) (dxd_bd (hg j hj) hp)
  have m2 := mul_bd (hg_bd (hg j hj) hp) (dxd_bd (hg i hi) hp)
  unfold f_heights
  rw [e_height hco hg hn hi, cal_some, e_dx hco hi hn, cal_some, e_height hco hg hn hj, cal_some, e_dx hco hj hn, cal_some, zI_long k3, zI_long k4, zL_mul, zL_mul, e_compare ⟨by omega, by omega⟩, cal_some]
theorem e_slopes (hco : mCo M n g) (hn : n ≤ 13) {i j : Nat} (hi : i < n) (hj : j < n) : f_slopes F M (nI i) (nI j) = some (zI (-cr (g i) (g j))) := by
  unfold f_slopes
  rw [e_dy hco hi hn, cal_some, e_dx hco hj hn, cal_some, e_dy hco hj hn, cal_some, e_dx hco hi hn, cal_some, zI_mul, zI_mul, zI_sub]
  congr 2
  unfold cr; grind
theorem e_faceOver (hF : 1000 ≤ F) (hV : mVer M nV V) (hbv : ∀ i, i < nV → bV (V i)) (hnV : nV ≤ 99) (hE : mEdg M q) (hq : q.1 ≤ 158) (hw : eW q nV) {p : Pt} (hp : bR p.1) {rd fo : Nat → Nat} (hrd : ∀ s, s < 2 * q.1 → M.2.1 15 s = nI (rd s) ∧ rd s < 320) (hfo : ∀ s, s < 2 * q.1 → M.2.1 20 (rd s) = nI (fo (rd s))) (L : Bool) {s : Nat} (hs : s < 2147483648) (hseg : ∀ e, e < q.1 → eS q e < 2147483648) :
    f_faceOver F M (nI s) (zL p.1.num) (zL p.1.den) (bI L) = some (nI (match eO L V q s p q.1 with | none => 0 | some e => fo (rd (2 * e)))) := by
  have cmp : ∀ v, v < nV → f_compare F M (zL (V v).1.num) (zL ((V v).1.den : Nat)) (zL p.1.num) (zL (p.1.den : Nat)) = some (zI (cmpR (V v).1 p.1)) := by
    intro v hv
    obtain ⟨⟨x1, x2⟩, x3⟩ := (hbv v hv).1
    obtain ⟨⟨y1, y2⟩, y3⟩ := hp
    have m1 := mul_bd (a := (V v).1.num) (A := 4000000) (b := (p.1.den : Int)) (B := 20000) ⟨by omega, by omega⟩ ⟨by omega, by omega⟩
    have m2 := mul_bd (a := p.1.num) (A := 4000000) (b := ((V v).1.den : Int)) (B := 20000) ⟨by omega, by omega⟩ ⟨by omega, by omega⟩
    rw [e_compare ⟨by omega, by omega⟩, csgn_R]
  have key : ∀ (d m j : Nat), j + d = q.1 → d < m → f_faceOver_L6 F M m (nI s) (zL p.1.num) (zL p.1.den) (bI L) (nI (match eO L V q s p j with | none => 0 | some e => fo (rd (2 * e)))) (nI j) = some (nI (match eO L V q s p q.1 with | none => 0 | some e => fo (rd (2 * e)))) := by
    intro d
    induction d with
    | zero =>
      intro m j hj hm
      obtain ⟨m, rfl⟩ : ∃ x, m = x + 1 := ⟨m - 1, by omega⟩
      have e : j = q.1 := by omega
      subst e
      rw [f_faceOver_L6, hE.1, if_pos (Int32.le_refl _)]
    | succ d ih =>
      intro m j hj hm
      obtain ⟨m, rfl⟩ : ∃ x, m = x + 1 := ⟨m - 1, by omega⟩
      have hjq : j < q.1 := by omega
      obtain ⟨a1, a2, a3⟩ := hE.2 j hjq
      obtain ⟨w1, w2⟩ := hw j hjq
      obtain ⟨v1, v2, -, -⟩ := hV.2 _ w1
      obtain ⟨u1, u2, -, -⟩ := hV.2 _ w2
      have go := ih m (j + 1) (by omega) (by omega)
      have c1 := cmp _ w1
      have c2 := cmp _ w2
      have fin : ∀ fl : Bool, fl = (decide (eS q j = s) && eRg L V q p j) → f_faceOver_b123 F (f_faceOver_L6 F M m) M (nI s) (zL p.1.num) (zL p.1.den) (bI L) (nI (match eO L V q s p j with | none => 0 | some e => fo (rd (2 * e)))) (nI j) (bI fl) = some (nI (match eO L V q s p q.1 with | none => 0 | some e => fo (rd (2 * e)))) := by
        intro fl hfl
        unfold f_faceOver_b123 f_faceOver_b149
        rw [nI_1]
        cases fl
        · rw [if_pos (show bI false = 0 from rfl)]
          have e : eO L V q s p (j + 1) = eO L V q s p j := by
            rw [eO, if_neg (fun w => by rw [decide_eq_true w.1, w.2] at hfl; cases hfl)]
          rw [e] at go; exact go
        · rw [if_neg (show ¬ bI true = 0 by decide)]
          have hb := (Bool.and_eq_true_iff.mp hfl.symm)
          have e : eO L V q s p (j + 1) = some j := by rw [eO, if_pos ⟨of_decide_eq_true hb.1, hb.2⟩]
          obtain ⟨r1, r2⟩ := hrd (2 * j) (by omega)
          rw [show (2 : Int32) * nI j = nI (2 * j) from pk_mul 2 j, rdI_at (by omega) (by decide), r1, rdI_at (by omega) (by decide), hfo (2 * j) (by omega)]
          rw [e] at go; exact go
      rw [f_faceOver_L6, hE.1, if_neg (by rw [nI_leI (by omega) (by omega)]; omega)]
      simp only [rdI_at (show j < 160 by omega) (show 160 < 2147483648 by decide), a1, a2, a3, rdL_at (show eF q j < 100 by omega) (show 100 < 2147483648 by decide), rdL_at (show eT q j < 100 by omega) (show 100 < 2147483648 by decide), v1, v2, u1, u2, c1, c2, cal_some]
      have hsg : nI (q.2 j).1 = nI s ↔ eS q j = s := nI_eq (hseg j hjq) hs
      have k1 := cmpR_32 (V (eF q j)).1 p.1
      have k2 := cmpR_32 (V (eT q j)).1 p.1
      by_cases z : eS q j = s
      · rw [if_pos (hsg.mpr z)]
        cases L
        · rw [if_pos (show bI false = 0 from rfl)]
          by_cases y1 : 0 < cmpR (V (eF q j)).1 p.1
          · rw [if_pos ((zI_0lt k1).mpr y1)]
            exact fin false (by rw [eRg, decide_eq_true (cmpR_pos.mp y1), decide_eq_true z]; rfl)
          · rw [if_neg (fun w => y1 ((zI_0lt k1).mp w))]
            by_cases y2 : cmpR (V (eT q j)).1 p.1 ≤ 0
            · rw [if_pos ((zI_le0 k2).mpr y2)]
              exact fin false (by rw [eRg, decide_eq_false (show ¬ p.1 < (V (eT q j)).1 from fun w => by have := cmpR_pos.mpr w; omega), decide_eq_true z]; simp)
            · rw [if_neg (fun w => y2 ((zI_le0 k2).mp w))]
              exact fin true (by rw [eRg, decide_eq_false (show ¬ p.1 < (V (eF q j)).1 from fun w => y1 (cmpR_pos.mpr w)), decide_eq_true (cmpR_pos.mp (show 0 < cmpR (V (eT q j)).1 p.1 by omega)), decide_eq_true z]; rfl)
        · rw [if_neg (show ¬ bI true = 0 by decide)]
          by_cases y1 : 0 ≤ cmpR (V (eF q j)).1 p.1
          · rw [if_pos ((zI_0le k1).mpr y1)]
            exact fin false (by rw [eRg, decide_eq_false (show ¬ (V (eF q j)).1 < p.1 from fun w => by have := cmpR_neg.mpr w; omega), decide_eq_true z]; rfl)
          · rw [if_neg (fun w => y1 ((zI_0le k1).mp w))]
            by_cases y2 : cmpR (V (eT q j)).1 p.1 < 0
            · rw [if_pos ((zI_lt0 k2).mpr y2)]
              exact fin false (by rw [eRg, decide_eq_true (cmpR_neg.mp y2), decide_eq_true z]; simp)
            · rw [if_neg (fun w => y2 ((zI_lt0 k2).mp w))]
              exact fin true (by rw [eRg, decide_eq_true (cmpR_neg.mp (show cmpR (V (eF q j)).1 p.1 < 0 by omega)), decide_eq_false (show ¬ (V (eT q j)).1 < p.1 from fun w => y2 (cmpR_neg.mpr w)), decide_eq_true z]; rfl)
      · rw [if_neg (fun w => z (hsg.mp w))]
        exact fin false (by rw [decide_eq_false z]; rfl)
  exact key q.1 F 0 (by omega) (by omega)
end MAB
