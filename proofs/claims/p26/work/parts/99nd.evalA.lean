/-! What the law draws in one turn. -/
theorem nn_I {v : Int32} (h : 0 ≤ v) : ∃ d : Nat, d < 2147483648 ∧ v = nI d := by
  have h1 : 0 ≤ v.toInt := by have := Int32.le_iff_toInt_le.mp h; exact this
  have h2 := v.toInt_lt
  refine ⟨v.toInt.toNat, by omega, ?_⟩
  rw [nI_zI]
  apply Int32.toInt_inj.mp
  rw [zI_toInt ⟨by omega, by omega⟩]; omega
theorem mod_c {v wd tm : Nat} (hv : v < 2147483648) (hw : 0 < wd) (hw2 : wd ≤ 101) : (nI v - nI v / nI wd * nI wd) * nI tm = nI (v % wd * tm) := by
  rw [pk_rem (a := v) (d := wd) (by omega) hw (by omega), nI_zI, nI_zI, nI_zI, zI_mul]; congr 1
theorem mod_b {v wd tm : Nat} (hw : 0 < wd) (h : (wd - 1) * tm ≤ 100) : v % wd * tm ≤ 100 := by
  have h1 : v % wd ≤ wd - 1 := by have := Nat.mod_lt v hw; omega
  exact Nat.le_trans (Nat.mul_le_mul_right tm h1) h
theorem dcW_at {α : Type} {dc : Int32 → Int32} {k : Int32} {g : Int32 → Option α} (h : ¬ k < 0) : dcW dc k g = g (dc k) := if_neg h
theorem dvI_at {α : Type} {d : Int32} {g : Option α} (h : ¬ d = 0) : dvI d g = g := if_neg h
section DRW
variable {F : Nat} {S : CS} {D : CD} {n : Nat} {g : Nat → Sg} {gA mA : Nat} {dc : Int32 → Int32}
theorem e_A258 (hg : gOn S gA) (hm : mOn S mA) (hn : n ≤ 12) (hgo : ∀ i, i < n → sOk (g i)) (hr : ∀ i, i < n → rowG D gA i (g i)) (hn0 : D.2.2.1 mA 0 = nI n) (x0 x1 : Nat) {k t y hw ax ay bx b0 : Nat} (hy : y < 2147483648) (hh : hw < 16) (h1 : bx ≤ 100) (h2 : b0 ≤ 100) :
    ∃ p q : Int, inR p ∧ inR q ∧ f_L_law_A_b258 F S dc x0 x1 gA mA D (nI k) (nI t) (nI y) (nI hw) (nI ax) (nI ay) (nI bx) (nI b0) = some (D, 2, [nI k, nI t, nI y, nI ax, nI ay, zI p, zI q], []) := by
  have base : ∃ p q : Int, inR p ∧ inR q ∧ (some (D, 2, [nI k, nI t, nI y, nI ax, nI ay, nI bx, nI b0], []) : Option (CD × Nat × List Int32 × List Int64)) = some (D, 2, [nI k, nI t, nI y, nI ax, nI ay, zI p, zI q], []) :=
    ⟨bx, b0, ⟨by omega, by omega⟩, ⟨by omega, by omega⟩, by rw [← nI_zI, ← nI_zI]⟩
  unfold f_L_law_A_b258
  rw [ck_ok hm.1, m_rd hm, hn0]
  by_cases c1 : n = 0
  · rw [if_pos (show nI n ≤ 0 by rw [c1]; decide)]; exact base
  · have hz : ¬ nI n ≤ 0 := fun w => by have := (nI_leI (a := n) (b := 0) (by omega) (by omega)).mp w; omega
    have hz0 : ¬ nI n = 0 := fun w => c1 ((nI_eq (b := 0) (by omega) (by omega)).mp w)
    rw [if_neg hz]
    by_cases c2 : hw ≤ 8
    · rw [if_pos (show nI hw ≤ 8 from (nI_leI (a := hw) (b := 8) (by omega) (by omega)).mpr c2)]; exact base
    · rw [if_neg (show ¬ nI hw ≤ 8 from fun w => c2 ((nI_leI (a := hw) (b := 8) (by omega) (by omega)).mp w)), show nI hw - nI hw / 3 * 3 = nI (hw % 3) from pk_rem (d := 3) (by omega) (by decide) (by decide)]
      by_cases c3 : hw % 3 = 0
      · have hyn : nI y - nI y / nI n * nI n = nI (y % n) := pk_rem (by omega) (by omega) (by omega)
        have hlt : y % n < n := Nat.mod_lt _ (by omega)
        obtain ⟨r0, r1, r2, r3⟩ := hr _ hlt
        obtain ⟨⟨a1, a2, a3, a4⟩, -⟩ := hgo _ hlt
        refine ⟨_, _, a3, a4, ?_⟩
        rw [if_pos (show nI (hw % 3) = 0 by rw [c3]; rfl)]
        unfold dvI
        rw [m_rd hm, hn0, if_neg hz0, hyn, ck_ok hg.1, ix2, g_rd hg (by omega), m_rd hm, hn0, if_neg hz0, hyn, ix3, g_rd hg (by omega), r2, r3]
      · rw [if_neg (show ¬ nI (hw % 3) = 0 from fun w => c3 ((nI_eq (b := 0) (by omega) (by omega)).mp w))]; exact base
theorem e_A180 (hdc : ∀ v, 0 ≤ dc v) (hg : gOn S gA) (hm : mOn S mA) (hn : n ≤ 12) (hgo : ∀ i, i < n → sOk (g i)) (hr : ∀ i, i < n → rowG D gA i (g i)) (hn0 : D.2.2.1 mA 0 = nI n) (x0 x1 : Nat) {k t y hw wd tm : Nat} (hk : k < 45) (hy : y < 2147483648) (hh : hw < 16) (h1 : 0 < wd) (h2 : wd ≤ 101) (h3 : (wd - 1) * tm ≤ 100) :
    ∃ p1 q1 p q : Int, inR p1 ∧ inR q1 ∧ inR p ∧ inR q ∧ f_L_law_A_b180 F S dc x0 x1 gA mA D (nI k) (nI t) (nI y) (nI hw) (nI wd) (nI tm) = some (D, 2, [nI k, nI t, nI y, zI p1, zI q1, zI p, zI q], []) := by
  have hz : ¬ nI wd = 0 := fun w => by have := (nI_eq (b := 0) (by omega) (by omega)).mp w; omega
  have d1 : nI y / 101 = nI (y / 101) := pk_div (d := 101) (by omega) (by decide) (by decide)
  have d2 : nI y / 10201 = nI (y / 10201) := pk_div (d := 10201) (by omega) (by decide) (by decide)
  have b229 : ∀ bx : Nat, bx ≤ 100 → ∃ p1 q1 p q : Int, inR p1 ∧ inR q1 ∧ inR p ∧ inR q ∧ f_L_law_A_b229 F S dc x0 x1 gA mA D (nI k) (nI t) (nI y) (nI hw) (nI wd) (nI tm) (nI (y % wd * tm)) (nI (y / 101 % wd * tm)) (nI bx) = some (D, 2, [nI k, nI t, nI y, zI p1, zI q1, zI p, zI q], []) := by
    intro bx hbx
    have m1 := mod_b (v := y) h1 h3
    have m2 := mod_b (v := y / 101) h1 h3
    unfold f_L_law_A_b229
    by_cases c7 : hw = 7
    · obtain ⟨p, q, hp, hq, he⟩ := e_A258 (F := F) (dc := dc) hg hm hn hgo hr hn0 x0 x1 (k := k) (t := t) (ax := y % wd * tm) (ay := y / 101 % wd * tm) hy hh hbx m2
      refine ⟨(y % wd * tm : Nat), (y / 101 % wd * tm : Nat), p, q, ⟨by omega, by omega⟩, ⟨by omega, by omega⟩, hp, hq, ?_⟩
      rw [if_pos (show nI hw = 7 by rw [c7]; rfl), he, nI_zI (y % wd * tm), nI_zI (y / 101 % wd * tm)]
    · obtain ⟨d, hd, ed⟩ := nn_I (hdc (nI k + 60))
      have m3 := mod_b (v := d) h1 h3
      obtain ⟨p, q, hp, hq, he⟩ := e_A258 (F := F) (dc := dc) hg hm hn hgo hr hn0 x0 x1 (k := k) (t := t) (ax := y % wd * tm) (ay := y / 101 % wd * tm) hy hh hbx m3
      refine ⟨(y % wd * tm : Nat), (y / 101 % wd * tm : Nat), p, q, ⟨by omega, by omega⟩, ⟨by omega, by omega⟩, hp, hq, ?_⟩
      rw [if_neg (show ¬ nI hw = 7 from fun w => c7 ((nI_eq (a := hw) (b := 7) (by omega) (by omega)).mp w)), dcW_at (show ¬ nI k + 60 < 0 by rw [show (60 : Int32) = nI 60 from rfl, ixk]; exact nI_lt0 (by omega)), dvI_at hz, ed, mod_c hd h1 h2, he, nI_zI (y % wd * tm), nI_zI (y / 101 % wd * tm)]
  unfold f_L_law_A_b180 dvI
  rw [if_neg hz, if_neg hz, d1, mod_c hy h1 h2, mod_c (v := y / 101) (by omega) h1 h2]
  by_cases c6 : hw = 6
  · rw [if_pos (show nI hw = 6 by rw [c6]; rfl)]
    exact b229 _ (mod_b h1 h3)
  · rw [if_neg (show ¬ nI hw = 6 from fun w => c6 ((nI_eq (a := hw) (b := 6) (by omega) (by omega)).mp w)), if_neg hz, d2, mod_c (v := y / 10201) (by omega) h1 h2]
    exact b229 _ (mod_b h1 h3)
theorem e_Llaw_A (hdc : ∀ v, 0 ≤ dc v) (hg : gOn S gA) (hm : mOn S mA) (hn : n ≤ 12) (hgo : ∀ i, i < n → sOk (g i)) (hr : ∀ i, i < n → rowG D gA i (g i)) (hn0 : D.2.2.1 mA 0 = nI n) (x0 x1 : Nat) {k : Nat} (hk : k < 45) :
    (∃ t y : Nat, t < 2147483648 ∧ y < 2147483648 ∧ 0 < n ∧ f_L_law_A F S dc D x0 x1 gA mA 1 (nI k) = some (D, 1, [nI k, nI t, nI y], [])) ∨
    (∃ (t y : Nat) (p1 q1 p q : Int), t < 2147483648 ∧ y < 2147483648 ∧ inR p1 ∧ inR q1 ∧ inR p ∧ inR q ∧ f_L_law_A F S dc D x0 x1 gA mA 1 (nI k) = some (D, 2, [nI k, nI t, nI y, zI p1, zI q1, zI p, zI q], [])) := by
  obtain ⟨t, ht, et⟩ := nn_I (hdc (nI k))
  have d1 : nI t / 16 = nI (t / 16) := pk_div (d := 16) (by omega) (by decide) (by decide)
  have d2 : nI t - nI (t / 16) * 16 = nI (t % 16) := by rw [← d1]; exact pk_rem (d := 16) (by omega) (by decide) (by decide)
  have hh : t % 16 < 16 := Nat.mod_lt _ (by omega)
  have e8 : (8 : Int32) ≤ nI (t % 16) ↔ 8 ≤ t % 16 := nI_leI (a := 8) (by omega) (by omega)
  have e11 : (11 : Int32) ≤ nI (t % 16) ↔ 11 ≤ t % 16 := nI_leI (a := 11) (by omega) (by omega)
  have e180 := fun wd tm h1 h2 h3 => e_A180 (F := F) hdc hg hm hn hgo hr hn0 x0 x1 (k := k) (t := t) (y := t / 16) (hw := t % 16) (wd := wd) (tm := tm) hk (by omega) hh h1 h2 h3
  have b128 : ∃ p1 q1 p q : Int, inR p1 ∧ inR q1 ∧ inR p ∧ inR q ∧ f_L_law_A_b128 F S dc x0 x1 gA mA D (nI k) (nI t) (nI (t / 16)) (nI (t % 16)) = some (D, 2, [nI k, nI t, nI (t / 16), zI p1, zI q1, zI p, zI q], []) := by
    unfold f_L_law_A_b128 f_L_law_A_b154
    by_cases c8 : 8 ≤ t % 16
    · by_cases c11 : 11 ≤ t % 16
      · obtain ⟨p1, q1, p, q, a1, a2, a3, a4, a5⟩ := e180 101 1 (by omega) (by omega) (by omega)
        refine ⟨p1, q1, p, q, a1, a2, a3, a4, ?_⟩
        rw [if_pos (e8.mpr c8), if_pos (e11.mpr c11), if_pos (e8.mpr c8), if_pos (e11.mpr c11)]
        exact a5
      · obtain ⟨p1, q1, p, q, a1, a2, a3, a4, a5⟩ := e180 21 5 (by omega) (by omega) (by omega)
        refine ⟨p1, q1, p, q, a1, a2, a3, a4, ?_⟩
        rw [if_pos (e8.mpr c8), if_neg (mt e11.mp c11), if_pos (e8.mpr c8), if_neg (mt e11.mp c11)]
        exact a5
    · obtain ⟨p1, q1, p, q, a1, a2, a3, a4, a5⟩ := e180 6 20 (by omega) (by omega) (by omega)
      refine ⟨p1, q1, p, q, a1, a2, a3, a4, ?_⟩
      rw [if_neg (mt e8.mp c8), if_neg (mt e8.mp c8)]
      exact a5
  obtain ⟨p1, q1, p, q, a1, a2, a3, a4, a5⟩ := b128
  have two : f_L_law_A F S dc D x0 x1 gA mA 1 (nI k) = some (D, 2, [nI k, nI t, nI (t / 16), zI p1, zI q1, zI p, zI q], []) ∨ (0 < n ∧ f_L_law_A F S dc D x0 x1 gA mA 1 (nI k) = some (D, 1, [nI k, nI t, nI (t / 16)], [])) := by
    have b108 : ∀ s0 : Int32, f_L_law_A_b108 F S dc x0 x1 gA mA D (nI k) (nI t) (nI (t / 16)) (nI (t % 16)) s0 (nI (t % 16)) = some (D, 2, [nI k, nI t, nI (t / 16), zI p1, zI q1, zI p, zI q], []) ∨ f_L_law_A_b108 F S dc x0 x1 gA mA D (nI k) (nI t) (nI (t / 16)) (nI (t % 16)) s0 (nI (t % 16)) = some (D, 1, [nI k, nI t, nI (t / 16)], []) := fun s0 => by
      unfold f_L_law_A_b108
      by_cases c : s0 ≤ nI (t % 16)
      · rw [if_pos c]; exact Or.inl a5
      · rw [if_neg c]; exact Or.inr rfl
    unfold f_L_law_A
    rw [if_neg (show ¬ (45 : Int32) ≤ nI k from fun w => by have := (nI_leI (a := 45) (b := k) (by omega) (by omega)).mp w; omega), if_neg (by decide), dcW_at (nI_lt0 (by omega)), ck_ok hm.1, m_rd hm, hn0, et, d1, d2]
    by_cases c1 : n = 0
    · rw [if_pos (show nI n ≤ 0 by rw [c1]; decide)]; exact Or.inl a5
    · rw [if_neg (show ¬ nI n ≤ 0 from fun w => by have := (nI_leI (a := n) (b := 0) (by omega) (by omega)).mp w; omega), m_rd hm, hn0]
      by_cases c9 : nI n ≤ 9
      · rw [if_pos c9]
        rcases b108 2 with w | w
        · exact Or.inl w
        · exact Or.inr ⟨by omega, w⟩
      · rw [if_neg c9]
        rcases b108 5 with w | w
        · exact Or.inl w
        · exact Or.inr ⟨by omega, w⟩
  rcases two with w | ⟨w1, w2⟩
  · exact Or.inr ⟨t, t / 16, p1, q1, p, q, ht, by omega, a1, a2, a3, a4, w⟩
  · exact Or.inl ⟨t, t / 16, ht, by omega, w1, w2⟩
end DRW
