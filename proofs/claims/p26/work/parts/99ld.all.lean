/-! What the law's all comes to: a number of the map alone. -/
def vAll (V : Nat → Pt) (h0 : Int64) : Nat → Int64
  | 0 => h0
  | k + 1 => (((1000003 * vAll V h0 k + (zI (V k).1.num).toInt64) + 101 * (zI (V k).1.den).toInt64) + 10007 * (zI (V k).2.num).toInt64) + 3 * (zI (V k).2.den).toInt64
def eAll (q : ES) (fc : Nat → Nat) (h0 : Int64) : Nat → Int64
  | 0 => h0
  | k + 1 => ((((1000003 * eAll q fc h0 k + (nI (eS q k)).toInt64) + 17 * (nI (eF q k)).toInt64) + 257 * (nI (eT q k)).toInt64) + 4099 * (nI (fc (2 * k))).toInt64) + 65537 * (nI (fc (2 * k + 1))).toInt64
def allV (n : Nat) (g : Nat → Sg) (root rd : Nat → Nat) (c : Nat) (lo ou : Nat → Nat) : Int64 :=
  eAll (EE g n) (fun s => foF n g (EE g n) root rd c lo ou (rd s)) (vAll (vI g n).2 (((nI n).toInt64 + 31 * (nI (nFc n g root rd c)).toInt64) + 7 * (nI (cnt (fun v => decide (root v = v)) (vI g n).1)).toInt64) (vI g n).1) (EE g n).1
section ALL
variable {F : Nat} {S : CS} {D : CD} {A sg w : Nat → Nat} {n : Nat} {g : Nat → Sg} {root rd : Nat → Nat} {c : Nat} {lo ou : Nat → Nat}
theorem pic_V (P : cPic S D A sg w n g root rd c lo ou) : (vI g n).1 ≤ 90 ∧ (EE g n).1 ≤ 144 := by
  obtain ⟨f1, f2, -⟩ := EE_facts P.2.2.2.2.2.2.2.2.1 P.2.2.1
  exact ⟨f1, f2⟩
theorem e_Lall (P : cPic S D A sg w n g root rd c lo ou) (hF : 1000 ≤ F) : f_L_all F S D (A 0) = some (allV n g root rd c lo ou) := by
  obtain ⟨bV1, bE1⟩ := pic_V P
  obtain ⟨c1, c2, c3, c4⟩ := k_counts (F := F) P
  have L90 : ∀ (h0 : Int64) (d m i : Nat), i + d = (EE g n).1 → d < m → f_L_all_L90 F S D m (A 0) (eAll (EE g n) (fun s => foF n g (EE g n) root rd c lo ou (rd s)) h0 i) (nI i) = some (eAll (EE g n) (fun s => foF n g (EE g n) root rd c lo ou (rd s)) h0 (EE g n).1) := by
    intro h0 d
    induction d with
    | zero =>
      intro m i hi hm
      obtain ⟨m, rfl⟩ : ∃ q, m = q + 1 := ⟨m - 1, by omega⟩
      rw [f_L_all_L90, ly_k P.1 0 (by decide) (by decide), c2, cal_some, if_pos ((nI_leI (by omega) (by omega)).mpr (by omega)), show i = (EE g n).1 by omega]
    | succ d ih =>
      intro m i hi hm
      obtain ⟨m, rfl⟩ : ∃ q, m = q + 1 := ⟨m - 1, by omega⟩
      have hlt : i < (EE g n).1 := by omega
      obtain ⟨e1, e2, e3⟩ := k_ends (F := F) P hlt
      obtain ⟨e4, e5⟩ := k_lr (F := F) P hlt
      rw [f_L_all_L90, ly_k P.1 0 (by decide) (by decide), c2, cal_some, if_neg (fun w => by have := (nI_leI (a := (EE g n).1) (b := i) (by omega) (by omega)).mp w; omega), e1, cal_some, e2, cal_some, e3, cal_some, e4, cal_some, e5, cal_some, nI_1]
      exact ih m (i + 1) (by omega) (by omega)
  have L28 : ∀ (h0 : Int64) (d m i : Nat), i + d = (vI g n).1 → d < m → f_L_all_L28 F S D m (A 0) (vAll (vI g n).2 h0 i) (nI i) = some (eAll (EE g n) (fun s => foF n g (EE g n) root rd c lo ou (rd s)) (vAll (vI g n).2 h0 (vI g n).1) (EE g n).1) := by
    intro h0 d
    induction d with
    | zero =>
      intro m i hi hm
      obtain ⟨m, rfl⟩ : ∃ q, m = q + 1 := ⟨m - 1, by omega⟩
      rw [f_L_all_L28, ly_k P.1 0 (by decide) (by decide), c1, cal_some, if_pos ((nI_leI (by omega) (by omega)).mpr (by omega)), show i = (vI g n).1 by omega]
      exact L90 _ (EE g n).1 F 0 (by omega) (by omega)
    | succ d ih =>
      intro m i hi hm
      obtain ⟨m, rfl⟩ : ∃ q, m = q + 1 := ⟨m - 1, by omega⟩
      have hlt : i < (vI g n).1 := by omega
      obtain ⟨e1, e2, e3, e4⟩ := k_coord (F := F) P hlt
      rw [f_L_all_L28, ly_k P.1 0 (by decide) (by decide), c1, cal_some, if_neg (fun w => by have := (nI_leI (a := (vI g n).1) (b := i) (by omega) (by omega)).mp w; omega), e1, cal_some, e2, cal_some, e3, cal_some, e4, cal_some, nI_1]
      exact ih m (i + 1) (by omega) (by omega)
  unfold f_L_all
  rw [ly_k P.1 0 (by decide) (by decide), k_segments P, cal_some, c3, cal_some, c4, cal_some]
  exact L28 _ (vI g n).1 F 0 (by omega) (by omega)
end ALL
