/-! Answers of the class and of the reference, joined: what the calls share. -/
theorem foS_le {n : Nat} {g : Nat → Sg} {V : Nat → Pt} {q : ES} {rd root f0 : Nat → Nat} {B : Nat} (h0 : ∀ u, f0 u ≤ B) : ∀ k u, foS n g V q rd root f0 k u ≤ B := by
  intro k
  induction k with
  | zero => intro u; exact h0 u
  | succ k ih =>
    intro u
    rw [foS]
    split
    · unfold fAv
      split
      · exact Nat.zero_le _
      · split
        · exact Nat.zero_le _
        · exact ih _
    · exact ih u
theorem foF_le {n : Nat} {g : Nat → Sg} {q : ES} {root rd : Nat → Nat} {c : Nat} {lo ou : Nat → Nat} (u : Nat) : foF n g q root rd c lo ou u ≤ 1 + c := foS_le (fun u => by
  unfold numF
  have := cnt_le (fun o => !arF n g q root rd o && ahd g q lo ou o u) c
  omega) _ _
theorem atC_eq (q : ES) (h : eUp q) (v : Nat) : atC q v = cnt (fun e => decide (eF q e = v) || decide (eT q e = v)) q.1 := by
  have key : ∀ k, k ≤ q.1 → cnt (fun x => decide (bg q x = v)) (2 * k) = cnt (fun e => decide (eF q e = v) || decide (eT q e = v)) k := by
    intro k
    induction k with
    | zero => intro _; rfl
    | succ k ih =>
      intro hk
      have b1 : bg q (2 * k) = eF q k := by unfold bg; rw [if_pos (by omega), show 2 * k / 2 = k by omega]
      have b2 : bg q (2 * k + 1) = eT q k := by unfold bg; rw [if_neg (by omega), show (2 * k + 1) / 2 = k by omega]
      have hlt : eF q k < eT q k := h k hk
      rw [show 2 * (k + 1) = 2 * k + 1 + 1 from rfl, cnt, cnt, cnt, ih (by omega), b1, b2]
      by_cases z : eF q k = v
      · have w : ¬ eT q k = v := by omega
        simp [z, w]
      · by_cases w : eT q k = v <;> simp [z, w]
  exact key q.1 (Nat.le_refl _)
section MX
variable {M : MS} {n : Nat} {g : Nat → Sg} {root : Nat → Nat} {r : Nat → Option Nat} {c : Nat} {lo ou : Nat → Nat}
theorem mx_c (hM : mPic M n g root r c lo ou) (hg : gOk n g) (hn : n ≤ 12) : c ≤ 288 := by
  have h1 := hM.2.2.2.2.2.2.2.1
  have h2 := (EE_facts hg hn).2.1
  omega
theorem mx_rd (hM : mPic M n g root r c lo ou) (hg : gOk n g) (hn : n ≤ 12) : ∀ s, s < 2 * (EE g n).1 → M.2.1 15 s = nI ((fun s => (r s).getD 0) s) ∧ (fun s => (r s).getD 0) s < 320 := fun s hs => by
  have h1 := mx_c hM hg hn
  have h2 := (rdOk_of hM.2.2.2.2.2.2.2.2.1 hM.2.2.2.2.2.2.2.2.2.1).1 s hs
  have h3 : (fun s => (r s).getD 0) s < c := h2
  exact ⟨hM.2.2.2.2.2.2.2.2.2.2.1 s hs, by omega⟩
theorem mx_fw (hM : mPic M n g root r c lo ou) (hg : gOk n g) (hn : n ≤ 12) : ∀ w, w < c → M.2.1 20 w = nI (foF n g (EE g n) root (fun s => (r s).getD 0) c lo ou w) ∧ foF n g (EE g n) root (fun s => (r s).getD 0) c lo ou w < 2147483648 := fun w hw => by
  have h1 := mx_c hM hg hn
  have h2 := foF_le (n := n) (g := g) (q := EE g n) (root := root) (rd := fun s => (r s).getD 0) (c := c) (lo := lo) (ou := ou) w
  exact ⟨hM.2.2.2.2.2.2.2.2.2.2.2.2.2.2.2 w hw, by omega⟩
theorem mx_fo (hM : mPic M n g root r c lo ou) (hg : gOk n g) (hn : n ≤ 12) : ∀ s, s < 2 * (EE g n).1 → M.2.1 20 ((fun s => (r s).getD 0) s) = nI (foF n g (EE g n) root (fun s => (r s).getD 0) c lo ou ((fun s => (r s).getD 0) s)) ∧ foF n g (EE g n) root (fun s => (r s).getD 0) c lo ou ((fun s => (r s).getD 0) s) < 2147483648 := fun s hs =>
  mx_fw hM hg hn _ ((rdOk_of hM.2.2.2.2.2.2.2.2.1 hM.2.2.2.2.2.2.2.2.2.1).1 s hs)
theorem mx_21 (hM : mPic M n g root r c lo ou) : M.1 21 = nI (nFc n g root (fun s => (r s).getD 0) c) := by
  rw [hM.2.2.2.2.2.2.2.2.2.2.2.2.2.2.1]
  congr 2
  exact cnt_congr (fun u _ => (Bool.and_true _).symm)
end MX
theorem jP_.to {S : CS} {D : CD} {z : Nat × Nat} {a0 : Nat} {M M2 : MS} (h : jP_ S D z a0 M) (hk : ∀ n, mKp n M M2) : jP_ S D z a0 M2 := by
  obtain ⟨n, g, root, r, c, lo, ou, hg, hn, hM, hA⟩ := h
  exact ⟨n, g, root, r, c, lo, ou, hg, hn, mPic_kp hM (hk n), hA⟩
/-- a question about one thing out of K -/
theorem op_q {l : Launch} {G : cG} {Gm : mG} {S : CS} {D : CD} {z : Nat × Nat} {a0 o : Nat} {cJ : ClassId} {f : Nat → Int64} {M : MS} {yL yM : MethodName} {wL wM : List Cond} {rmM : Room} {avL avM : List Value} {B : Bool} {val : Int32} {enc : Int32 → Int64} (hj : jP_ S D z a0 M) (hD : ∀ D : CD, va_D (fun _ => True) (cW G S D)) (hc : mMI l yM wM rmM Gm avM M (mpF M 23 (bI (!B))) (if B then val else 0))
    (hN : B = true → wCon l yL wL G S D z o cJ f avL 0 (fun _ S2 D2 v => ∃ (r : Int32) (_ : Unit), r = val ∧ S = S2 ∧ D = D2 ∧ v = enc r)) (hT : B = false → wCon l yL wL G S D z o cJ f avL 1 (fun _ S2 D2 _ => S2 = S ∧ D2 = D)) :
    lRes l G Gm S D z a0 o cJ f M yL wL yM wM rmM avL avM enc := by
  cases B with
  | true =>
    refine ⟨0, val, _, mpF M 23 0, hN rfl, hc, mpF_s _ _ _, fun sz S2 D2 v h => ?_⟩
    obtain ⟨r, _, rfl, rfl, rfl, hv⟩ := h
    exact ⟨cGr.self hD, hj.to (fun n => mKp_23 _ _), fun _ => hv⟩
  | false =>
    refine ⟨1, 0, _, mpF M 23 1, hT rfl, hc, mpF_s _ _ _, fun sz S2 D2 v h => ?_⟩
    obtain ⟨rfl, rfl⟩ := h
    exact ⟨cGr.self hD, hj.to (fun n => mKp_23 _ _), fun h => absurd h (by decide)⟩
theorem ex_z (p : Int32) : ∃ x : Int, i32 x ∧ p = zI x := ⟨_, (zI_of p).2, (zI_of p).1.symm⟩
