/-! The new object as a picture of no segments: i_X6n. -/
section N0
variable {N : Nat} {S : CS} {D : CD} {a0 sz e : Nat}
theorem dl_1 : dOld (dX6_1 D sz) (dX6 N D sz) (sz + 1) (sz + 1) := by
  unfold dX6 dX6_5 dX6_4 dX6_3 dX6_2
  exact dOld.pt (dOld.new (dOld.new (dOld.new (dOld.tr (dOld.new (dOld.tr (dOld.new (dOld.tr (dOld.new (dOld.sg (dOld.new dOld.rfl (by omega)) (by omega)) (by omega)) (qX5_old N _ _ _) (by omega) (by omega)) (by omega)) (qX0_old _ _ _) (by omega) (by omega)) (by omega)) (qX1_old _ _ _) (by omega) (by omega)) (by omega)) (by omega)) (by omega)) (by omega)
theorem dl_3 : dOld (dX6_3 N D sz) (dX6 N D sz) (sz + 103) (sz + 103) := by
  unfold dX6 dX6_5 dX6_4
  exact dOld.pt (dOld.new (dOld.new (dOld.new (dOld.tr (dOld.new (dOld.tr (dOld.new dOld.rfl (by omega)) (qX0_old _ _ _) (by omega) (by omega)) (by omega)) (qX1_old _ _ _) (by omega) (by omega)) (by omega)) (by omega)) (by omega)) (by omega)
theorem d6_size : (dX6 N D sz).1 sz 2 = 0 := by
  rw [(dl_1 (N := N) (D := D) sz (by omega) (by omega)).1]
  show va_up (dNew D sz).1 sz (va_up ((dNew D sz).1 sz) 0 0) sz 2 = 0
  rw [va_up_self, va_up_ne _ _ (by decide)]
  show va_up D.1 sz (fun _ => 0) sz 2 = 0
  rw [va_up_self]
theorem qX5_pts (N : Nat) (D : CD) (a sz j : Nat) (hj : j < N) (ha : a < sz) : (qX5_init N D a sz).2.2.2 sz j = some (sz + 1 + j) := by
  have h : dOld (pDt (dNew D sz) sz (sz + 1) N) (qX5_init N D a sz) (sz + 1) a := by
    unfold qX5_init qX5_b
    have h0 : dOld (pDt (dNew D sz) sz (sz + 1) N) (pDt (dNew D sz) sz (sz + 1) N) (sz + 1) a := dOld.rfl
    intro x hx hxa
    have e1 : x ≠ sz + 91 := by
      intro w; omega
    have B : ∀ (E : CD) (q : Nat), x ≠ q → (dNew E q).1 x = E.1 x ∧ (dNew E q).2.1 x = E.2.1 x ∧ (dNew E q).2.2.1 x = E.2.2.1 x ∧ (dNew E q).2.2.2 x = E.2.2.2 x := fun E q hq => dNew_x E q x hq
    exact (dOld.new (dOld.new (dOld.new (dOld.new (dOld.new (dOld.new (dOld.new (dOld.new (dOld.pt (dOld.new h0 (by omega)) (by omega)) (by omega)) (by omega)) (by omega)) (by omega)) (by omega)) (by omega)) (by omega)) (by omega)).F x hx hxa
  rw [(h sz (by omega) (by omega)).2.2.2]
  exact pDt_p (dNew D sz) sz (sz + 1) N j (by omega) hj
theorem d6_pts (hN : N = 90) {j : Nat} (hj : j < 90) : (dX6 N D sz).2.2.2 (sz + 3) j = some (sz + (4 + j)) := by
  rw [(dl_3 (N := N) (D := D) (sz + 3) (by omega) (by omega)).2.2.2]
  have h := qX5_pts N (dNew (dX6_2 D sz) (sz + 2)) (sz + 2) (sz + 3) j (by omega) (by omega)
  rw [show sz + (4 + j) = sz + 3 + 1 + j from by omega]
  exact h
theorem cLin_6 (hlt : a0 < sz) (he : e < sz) (hse : S.2.2.2 e < 2147483648) (sg : Nat → Nat) (g : Nat → Sg) : cLin (sX6 N S a0 sz e) (dX6 N D sz) (A6 a0 sz e) sg 0 g := by
  have e2 : (sX6 N S a0 sz e).2.2.2 e = S.2.2.2 e := (lo_0 (N := N) e he).2.1
  refine ⟨?_, ⟨Nat.zero_le _, fun w => absurd w (by omega)⟩, ?_, fun i hi => absurd hi (by omega), fun i hi => absurd hi (by omega)⟩
  · show (dX6 N D sz).1 (sz + 0) 2 = nI 0
    exact d6_size
  · show (sX6 N S a0 sz e).2.2.2 e < 2147483648
    rw [e2]; exact hse
theorem cW90_6 (hN : N = 90) : cW90 (dX6 N D sz) (A6 a0 sz e) (fun i => i) := by
  refine ⟨fun i hi => ⟨hi, ?_⟩, fun i j _ _ h => h⟩
  have e1 : A6 a0 sz e (34 + i) = sz + (4 + i) := by
    unfold A6 tao
    rw [if_neg (by omega), if_neg (by omega), if_neg (by omega)]
    omega
  rw [e1]
  exact d6_pts hN hi
end N0
/-- where the list's row stands -/
def cRowZ (S : CS) (A : Nat → Nat) (z : Nat × Nat) (n : Nat) : Prop := (A 2 = z.1 ∧ n = 0) ∨ (A 2 ∈ S.1 ∧ S.2.1 (A 2) = 10 ∧ (S.2.2.2 (A 2) = 10 ∨ S.2.2.2 (A 2) = 15))
/-- all that stands of the object at a0 between two calls -/
def cAll (S : CS) (D : CD) (z : Nat × Nat) (a0 : Nat) (n : Nat) (g : Nat → Sg) (root rd : Nat → Nat) (c : Nat) (lo ou : Nat → Nat) : Prop := ∃ A sg w : Nat → Nat, A 0 = a0 ∧ cRowZ S A z n ∧ cPic S D A sg w n g root rd c lo ou
theorem i_X6n (l : Launch) (G : cG) (F : Nat) (hF : 1000 ≤ F) (S : CS) (z : Nat × Nat) (D : CD) (a0 : Nat) (hm0 : a0 ∈ S.1) (hk0 : S.2.1 a0 = 6) (hse : S.2.2.2 z.1 < 2147483648) {g : Nat → Sg} {root rd : Nat → Nat} {c : Nat} {lo ou : Nat → Nat} (hFH : FH 0 g (EE g 0) root rd c lo ou) :
    ∀ sz : Nat, Met l yX6_init wX6_init ({ frames := 8, cells := 122, slots := 2021, locals := 200 }) (cPz G sz S D z [.ref a0]) (va_Qv (fun (u : CS × CD) => cAll u.1 u.2 z a0 0 g root rd c lo ou ∧ cGr G S u.1 sz) (fun u t => cIs G u.1 u.2 t) (cA G S sz)) 122 2021 (cA G S sz) := by
  refine i_X6 90 rfl l G F S z D a0 hm0 hk0 (fun _ S2 D2 => cAll S2 D2 z a0 0 g root rd c lo ou) (fun sz hlt hz => ?_)
  have hL := cLay_6 (N := 90) (e := z.1) rfl hm0 hk0 hlt hz.2 hz.1
  obtain ⟨D2, w2, h1, h2⟩ := k_rebuild (F := F) hF hL (cLin_6 (D := D) hlt hz.2 hse (fun _ => 0) g) (Nat.zero_le _) (cW90_6 rfl) hFH
  exact ⟨D2, h1, A6 a0 sz z.1, fun _ => 0, w2, rfl, Or.inl ⟨rfl, rfl⟩, h2⟩
