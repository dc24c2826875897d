/-! ### the class gathers its faces -/
/-- what gathering faces writes -/
def cFrZ (A : Nat → Nat) (D D2 : CD) : Prop := D2.2.1 = D.2.1 ∧ D2.2.2.2 = D.2.2.2 ∧ (∀ b k, b ≠ A 6 ∨ k ≠ 2 → D2.1 b k = D.1 b k) ∧ ∀ b, b ≠ A 29 → b ≠ A 32 → b ≠ A 33 → D2.2.2.1 b = D.2.2.1 b
theorem cFrZ.trans {A : Nat → Nat} {D D2 D3 : CD} (h : cFrZ A D D2) (h2 : cFrZ A D2 D3) : cFrZ A D D3 := ⟨h2.1.trans h.1, h2.2.1.trans h.2.1, fun b k hb => (h2.2.2.1 b k hb).trans (h.2.2.1 b k hb), fun b x y z => (h2.2.2.2 b x y z).trans (h.2.2.2 b x y z)⟩
theorem cFrZ.rf {A : Nat → Nat} {D : CD} : cFrZ A D D := ⟨rfl, rfl, fun _ _ _ => rfl, fun _ _ _ _ => rfl⟩
theorem cFrZ.ofR {A : Nat → Nat} {D D2 : CD} (h : cFrR A [29, 33] D D2) : cFrZ A D D2 := ⟨h.2.1, h.2.2.1, fun b k _ => by rw [h.1], fun b x _ z => h.2.2.2 b (fun r hr => by
  have : r = 29 ∨ r = 33 := by simpa using hr
  rcases this with e | e
  · subst e; exact x
  · subst e; exact z)⟩
section CGF
variable {F : Nat} {S : CS} {D : CD} {A : Nat → Nat} {sg w : Nat → Nat} {n : Nat} {g : Nat → Sg} {q : ES} {rd root lo ou : Nat → Nat} {c : Nat} {Q : Nat → Bool}
theorem cFrZ.row (hL : cLay S A) {D2 : CD} (h : cFrZ A D D2) (j : Nat) (hj : j < 124) (h1 : j ≠ 29) (h2 : j ≠ 32) (h3 : j ≠ 33) : D2.2.2.1 (A j) = D.2.2.1 (A j) := h.2.2.2 _ (ly_ne hL j 29 hj (by omega) h1) (ly_ne hL j 32 hj (by omega) h2) (ly_ne hL j 33 hj (by omega) h3)
theorem cFrZ.fld (hL : cLay S A) {D2 : CD} (h : cFrZ A D D2) (j k : Nat) (hj : j < 124) (h1 : j ≠ 6) : D2.1 (A j) k = D.1 (A j) k := h.2.2.1 _ _ (Or.inl (ly_ne hL j 6 hj (by omega) h1))
theorem cLin_Z (hL : cLay S A) {D2 : CD} (h : cLin S D A sg n g) (hf : cFrZ A D D2) : cLin S D2 A sg n g := by
  obtain ⟨h1, h2, h3, h4, h5⟩ := h
  refine ⟨?_, h2, h3, fun i hi => ?_, fun i hi => ?_⟩
  · rw [hf.fld hL 1 2 (by omega) (by omega)]; exact h1
  · rw [hf.2.1]; exact h4 i hi
  · obtain ⟨s1, s2, s3⟩ := h5 i hi
    have e1 : ∀ k, D2.1 (sg i) k = D.1 (sg i) k := fun k => hf.2.2.1 _ _ (Or.inl (kd_ne hL (by omega) s1.2 (by decide)))
    refine ⟨s1, ?_, ?_⟩
    · rw [e1, e1, e1, e1]; exact s2
    · rw [hf.1]; exact s3
theorem cVer_Z (hL : cLay S A) {D2 : CD} {nV : Nat} {V : Nat → Pt} (h : cVer S D A w nV V) (hf : cFrZ A D D2) : cVer S D2 A w nV V := by
  obtain ⟨h1, h2, h3, h4⟩ := h
  refine ⟨by rw [hf.fld hL 4 6 (by omega) (by omega)]; exact h1, fun i hi => by rw [hf.2.1]; exact h2 i hi, h3, fun i hi => ?_⟩
  obtain ⟨p1, p2⟩ := h4 i hi
  exact ⟨p1, by rw [hf.1]; exact p2⟩
theorem cE3_Z (hL : cLay S A) {D2 : CD} (h : cE3 D A q) (hf : cFrZ A D D2) : cE3 D2 A q := by
  refine ⟨by rw [hf.fld hL 5 5 (by omega) (by omega)]; exact h.1, fun i hi => ?_⟩
  rw [hf.row hL 25 (by omega) (by omega) (by omega) (by omega), hf.row hL 26 (by omega) (by omega) (by omega) (by omega), hf.row hL 27 (by omega) (by omega) (by omega) (by omega)]
  exact h.2 i hi
theorem cRng_Z (hL : cLay S A) {D2 : CD} {nV : Nat} (h : cRng n nV g q D A Q) (hf : cFrZ A D D2) : cRng n nV g q D2 A Q := by
  unfold cRng at *
  rw [hf.row hL 16 (by omega) (by omega) (by omega) (by omega), hf.row hL 17 (by omega) (by omega) (by omega) (by omega), hf.row hL 18 (by omega) (by omega) (by omega) (by omega), hf.row hL 28 (by omega) (by omega) (by omega) (by omega)]
  exact h
/-- what stands before the faces are gathered -/
def gPre (S : CS) (D : CD) (A sg w : Nat → Nat) (n : Nat) (g : Nat → Sg) (q : ES) (root : Nat → Nat) (Q : Nat → Bool) : Prop :=
  cLay S A ∧ cLin S D A sg n g ∧ n ≤ 12 ∧ cVer S D A w (vI g n).1 (vI g n).2 ∧ (vI g n).1 ≤ 90 ∧ cE3 D A q ∧ q.1 ≤ 144 ∧ cRng n (vI g n).1 g q D A Q ∧ (∀ s, s < 2 * q.1 → Q s = true) ∧ ∀ u, u < (vI g n).1 → D.2.2.1 (A 19) u = nI (root u)
theorem gPre_Z {D2 : CD} (h : gPre S D A sg w n g q root Q) (hf : cFrZ A D D2) : gPre S D2 A sg w n g q root Q := by
  obtain ⟨h1, h2, h3, h4, h5, h6, h7, h8, h9, h10⟩ := h
  refine ⟨h1, cLin_Z h1 h2 hf, h3, cVer_Z h1 h4 hf, h5, cE3_Z h1 h6 hf, h7, cRng_Z h1 h8 hf, h9, fun u hu => ?_⟩
  rw [hf.row h1 19 (by omega) (by omega) (by omega) (by omega)]
  exact h10 u hu
theorem k_faceLeft (hF : 1000 ≤ F) (h : FH n g q root rd c lo ou) (P : gPre S D A sg w n g q root Q) {a : Nat} {p : Pt} (hp : cPt S D a p) (bp : bV p) : f_X6_faceLeftOf F S D (A 0) a = some (lfV D A (fL g (vI g n).2 q p q.1)) := by
  obtain ⟨h1, h2, h3, h4, h5, h6, h7, h8, h9, h10⟩ := P
  have hw : eW q (vI g n).1 := fun e he => ⟨(eF_lt h.2.1 he).1, (eF_lt h.2.1 he).2⟩
  unfold f_X6_faceLeftOf
  exact k_fl4 h1 h2 h3 h.1.1 h4 (vI_good h.1.1 n (Nat.le_refl _)).2 h5 h6 h7 hw (fun e he => (h.2.1.1 e he).1) hp bp q.1 F 0 (by omega) (by omega)
abbrev fS2 (D : CD) (A : Nat → Nat) (n : Nat) (g : Nat → Sg) (q : ES) (root rd : Nat → Nat) (c : Nat) (lo ou : Nat → Nat) (Pd : Nat → Bool) : Prop := fSt D A q rd (foF n g q root rd c lo ou) (arF n g q root rd) c lo (1 + cnt (fun u => !arF n g q root rd u && Pd u) c) Pd
theorem fS2_congr (h : FH n g q root rd c lo ou) {Pd Pd' : Nat → Bool} (e : ∀ u, u < c → Pd u = Pd' u) (hs : fS2 D A n g q root rd c lo ou Pd) : fS2 D A n g q root rd c lo ou Pd' := by
  have hr := h.2.2.2.2.2.1
  have en : cnt (fun u => !arF n g q root rd u && Pd u) c = cnt (fun u => !arF n g q root rd u && Pd' u) c := cnt_congr (fun u hu => by rw [e u hu])
  obtain ⟨s1, s2, s3, s4, s5, s6⟩ := hs
  unfold fS2
  rw [← en]
  refine ⟨fun s hs => by rw [← e _ (hr s hs)]; exact s1 s hs, s2, s3, s4, fun x hx => ?_, fun u hu hp => s6 u hu (by rw [e u hu]; exact hp)⟩
  rw [s5 x hx]
  congr 1
  exact cnt_congr (fun s hs => by rw [e _ (hr s hs)])
def PdA (lo : Nat → Nat) (v u : Nat) : Bool := decide (lo u < v)
def PdC (n : Nat) (g : Nat → Sg) (q : ES) (root rd lo ou : Nat → Nat) (v K u : Nat) : Bool := decide (lo u < v) || (decide (lo u = v) && (arF n g q root rd u || decide (key n g q (ou u) < K)))
theorem PdC_iff {v K u : Nat} : PdC n g q root rd lo ou v K u = true ↔ lo u < v ∨ (lo u = v ∧ (arF n g q root rd u = true ∨ key n g q (ou u) < K)) := by
  unfold PdC
  rw [Bool.or_eq_true, Bool.and_eq_true, Bool.or_eq_true, decide_eq_true_eq, decide_eq_true_eq, decide_eq_true_eq]
/-- a side that is not painted begins a face -/
theorem k_sideF (hF : 1000 ≤ F) (h : FH n g q root rd c lo ou) (P : gPre S D A sg w n g q root Q) {v s : Nat} (hs : s < 2 * q.1) (hb : bg q s = v) (hst : fS2 D A n g q root rd c lo ou (PdC n g q root rd lo ou v (key n g q s))) (k9 : CD → Int32 → Option CD) (k76 : CD → Int32 → Int32 → Int32 → Option CD) (i : Nat) :
    ∃ D2 t, cFrZ A D D2 ∧ fS2 D2 A n g q root rd c lo ou (PdC n g q root rd lo ou v (key n g q s + 1)) ∧ (t < 2 * q.1 ∧ bg q t = bg q s ∧ isNx n g q Q s t) ∧
    (if D.2.2.1 (A 29) s = -1 then cal (S.2.2.1 (A 0) 4) fun p20 => ckK S p20 1 <| caM (f_X1_append F S D p20 (nI v)) fun D24 t25 => cal (f_X6_paintBorder F S D24 (A 0) (nI s) t25) fun D27 => f_X6_gatherFaces_b119 F S (A 0) k9 k76 D27 (nI v) (nI s) (nI i) else f_X6_gatherFaces_b119 F S (A 0) k9 k76 D (nI v) (nI s) (nI i)) = k76 D2 (nI v) (nI t) (nI (i + 1)) := by
  have P0 := P
  obtain ⟨hL, h2, h3, h4, h5, h6, h7, h8, h9, h10⟩ := P
  have hr := h.2.2.2.2.2.1
  have hrs := hr s hs
  obtain ⟨t, t1, t2, t3, t4, t5⟩ := h8.2.2 s hs (h9 s hs)
  have hb119 : ∀ D2, cFrZ A D D2 → f_X6_gatherFaces_b119 F S (A 0) k9 k76 D2 (nI v) (nI s) (nI i) = k76 D2 (nI v) (nI t) (nI (i + 1)) := by
    intro D2 hf
    unfold f_X6_gatherFaces_b119
    rw [ly_k hL 0 (by decide) (by decide), ly_r hL 0 3 5 (by decide), ly_k hL 5 (by decide) (by decide), ly_r hL 5 3 23 (by decide), ly_k hL 23 (by decide) (by decide), k_get (rw_above hL) (by omega), cal_some, hf.row hL 28 (by omega) (by omega) (by omega) (by omega), t4, nI_1]
  have hrow := hst.1 s hs
  obtain ⟨a1, a2, a3, a4⟩ := h.2.2.2.2.2.2.2.2 (rd s) hrs
  have hle := (a4 s hs rfl).1
  rw [hb] at hle
  cases hp : PdC n g q root rd lo ou v (key n g q s) (rd s)
  · rw [hp] at hrow
    have hnp : ¬ (lo (rd s) < v ∨ (lo (rd s) = v ∧ (arF n g q root rd (rd s) = true ∨ key n g q (ou (rd s)) < key n g q s))) := fun w => by
      rw [PdC_iff.mpr w] at hp; cases hp
    have hlo : lo (rd s) = v := by omega
    have har : arF n g q root rd (rd s) = false := by
      cases z : arF n g q root rd (rd s)
      · rfl
      · exact absurd (Or.inr ⟨hlo, Or.inl z⟩) hnp
    have hkk : key n g q (ou (rd s)) = key n g q s := by
      have h1 := (a4 s hs rfl).2 (by rw [hb, hlo])
      have h2 : ¬ key n g q (ou (rd s)) < key n g q s := fun z => hnp (Or.inr ⟨hlo, Or.inr z⟩)
      omega
    have hos : ou (rd s) = s := h.2.2.1 _ _ a1 hs (by rw [a3, hb, hlo]) hkk
    -- its number is the next one
    have hnum : foF n g q root rd c lo ou (rd s) = 1 + cnt (fun u => !arF n g q root rd u && PdC n g q root rd lo ou v (key n g q s) u) c := by
      rw [fo_num _ har, num_bfr h hrs]
      congr 1
      refine cnt_congr (fun u hu => ?_)
      cases ha : arF n g q root rd u
      · show (true && bfr n g q lo ou u (rd s)) = (true && PdC n g q root rd lo ou v (key n g q s) u)
        congr 1
        rw [Bool.eq_iff_iff, PdC_iff, ha]
        unfold bfr
        rw [Bool.or_eq_true, Bool.and_eq_true, decide_eq_true_eq, decide_eq_true_eq, decide_eq_true_eq, hlo, hkk]
        simp
      · rfl
    have h55 := na_55 h h3
    have hlt : cnt (fun u => !arF n g q root rd u && PdC n g q root rd lo ou v (key n g q s) u) c < cnt (fun u => !arF n g q root rd u) c := by
      refine cnt_lt (i := rd s) (fun k _ hk => (Bool.and_eq_true_iff.mp hk).1) hrs ?_ ?_
      · rw [hp, Bool.and_false]
      · rw [har]; rfl
    obtain ⟨D1, b1, b2, b3, b4, b5, b6, b7⟩ := k_append1 (F := F) (D := D) hL (nF := 1 + cnt (fun u => !arF n g q root rd u && PdC n g q root rd lo ou v (key n g q s) u) c) (by omega) (by omega) hst hr hnum (fun u' hu' h1 h2 => fo_inj h hu' hrs h1 har (h2.trans hnum.symm))
    have hf1 : cFrZ A D D1 := ⟨b3, b4, b5, fun b _ x y => b6 b x y⟩
    have P1 := gPre_Z P0 hf1
    obtain ⟨D2, d1, d2, d3⟩ := k_paint (F := F) (D := D1) hF hL h7 h.2.2.1 h.2.2.2.2.2 (P1.2.2.2.2.2.2.2.1) h9 (by omega) b7 hs hp (by rw [hnum]; omega)
    have hf2 := hf1.trans (cFrZ.ofR d2)
    refine ⟨D2, t, hf2, ?_, ⟨t1, t3, t5⟩, ?_⟩
    · have hpd : ∀ u, u < c → (PdC n g q root rd lo ou v (key n g q s) u || decide (u = rd s)) = PdC n g q root rd lo ou v (key n g q s + 1) u := by
        intro u hu
        rw [Bool.eq_iff_iff, Bool.or_eq_true, PdC_iff, PdC_iff, decide_eq_true_eq]
        obtain ⟨e1, e2, e3, e4⟩ := h.2.2.2.2.2.2.2.2 u hu
        constructor
        · rintro ((z | ⟨z1, z2⟩) | z)
          · exact Or.inl z
          · exact Or.inr ⟨z1, z2.imp id (fun y => by omega)⟩
          · rw [z]; exact Or.inr ⟨hlo, Or.inr (by omega)⟩
        · rintro (z | ⟨z1, z2 | z2⟩)
          · exact Or.inl (Or.inl z)
          · exact Or.inl (Or.inr ⟨z1, Or.inl z2⟩)
          · rcases Nat.lt_or_ge (key n g q (ou u)) (key n g q s) with y | y
            · exact Or.inl (Or.inr ⟨z1, Or.inr y⟩)
            · right
              have : ou u = s := h.2.2.1 _ _ e1 hs (by rw [e3, hb, z1]) (by omega)
              rw [← e2, this]
      have hcn : cnt (fun u => !arF n g q root rd u && PdC n g q root rd lo ou v (key n g q s) u) c + 1 = cnt (fun u => !arF n g q root rd u && (PdC n g q root rd lo ou v (key n g q s) u || decide (u = rd s))) c := by
        rw [cnt_add1 (P := fun u => !arF n g q root rd u && PdC n g q root rd lo ou v (key n g q s) u) (Q := fun u => !arF n g q root rd u && (PdC n g q root rd lo ou v (key n g q s) u || decide (u = rd s))) (x := rd s) (by
          show (!arF n g q root rd (rd s) && PdC n g q root rd lo ou v (key n g q s) (rd s)) = false
          rw [hp, Bool.and_false]) (fun u => by
          by_cases y : u = rd s
          · rw [y, har, decide_eq_true (p := rd s = rd s) rfl]; simp
          · rw [decide_eq_false y, Bool.or_false, Bool.or_false]) c, if_pos hrs]
      refine fS2_congr h hpd ?_
      unfold fS2
      rw [← hcn]
      exact d3
    · have hrow : D.2.2.1 (A 29) s = -1 := hrow
      rw [if_pos hrow, ly_r hL 0 4 6 (by decide), ly_k hL 6 (by decide) (by decide), show nI v = nI (lo (rd s)) by rw [hlo], b1, caM_some, ← hnum, d1, cal_some, hlo]
      exact hb119 D2 hf2
  · rw [hp] at hrow
    have hrow : D.2.2.1 (A 29) s = nI (foF n g q root rd c lo ou (rd s)) := hrow
    have hfl := hst.2.2.2.2.2 _ hrs hp
    have h55 := na_55 h h3
    have hcl : cnt (fun u => !arF n g q root rd u && PdC n g q root rd lo ou v (key n g q s) u) c ≤ cnt (fun u => !arF n g q root rd u) c := cnt_into (fun u => u) (fun u hu hp => ⟨hu, (Bool.and_eq_true_iff.mp hp).1⟩) (fun _ _ _ _ _ _ e => e)
    refine ⟨D, t, cFrZ.rf, ?_, ⟨t1, t3, t5⟩, ?_⟩
    · refine fS2_congr h (fun u hu => ?_) hst
      rw [Bool.eq_iff_iff, PdC_iff, PdC_iff]
      obtain ⟨e1, e2, e3, e4⟩ := h.2.2.2.2.2.2.2.2 u hu
      constructor
      · rintro (z | ⟨z1, z2⟩)
        · exact Or.inl z
        · exact Or.inr ⟨z1, z2.imp id (fun y => by omega)⟩
      · rintro (z | ⟨z1, z2 | z2⟩)
        · exact Or.inl z
        · exact Or.inr ⟨z1, Or.inl z2⟩
        · rcases Nat.lt_or_ge (key n g q (ou u)) (key n g q s) with y | y
          · exact Or.inr ⟨z1, Or.inr y⟩
          · have e5 : ou u = s := h.2.2.1 _ _ e1 hs (by rw [e3, hb, z1]) (by omega)
            rw [show u = rd s by rw [← e2, e5]]
            exact PdC_iff.mp hp
    · rw [hrow, if_neg (fun z => by have := (oI_m1 (o := some (foF n g q root rd c lo ou (rd s))) (fun x hx => by cases hx; omega)).mp z; cases this)]
      exact hb119 D cFrZ.rf
end CGF
