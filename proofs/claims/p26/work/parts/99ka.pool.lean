/-! The class's pool and the law's two rows beside it: one pool. -/
def sGM (S : CS) (gA mA : Nat) : CS := (gA :: mA :: S.1, fun a => if a = gA ∨ a = mA then 8 else S.2.1 a, S.2.2.1, fun a => if a = gA then 52 else if a = mA then 1 else S.2.2.2 a)
/-- the rows' contents put into D -/
def dGM (D : CD) (gA mA : Nat) (gf mf : Nat → Int32) : CD := (D.1, D.2.1, fun a => if a = gA then gf else if a = mA then mf else D.2.2.1 a, D.2.2.2)
def rGM (G : cG) (gA mA : Nat) (gf mf : Nat → Int32) : va_W := [(gA, .inl (ccI G, 52, .inl gf)), (mA, .inl (ccI G, 1, .inl mf))]
/-- gA and mA are two rows beside the pool and the empty row -/
def apGM (S : CS) (z : Nat × Nat) (gA mA : Nat) : Prop := gA ∉ S.1 ∧ mA ∉ S.1 ∧ gA ≠ mA ∧ gA ≠ z.1 ∧ mA ≠ z.1
theorem cAll_ext {S S' : CS} {D D' : CD} {z : Nat × Nat} {a0 n : Nat} {g : Nat → Sg} {root rd : Nat → Nat} {c : Nat} {lo ou : Nat → Nat} (h : cAll S D z a0 n g root rd c lo ou) (e1 : ∀ a ∈ S.1, a ∈ S'.1 ∧ S'.2.1 a = S.2.1 a) (er : S'.2.2.1 = S.2.2.1) (el : ∀ a, a ∈ S.1 ∨ a = z.1 → S'.2.2.2 a = S.2.2.2 a) (d1 : D'.1 = D.1) (d2 : D'.2.1 = D.2.1) (d4 : D'.2.2.2 = D.2.2.2) (d3 : ∀ a ∈ S.1, D'.2.2.1 a = D.2.2.1 a) : cAll S' D' z a0 n g root rd c lo ou := by
  obtain ⟨A, sg, w, h0, hz, hL, hl, hn, hV, hE, hd, h7, hs, hF⟩ := h
  have r1 : ∀ t, t ∈ lnR → t.1 < 124 ∧ t.1 ≠ 2 := by decide
  have m : ∀ i, i < 124 → i ≠ 2 → A i ∈ S.1 := fun i hi h2 => (hL.1 i hi h2).1
  have hL' : cLay S' A := ⟨fun i hi h2 => ⟨(e1 _ (m i hi h2)).1, (e1 _ (m i hi h2)).2.trans (hL.1 i hi h2).2⟩, hL.2.1, fun t ht => by rw [er]; exact hL.2.2.1 t ht, fun t ht => (el _ (Or.inl (m _ (r1 t ht).1 (r1 t ht).2))).trans (hL.2.2.2 t ht)⟩
  have l2 : S'.2.2.2 (A 2) = S.2.2.2 (A 2) := by
    rcases hz with ⟨h3, -⟩ | ⟨h3, -⟩
    · exact el _ (Or.inr h3)
    · exact el _ (Or.inl h3)
  have row : ∀ i, i < 124 → i ≠ 2 → D'.2.2.1 (A i) = D.2.2.1 (A i) := fun i hi h2 => d3 _ (m i hi h2)
  refine ⟨A, sg, w, h0, ?_, hL', ?_, hn, ?_, ?_, ?_, by rw [d1]; exact h7, ?_, hF⟩
  · rcases hz with h3 | ⟨h3, h4, h5⟩
    · exact Or.inl h3
    · exact Or.inr ⟨(e1 _ h3).1, (e1 _ h3).2.trans h4, by rw [l2]; exact h5⟩
  · obtain ⟨b1, ⟨b2, b3⟩, b4, b5, b6⟩ := hl
    refine ⟨by rw [d1]; exact b1, ⟨by rw [l2]; exact b2, fun hp => ⟨(e1 _ (b3 hp).1).1, (e1 _ (b3 hp).1).2.trans (b3 hp).2⟩⟩, by rw [l2]; exact b4, fun i hi => by rw [d4]; exact b5 i hi, fun i hi => ?_⟩
    obtain ⟨c1, c2, c3, c4⟩ := b6 i hi
    exact ⟨⟨(e1 _ c1.1).1, (e1 _ c1.1).2.trans c1.2⟩, by rw [d1]; exact c2, by rw [d2]; exact c3, by rw [d2]; exact c4⟩
  · obtain ⟨b1, b2, b3, b4⟩ := hV
    refine ⟨by rw [d1]; exact b1, fun i hi => by rw [d4]; exact b2 i hi, b3, fun i hi => ?_⟩
    obtain ⟨c1, c2⟩ := b4 i hi
    exact ⟨⟨(e1 _ c1.1).1, (e1 _ c1.1).2.trans c1.2⟩, by rw [d2]; exact c2⟩
  · exact ⟨by rw [d1]; exact hE.1, fun i hi => by rw [row 25 (by decide) (by decide), row 26 (by decide) (by decide), row 27 (by decide) (by decide)]; exact hE.2 i hi⟩
  · intro v hv; rw [row 16 (by decide) (by decide)]; exact hd v hv
  · obtain ⟨s1, s2, s3, s4, s5, s6⟩ := hs
    exact ⟨fun s hs' => by rw [row 29 (by decide) (by decide)]; exact s1 s hs', by rw [d1]; exact s2, by rw [row 32 (by decide) (by decide)]; exact s3, fun u hu ha hf => by rw [row 32 (by decide) (by decide)]; exact s4 u hu ha hf, fun x hx => by rw [row 33 (by decide) (by decide)]; exact s5 x hx, s6⟩
theorem cAll_gm {S : CS} {D : CD} {z : Nat × Nat} {a0 n : Nat} {g : Nat → Sg} {root rd : Nat → Nat} {c : Nat} {lo ou : Nat → Nat} {gA mA : Nat} (h : cAll S D z a0 n g root rd c lo ou) (ha : apGM S z gA mA) : cAll (sGM S gA mA) D z a0 n g root rd c lo ou := by
  obtain ⟨a1, a2, a3, a4, a5⟩ := ha
  have ng : ∀ a ∈ S.1, a ≠ gA ∧ a ≠ mA := fun a h => ⟨fun w => a1 (w ▸ h), fun w => a2 (w ▸ h)⟩
  refine cAll_ext h (fun a ha => ⟨List.mem_cons_of_mem _ (List.mem_cons_of_mem _ ha), ?_⟩) rfl (fun a ha => ?_) rfl rfl rfl (fun _ _ => rfl)
  · show (if a = gA ∨ a = mA then 8 else S.2.1 a) = _
    rw [if_neg (fun w => w.elim (ng a ha).1 (ng a ha).2)]
  · show (if a = gA then 52 else if a = mA then 1 else S.2.2.2 a) = _
    have : a ≠ gA ∧ a ≠ mA := by
      rcases ha with ha | ha
      · exact ng a ha
      · rw [ha]; exact ⟨fun w => a4 w.symm, fun w => a5 w.symm⟩
    rw [if_neg this.1, if_neg this.2]
theorem cAll_dgm {S : CS} {D : CD} {z : Nat × Nat} {a0 n : Nat} {g : Nat → Sg} {root rd : Nat → Nat} {c : Nat} {lo ou : Nat → Nat} {gA mA : Nat} (gf mf : Nat → Int32) (h : cAll S D z a0 n g root rd c lo ou) (ha : apGM S z gA mA) : cAll S (dGM D gA mA gf mf) z a0 n g root rd c lo ou := by
  obtain ⟨a1, a2, a3, a4, a5⟩ := ha
  refine cAll_ext h (fun a ha => ⟨ha, rfl⟩) rfl (fun _ _ => rfl) rfl rfl rfl (fun a ha => ?_)
  show (if a = gA then gf else if a = mA then mf else D.2.2.1 a) = _
  rw [if_neg (show ¬ a = gA from fun w => a1 (w ▸ ha)), if_neg (show ¬ a = mA from fun w => a2 (w ▸ ha))]
theorem cE_sg {G : cG} {S : CS} {D D2 : CD} {gA mA a : Nat} (h1 : a ≠ gA) (h2 : a ≠ mA) (d1 : D.1 a = D2.1 a) (d2 : D.2.1 a = D2.2.1 a) (d3 : D.2.2.1 a = D2.2.2.1 a) (d4 : D.2.2.2 a = D2.2.2.2 a) : cE G (sGM S gA mA) D a = cE G S D2 a := by
  have k : (sGM S gA mA).2.1 a = S.2.1 a := if_neg (fun w => w.elim h1 h2)
  have l : (sGM S gA mA).2.2.2 a = S.2.2.2 a := (if_neg h1).trans (if_neg h2)
  have r : (sGM S gA mA).2.2.1 = S.2.2.1 := rfl
  unfold cE cX0 cX1 cX2 cX4 cX5 cX6 cX7 cX3
  rw [k, l, r, d1, d2, d3, d4]
theorem cW_gm {G : cG} {S : CS} {D D2 : CD} {gA mA : Nat} (h1 : gA ∉ S.1) (h2 : mA ∉ S.1) (h3 : gA ≠ mA) (d1 : D.1 = D2.1) (d2 : D.2.1 = D2.2.1) (d3 : ∀ a ∈ S.1, D.2.2.1 a = D2.2.2.1 a) (d4 : D.2.2.2 = D2.2.2.2) : cW G (sGM S gA mA) D = rGM G gA mA (D.2.2.1 gA) (D.2.2.1 mA) ++ cW G S D2 := by
  have k1 : (sGM S gA mA).2.1 gA = 8 := if_pos (Or.inl rfl)
  have k2 : (sGM S gA mA).2.1 mA = 8 := if_pos (Or.inr rfl)
  have l1 : (sGM S gA mA).2.2.2 gA = 52 := if_pos rfl
  have l2 : (sGM S gA mA).2.2.2 mA = 1 := (if_neg (fun w => h3 w.symm)).trans (if_pos rfl)
  have c1 : cE G (sGM S gA mA) D gA = .inl (ccI G, 52, .inl (D.2.2.1 gA)) := by rw [cE_8 k1, l1]
  have c2 : cE G (sGM S gA mA) D mA = .inl (ccI G, 1, .inl (D.2.2.1 mA)) := by rw [cE_8 k2, l2]
  have e0 : cW G (sGM S gA mA) D = (gA, cE G (sGM S gA mA) D gA) :: (mA, cE G (sGM S gA mA) D mA) :: S.1.map (fun a => (a, cE G (sGM S gA mA) D a)) := rfl
  have e1 : S.1.map (fun a => (a, cE G (sGM S gA mA) D a)) = S.1.map (fun a => (a, cE G S D2 a)) := List.map_congr_left (fun a ha => by
    have n1 : a ≠ gA := fun w => h1 (w ▸ ha)
    have n2 : a ≠ mA := fun w => h2 (w ▸ ha)
    show (a, cE G (sGM S gA mA) D a) = (a, cE G S D2 a)
    rw [cE_sg (S := S) (D2 := D2) n1 n2 (by rw [d1]) (by rw [d2]) (d3 a ha) (by rw [d4])])
  rw [e0, c1, c2, e1]
  rfl
theorem cW_dgm {G : cG} {S : CS} {D : CD} {gA mA : Nat} (gf mf : Nat → Int32) (h1 : gA ∉ S.1) (h2 : mA ∉ S.1) (h3 : gA ≠ mA) : cW G (sGM S gA mA) (dGM D gA mA gf mf) = rGM G gA mA gf mf ++ cW G S D := by
  have h := cW_gm (G := G) (D := dGM D gA mA gf mf) (D2 := D) h1 h2 h3 rfl rfl (fun a ha => by
    show (if a = gA then gf else if a = mA then mf else D.2.2.1 a) = _
    rw [if_neg (show ¬ a = gA from fun w => h1 (w ▸ ha)), if_neg (show ¬ a = mA from fun w => h2 (w ▸ ha))]) rfl
  have e1 : (dGM D gA mA gf mf).2.2.1 gA = gf := if_pos rfl
  have e2 : (dGM D gA mA gf mf).2.2.1 mA = mf := (if_neg (fun w => h3 w.symm)).trans (if_pos rfl)
  rw [e1, e2] at h
  exact h
/-- what stands between two calls: the class's map and the law's own record of its segments -/
def lSt (S : CS) (D : CD) (z : Nat × Nat) (o gA mA n : Nat) (g : Nat → Sg) : Prop :=
  gOk n g ∧ n ≤ 12 ∧ (∃ (root rd : Nat → Nat) (c : Nat) (lo ou : Nat → Nat), cAll S D z o n g root rd c lo ou) ∧ apGM S z gA mA ∧ (∀ i, i < n → D.2.2.1 gA (4 * i) = zI (sX (g i)) ∧ D.2.2.1 gA (4 * i + 1) = zI (sY (g i)) ∧ D.2.2.1 gA (4 * i + 2) = zI (eX (g i)) ∧ D.2.2.1 gA (4 * i + 3) = zI (eY (g i))) ∧ D.2.2.1 mA 0 = nI n
