/-! What the statement gives of the start: the classes' numbers, the nest's links, ArrayList's empty row, the exceptions' words. -/
set_option maxRecDepth 100000 in
theorem st_NL : ∀ q ∈ cNL, Cond.fieldLinkNest q.1 q.2.1 q.2.2.1 q.2.2.2.1 q.2.2.2.2.1 q.2.2.2.2.2 ∈ lw_tbl := List.forall_mem_cons.mpr ⟨tb_1 _ (List.mem_of_getElem? (i := 143) rfl), List.forall_mem_cons.mpr ⟨tb_1 _ (List.mem_of_getElem? (i := 178) rfl), List.forall_mem_cons.mpr ⟨tb_1 _ (List.mem_of_getElem? (i := 205) rfl), List.forall_mem_cons.mpr ⟨tb_1 _ (List.mem_of_getElem? (i := 101) rfl), List.forall_mem_cons.mpr ⟨tb_1 _ (List.mem_of_getElem? (i := 104) rfl), List.forall_mem_cons.mpr ⟨tb_1 _ (List.mem_of_getElem? (i := 107) rfl), List.forall_mem_cons.mpr ⟨tb_1 _ (List.mem_of_getElem? (i := 111) rfl), List.forall_mem_cons.mpr ⟨tb_1 _ (List.mem_of_getElem? (i := 135) rfl), List.forall_mem_cons.mpr ⟨tb_1 _ (List.mem_of_getElem? (i := 168) rfl), List.forall_mem_cons.mpr ⟨tb_1 _ (List.mem_of_getElem? (i := 170) rfl), List.forall_mem_cons.mpr ⟨tb_1 _ (List.mem_of_getElem? (i := 172) rfl), List.forall_mem_cons.mpr ⟨tb_1 _ (List.mem_of_getElem? (i := 176) rfl), List.forall_mem_cons.mpr ⟨tb_1 _ (List.mem_of_getElem? (i := 203) rfl), List.forall_mem_cons.mpr ⟨tb_1 _ (List.mem_of_getElem? (i := 201) rfl), List.forall_mem_cons.mpr ⟨tb_1 _ (List.mem_of_getElem? (i := 65) rfl), List.forall_mem_cons.mpr ⟨tb_1 _ (List.mem_of_getElem? (i := 67) rfl), List.forall_mem_cons.mpr ⟨tb_1 _ (List.mem_of_getElem? (i := 69) rfl), List.forall_mem_cons.mpr ⟨tb_1 _ (List.mem_of_getElem? (i := 71) rfl), List.forall_mem_cons.mpr ⟨tb_1 _ (List.mem_of_getElem? (i := 137) rfl), List.forall_mem_cons.mpr ⟨tb_1 _ (List.mem_of_getElem? (i := 174) rfl), List.forall_mem_cons.mpr ⟨tb_1 _ (List.mem_of_getElem? (i := 139) rfl), List.forall_mem_cons.mpr ⟨tb_1 _ (List.mem_of_getElem? (i := 141) rfl), List.forall_mem_cons.mpr ⟨tb_1 _ (List.mem_of_getElem? (i := 105) rfl), List.forall_mem_cons.mpr ⟨tb_1 _ (List.mem_of_getElem? (i := 102) rfl), List.forall_mem_cons.mpr ⟨tb_1 _ (List.mem_of_getElem? (i := 110) rfl), List.forall_mem_cons.mpr ⟨tb_1 _ (List.mem_of_getElem? (i := 108) rfl), fun _ h => absurd h List.not_mem_nil⟩⟩⟩⟩⟩⟩⟩⟩⟩⟩⟩⟩⟩⟩⟩⟩⟩⟩⟩⟩⟩⟩⟩⟩⟩⟩
section START
variable {args : Array Value} {s : State} (hts : ∀ w ∈ lw_tbl, w.before args s = true)
theorem st_C (hts : ∀ w ∈ lw_tbl, w.before args s = true) : ∃ D0 : va_G, ∀ (k : Nat) (q : vw_C), vwCl[k]? = some q → u_Kn s q.1 q.2.1 q.2.2 (D0.1 k) (D0.2 k) := by
  obtain ⟨c0, i0, h0⟩ := u_known (C := RJx4a65c) (T := TJx4a65c) (N := 3) (n := 3) hts tu_Jx4a65c (hts (.instantiable RJx4a65c 3) (tb_1 _ (List.mem_of_getElem? (i := 33) rfl)))
  obtain ⟨c1, i1, h1⟩ := u_known (C := RX0) (T := TX0) (N := 6) (n := 6) hts tu_X0 (hts (.instantiable RX0 6) (tb_1 _ (List.mem_of_getElem? (i := 160) rfl)))
  obtain ⟨c2, i2, h2⟩ := u_known (C := RX1) (T := TX1) (N := 3) (n := 3) hts tu_X1 (hts (.instantiable RX1 3) (tb_1 _ (List.mem_of_getElem? (i := 193) rfl)))
  obtain ⟨c3, i3, h3⟩ := u_known (C := RX2) (T := TX2) (N := 4) (n := 4) hts tu_X2 (hts (.instantiable RX2 4) (tb_1 _ (List.mem_of_getElem? (i := 95) rfl)))
  obtain ⟨c4, i4, h4⟩ := u_known (C := RX3) (T := TX3) (N := 1) (n := 1) hts tu_X3 (hts (.instantiable RX3 1) (tb_1 _ (List.mem_of_getElem? (i := 122) rfl)))
  obtain ⟨c5, i5, h5⟩ := u_known (C := RX4) (T := TX4) (N := 6) (n := 6) hts tu_X4 (hts (.instantiable RX4 6) (tb_1 _ (List.mem_of_getElem? (i := 59) rfl)))
  obtain ⟨c6, i6, h6⟩ := u_known (C := RX5) (T := TX5) (N := 7) (n := 7) hts tu_X5 (hts (.instantiable RX5 7) (tb_1 _ (List.mem_of_getElem? (i := 88) rfl)))
  obtain ⟨c7, i7, h7⟩ := u_known (C := RX6) (T := TX6) (N := 8) (n := 8) hts tu_X6 (hts (.instantiable RX6 8) (tb_1 _ (List.mem_of_getElem? (i := 25) rfl)))
  refine ⟨(fun k => if k = 0 then c0 else if k = 1 then c1 else if k = 2 then c2 else if k = 3 then c3 else if k = 4 then c4 else if k = 5 then c5 else if k = 6 then c6 else c7, fun k => if k = 0 then i0 else if k = 1 then i1 else if k = 2 then i2 else if k = 3 then i3 else if k = 4 then i4 else if k = 5 then i5 else if k = 6 then i6 else i7), ?_⟩
  intro k q hq
  match k, hq with
  | 0, hq => cases hq; exact h0
  | 1, hq => cases hq; exact h1
  | 2, hq => cases hq; exact h2
  | 3, hq => cases hq; exact h3
  | 4, hq => cases hq; exact h4
  | 5, hq => cases hq; exact h5
  | 6, hq => cases hq; exact h6
  | 7, hq => cases hq; exact h7
  | k + 8, hq => simp [vwCl] at hq
theorem st_arr {ty : FieldType} (hty : ty = .int ∨ ty = .long ∨ ty = .boolean) (h : (Cond.arrayClass ty).before args s = true) : ∃ c : ClassId, ArrOfT s c ty ∧ va_RA s c ty := by
  obtain ⟨c, k, comp, h1, h2, h3⟩ := Cond.arrayClass_spec h
  refine ⟨c, fun n z => ⟨(fun k h => by cases h), k, h2, comp, h3⟩, ?_⟩
  rcases hty with rfl | rfl | rfl <;> exact h1
theorem st_arq {C : String} (h : (Cond.arrayOver (.object C)).before args s = true) : ∃ c : ClassId, ArrOfT s c (.object C) ∧ va_RA s c (.object C) := by
  obtain ⟨comp, c, k, h1, -, h2, h3, h4⟩ := Cond.arrayOver_spec h
  exact ⟨c, fun n z => ⟨(fun k h => by cases h), k, h2, comp, h3⟩, k, comp, h2, h3, h1, h4⟩
theorem st_K (hts : ∀ w ∈ lw_tbl, w.before args s = true) : ∃ (D0 : va_G) (cI cP cO : ClassId), va_K D0 vwCl [(cI, .int), (cP, .object "SegmentMap$Point"), (cO, .object "java/lang/Object")] s := by
  obtain ⟨D0, h0⟩ := st_C hts
  obtain ⟨cI, a1, b1⟩ := st_arr (ty := .int) (Or.inl rfl) (hts _ (tb_1 _ (List.mem_of_getElem? (i := 131) rfl)))
  obtain ⟨cP, a4, b4⟩ := st_arq (C := "SegmentMap$Point") (hts _ (tb_1 _ (List.mem_of_getElem? (i := 94) rfl)))
  obtain ⟨cO, a5, b5⟩ := st_arq (C := "java/lang/Object") (hts _ (tb_4 _ (List.mem_of_getElem? (i := 121) rfl)))
  refine ⟨D0, cI, cP, cO, h0, fun k q hq => ?_⟩
  match k, hq with
  | 0, hq => cases hq; exact ⟨a1, b1⟩
  | 1, hq => cases hq; exact ⟨a4, b4⟩
  | 2, hq => cases hq; exact ⟨a5, b5⟩
  | k + 3, hq => simp at hq
theorem st_N (hts : ∀ w ∈ lw_tbl, w.before args s = true) : cN s := fun q hq => va_Nw.of rfl (hts _ (st_NL q hq))
theorem st_Z (hts : ∀ w ∈ lw_tbl, w.before args s = true) (hgv : (Jvm.Cond.and given_1 narrow_1).before args s = true) : ∃ z : Nat × Nat, zP z (fun q => s.heap.size ≤ q) s s.heap := by
  have hs := flat_of_before _ hgv
  have hA : ∀ a : Nat, a < s.heap.size → ¬ (fun q : Nat => s.heap.size ≤ q) a := fun a h => Nat.not_le.mpr h
  have g1 : (Cond.arrayOf (Term.static "java/util/ArrayList" "DEFAULTCAPACITY_EMPTY_ELEMENTDATA" "[Ljava/lang/Object;") (.object "java/lang/Object")).before args s = true := hs _ (by decide +kernel)
  have g2 : (Cond.eq (Term.length (Term.static "java/util/ArrayList" "DEFAULTCAPACITY_EMPTY_ELEMENTDATA" "[Ljava/lang/Object;")) (Term.int 0)).before args s = true := hs _ (by decide +kernel)
  have g3 : (Cond.isRef (Term.mirror "[Ljava/lang/Object;")).before args s = true := hs _ (by decide +kernel)
  obtain ⟨t, t1, t2⟩ := va_Tof (N := 0) (f := fun _ => .null) (by decide) g1 (va_eqt g2) (fun j hj => absurd hj (Nat.not_lt_zero _)) hA
  obtain ⟨mi, m1⟩ := va_Mi.of g3
  exact ⟨(t, mi), va_Zref (hts _ (tb_1 _ (List.mem_of_getElem? (i := 45) rfl))) (hts _ (tb_1 _ (List.mem_of_getElem? (i := 4) rfl))) t1 hA, t2, va_Nw.of rfl (hts _ (tb_4 _ (List.mem_of_getElem? (i := 137) rfl))), va_AO.of (hts _ (tb_4 _ (List.mem_of_getElem? (i := 121) rfl))), va_AO.of (hts _ (tb_1 _ (List.mem_of_getElem? (i := 94) rfl))), m1, va_Dc.of (hts _ (tb_4 _ (List.mem_of_getElem? (i := 149) rfl))), va_Nw.of rfl (hts _ (tb_1 _ (List.mem_of_getElem? (i := 96) rfl))), va_Nw.of rfl (hts _ (tb_1 _ (List.mem_of_getElem? (i := 216) rfl)))⟩
theorem st_S {own : String} {k : Nat} {tx : String} (h1 : (Cond.stringRef own k tx).before args s = true) (h2 : (Cond.exactly (Term.string own k) "java/lang/String").before args s = true) : ∃ a : Nat, vk_R own k tx a s := by
  obtain ⟨a, _, _, _, h3, -⟩ := Cond.exactly_spec h2
  exact ⟨a, vk_R.of h1 h3⟩
theorem st_X (hts : ∀ w ∈ lw_tbl, w.before args s = true) (hgv : (Jvm.Cond.and given_1 narrow_1).before args s = true) : xP (fun q => s.heap.size ≤ q) s s.heap := by
  have hs := flat_of_before _ hgv
  have hA : ∀ a : Nat, a < s.heap.size → ¬ (fun q : Nat => s.heap.size ≤ q) a := fun a h => Nat.not_le.mpr h
  have g1 : (Cond.isRef (.static "java/lang/Throwable" "UNASSIGNED_STACK" "[Ljava/lang/StackTraceElement;")).before args s = true := hs _ (by decide +kernel)
  have g2 : (Cond.isRef (.static "java/lang/Throwable" "SUPPRESSED_SENTINEL" "Ljava/util/List;")).before args s = true := hs _ (by decide +kernel)
  refine ⟨vx_Zqof (hts _ (tb_3 _ (List.mem_of_getElem? (i := 46) rfl))) (hts _ (tb_1 _ (List.mem_of_getElem? (i := 15) rfl))) g1 hA, vx_Zqof (hts _ (tb_3 _ (List.mem_of_getElem? (i := 48) rfl))) (hts _ (tb_1 _ (List.mem_of_getElem? (i := 15) rfl))) g2 hA, ?_, ?_, ?_⟩
  · exact List.forall_mem_cons.mpr ⟨va_Nw.of rfl (hts _ (tb_3 _ (List.mem_of_getElem? (i := 207) rfl))), List.forall_mem_cons.mpr ⟨va_Nw.of rfl (hts _ (tb_4 _ (List.mem_of_getElem? (i := 52) rfl))), List.forall_mem_cons.mpr ⟨va_Nw.of rfl (hts _ (tb_3 _ (List.mem_of_getElem? (i := 21) rfl))), fun _ h => absurd h List.not_mem_nil⟩⟩⟩
  · exact List.forall_mem_cons.mpr ⟨va_Nw.of rfl (hts _ (tb_3 _ (List.mem_of_getElem? (i := 23) rfl))), List.forall_mem_cons.mpr ⟨va_Nw.of rfl (hts _ (tb_3 _ (List.mem_of_getElem? (i := 25) rfl))), List.forall_mem_cons.mpr ⟨va_Nw.of rfl (hts _ (tb_3 _ (List.mem_of_getElem? (i := 27) rfl))), fun _ h => absurd h List.not_mem_nil⟩⟩⟩
  · exact List.forall_mem_cons.mpr ⟨st_S (hts _ (tb_4 _ (List.mem_of_getElem? (i := 49) rfl))) (hs _ (by decide +kernel)), List.forall_mem_cons.mpr ⟨st_S (hts _ (tb_4 _ (List.mem_of_getElem? (i := 59) rfl))) (hs _ (by decide +kernel)), List.forall_mem_cons.mpr ⟨st_S (hts _ (tb_4 _ (List.mem_of_getElem? (i := 74) rfl))) (hs _ (by decide +kernel)), List.forall_mem_cons.mpr ⟨st_S (hts _ (tb_4 _ (List.mem_of_getElem? (i := 14) rfl))) (hs _ (by decide +kernel)), List.forall_mem_cons.mpr ⟨st_S (hts _ (tb_3 _ (List.mem_of_getElem? (i := 214) rfl))) (hs _ (by decide +kernel)), List.forall_mem_cons.mpr ⟨st_S (hts _ (tb_3 _ (List.mem_of_getElem? (i := 60) rfl))) (hs _ (by decide +kernel)), List.forall_mem_cons.mpr ⟨st_S (hts _ (tb_3 _ (List.mem_of_getElem? (i := 106) rfl))) (hs _ (by decide +kernel)), List.forall_mem_cons.mpr ⟨st_S (hts _ (tb_3 _ (List.mem_of_getElem? (i := 131) rfl))) (hs _ (by decide +kernel)), List.forall_mem_cons.mpr ⟨st_S (hts _ (tb_3 _ (List.mem_of_getElem? (i := 156) rfl))) (hs _ (by decide +kernel)), fun _ h => absurd h List.not_mem_nil⟩⟩⟩⟩⟩⟩⟩⟩⟩
theorem st_W (hgv : (Jvm.Cond.and given_1 narrow_1).before args s = true) : wNc s := by
  have hs := flat_of_before _ hgv
  exact ⟨va_Nc.of (hs (Cond.not (Cond.castable "java/lang/IllegalStateException" "java/lang/IllegalArgumentException")) (by decide +kernel)), va_Nc.of (hs (Cond.not (Cond.castable "java/lang/IndexOutOfBoundsException" "java/lang/IllegalArgumentException")) (by decide +kernel))⟩
end START
