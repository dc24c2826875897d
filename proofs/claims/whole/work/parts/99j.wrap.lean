/-! The law's wrappers: static methods that call one method of the class, put its answer into a row of one long and answer 0, or answer 1 or 2 where it throws. -/
def oW (o : Nat) (cJ : ClassId) (f : Nat → Int64) : va_W := [(o, .inl (cJ, 1, .inr (.inl f)))]
def wPre0 (G : cG) (S : CS) (D : CD) (z : Nat × Nat) (sz : Nat) (U : State) : Prop := (U.heap.size = sz ∧ va_P G.1 vwCl (cW G S D) U.heap ∧ va_K G.1 vwCl (cTy G) U ∧ va_D (fun _ => True) (cW G S D) ∧ cN U) ∧ zP z (cA G S sz) U U.heap ∧ xP (cA G S sz) U U.heap
def wNc (U : State) : Prop := va_Nc "java/lang/IllegalStateException" "java/lang/IllegalArgumentException" U ∧ va_Nc "java/lang/IndexOutOfBoundsException" "java/lang/IllegalArgumentException" U
def wPre (G : cG) (S : CS) (D : CD) (z : Nat × Nat) (o : Nat) (cJ : ClassId) (f : Nat → Int64) (sz : Nat) (U : State) : Prop := wPre0 G S D z sz U ∧ va_P G.1 vwCl (oW o cJ f) U.heap ∧ va_K G.1 vwCl [(cJ, .long)] U ∧ o ∉ S.1 ∧ wNc U
theorem wPre0.to {G : cG} {S : CS} {D : CD} {z : Nat × Nat} {sz : Nat} {s U : State} (h : wPre0 G S D z sz s) (hU : U.heap = s.heap) (hW : s.WarmedH U.vm) : wPre0 G S D z sz U := by
  obtain ⟨⟨h1, h2, h3, h4, h5⟩, h6, h7⟩ := h
  refine ⟨⟨by rw [hU]; exact h1, by rw [hU]; exact h2, va_K.moved hW.alike h3, h4, fun q hq => (h5 q hq).warmF hW⟩, ?_, ?_⟩
  · rw [hU]; exact h6.next hW (fun _ h => h) (fun _ _ _ => rfl)
  · rw [hU]; exact h7.next hW (fun _ h => h) (fun _ _ _ => rfl)
theorem wBlind {G : cG} {S : CS} {D : CD} {z : Nat × Nat} {o : Nat} {cJ : ClassId} {f : Nat → Int64} {sz : Nat} {av : List Value} : FrameBlind (va_Pc av (wPre G S D z o cJ f sz)) := fun a U g mk q => by
  obtain ⟨q0, ⟨q1, q2, q3⟩, q4, q5, q6, q7, q8⟩ := q
  exact ⟨q0, ⟨(cBlind a U g mk ⟨q0, q1⟩).2, q2.blind, q3.blind⟩, q4, va_K.moved (u := U) (U := U.calling g mk a) (Vm.Alike.refl U.vm) q5, q6, va_Nc.moved (u := U) (U := U.calling g mk a) (Vm.Alike.refl U.vm) q7, va_Nc.moved (u := U) (U := U.calling g mk a) (Vm.Alike.refl U.vm) q8⟩
def wA (G : cG) (S : CS) (o sz : Nat) (q : Nat) : Prop := cA G S sz q ∨ q = o
/-- a method of the class that answers an int: it leaves the pool fS u, fD u -/
def wCal (l : Launch) (y : MethodName) (ws : List Cond) (rm : Room) (G : cG) (S : CS) (D : CD) (z : Nat × Nat) (av : List Value) (mc ms : Nat) {Su : Type} (post : Nat → Int32 → Su → Prop) (fS : Su → CS) (fD : Su → CD) : Prop :=
  ∀ sz : Nat, ∃ Pc : Array Value → State → Prop, FrameBlind Pc ∧ (∀ U : State, wPre0 G S D z sz U → Pc av.toArray U) ∧ Met l y ws rm Pc (va_Qi (post sz) (fun u t => cIs G (fS u) (fD u) t) (cA G S sz)) mc ms (cA G S sz)
theorem wCal.ofI {l : Launch} {y : MethodName} {ws : List Cond} {rm : Room} {G : cG} {S : CS} {D D2 : CD} {z : Nat × Nat} {av : List Value} {r : Int32} (h : cMI l y ws rm G S av D D2 r) : wCal l y ws rm G S D z av 0 0 (fun _ x (_ : Unit) => x = r) (fun _ => S) (fun _ => D2) :=
  fun sz => ⟨cPc G sz S D av, cBlind, fun _ hU => ⟨rfl, hU.1⟩, h sz⟩
theorem wCal.ofK {l : Launch} {y : MethodName} {ws : List Cond} {rm : Room} {G : cG} {S : CS} {D : CD} {z : Nat × Nat} {av : List Value} {mc ms : Nat} {r : Int32} {Rl : Nat → CS → CD → Prop} (h : cMKi l y ws rm G S z av D mc ms r Rl) : wCal l y ws rm G S D z av mc ms (fun sz r1 (u : CS × CD) => r1 = r ∧ Rl sz u.1 u.2 ∧ cGr G S u.1 sz) (fun u => u.1) (fun u => u.2) :=
  fun sz => ⟨cPz G sz S D z av, zBlind, fun _ hU => ⟨rfl, hU.1, hU.2.1⟩, h sz⟩
/-- the same that throws E -/
def wThr (l : Launch) (y : MethodName) (ws : List Cond) (rm : Room) (G : cG) (S : CS) (D D2 : CD) (av : List Value) (mc ms : Nat) (E : String) : Prop := ∀ sz : Nat, vx_Met l y ws rm (cPx G sz S D av) xQI (xX G S D2 E sz) mc ms (cA G S sz)
def wRm : Room := { frames := 10, cells := 2, slots := 21, locals := 400 }
def wQ (G : cG) (S : CS) (o : Nat) (cJ : ClassId) (k : Int32) (P : Nat → CS → CD → Int64 → Prop) (sz : Nat) : Array Value → State → Outcome → State → Prop := va_Qi (fun r (u : CS × CD × (Nat → Int64)) => r = k ∧ P sz u.1 u.2.1 (u.2.2 0)) (fun u t => cIs G u.1 u.2.1 t ∧ va_P G.1 vwCl (oW o cJ u.2.2) t.heap) (wA G S o sz)
def wX : String → State → State → Prop := vx_X (fun (_ : Unit) => False) (fun _ _ _ => True) (fun _ => False)
/-- a wrapper: it answers k, and P stands of the pool and the row's long -/
def wCon (l : Launch) (y : MethodName) (ws : List Cond) (G : cG) (S : CS) (D : CD) (z : Nat × Nat) (o : Nat) (cJ : ClassId) (f : Nat → Int64) (av : List Value) (k : Int32) (P : Nat → CS → CD → Int64 → Prop) : Prop :=
  ∀ sz : Nat, vx_Met l y ws wRm (va_Pc av (wPre G S D z o cJ f sz)) (wQ G S o cJ k P sz) wX 2 21 (wA G S o sz)
theorem wBody {l : Launch} {y : MethodName} {ws ws' : List Cond} {cc : ByteArray} {maxL : Nat} {hh : List (Nat × Nat × Nat × Nat)} {G : cG} {S : CS} {D : CD} {z : Nat × Nat} {o : Nat} {cJ : ClassId} {f : Nat → Int64} {av : List Value} {k : Int32} {P : Nat → CS → CD → Int64 → Prop} (hy : plainName y.cls = true) (hR : y.cls = RL) (hw : ws = Cond.codeWith y cc maxL (some .int) hh :: ws')
    (body : ∀ (sz : Nat) (p : Program) (e : Env) (s : State) (m : MethodId) (below : List Frame) (meth : Method) (c : Code), cC RL p s m av.toArray meth c ws cc maxL (some .int) G S sz → c.exceptionTable.toList = tableOf hh → wPre G S D z o cJ f sz s → W p l e (headSpec ws wRm).room s m av.toArray below meth c s.heap [] 0 0 (vx_MQ below (wQ G S o cJ k P sz) wX av.toArray s 2 21 (wA G S o sz)) (entryFrame m av.toArray maxL)) :
    wCon l y ws G S D z o cJ f av k P := by
  intro sz
  refine vx_ofWH (cc := cc) (maxL := maxL) (ret := some .int) (hh := hh) hy hw ?_
  intro p e s m args below meth c s₁ B hml hv
  obtain ⟨rfl, hv⟩ := hv
  have hv0 := hv
  obtain ⟨⟨⟨hsz, hP, hK, hD0, hN⟩, -⟩, -⟩ := hv
  have hown : s.vm.findClass RL = some m.cls := by rw [← hR]; exact findClass_of_methodNamed B.named
  have hts := atoms_spec (ws := ws) B.pre
  refine body sz p e s m below meth c ⟨B.exec, B.bytes, B.returns, hts, hown, B.notSynchronized, hml, hK, fun D2 => ?_, hsz, hN⟩ (vx_table (x := y) B (hts _ (by rw [hw]; exact List.mem_cons_self))) hv0
  rw [← cA_eq G S D2]
  exact (cD_any D2 hD0).self
theorem va_P.l {D : va_G} {cl : List vw_C} {w1 w2 : va_W} {H : Heap} (h : va_P D cl (w1 ++ w2) H) : va_P D cl w1 H := fun k q hq => h k q (by rw [List.getElem?_append_left (List.getElem?_eq_some_iff.mp hq).1]; exact hq)
theorem va_P.r {D : va_G} {cl : List vw_C} {w1 w2 : va_W} {H : Heap} (h : va_P D cl (w1 ++ w2) H) : va_P D cl w2 H := fun k q hq => h (w1.length + k) q (by rw [List.getElem?_append_right (Nat.le_add_right _ _), Nat.add_sub_cancel_left]; exact hq)
theorem va_D.one {A : Nat → Prop} {o : Nat} {e : va_E} (h : A o) : va_D A [(o, e)] := by
  refine ⟨fun i j p q h1 h2 _ => ?_, fun i q h1 => ?_⟩
  · have h3 : i < 1 := (List.getElem?_eq_some_iff.mp h1).1
    have h4 : j < 1 := (List.getElem?_eq_some_iff.mp h2).1
    omega
  · have h3 : i < 1 := (List.getElem?_eq_some_iff.mp h1).1
    rw [Nat.lt_one_iff.mp h3] at h1
    cases h1
    exact h
theorem va_D.app2 {A : Nat → Prop} {w1 w2 : va_W} (h1 : va_D A w1) (h2 : va_D A w2) (hd : ∀ (i j : Nat) (p q : Nat × va_E), w1[i]? = some p → w2[j]? = some q → p.1 ≠ q.1) : va_D A (w1 ++ w2) := by
  refine ⟨fun i j p q hp hq e => ?_, fun k q hq => ?_⟩
  · by_cases hi : i < w1.length
    · rw [List.getElem?_append_left hi] at hp
      by_cases hj : j < w1.length
      · rw [List.getElem?_append_left hj] at hq
        exact h1.1 i j p q hp hq e
      · rw [List.getElem?_append_right (Nat.not_lt.mp hj)] at hq
        exact absurd e (hd _ _ _ _ hp hq)
    · rw [List.getElem?_append_right (Nat.not_lt.mp hi)] at hp
      by_cases hj : j < w1.length
      · rw [List.getElem?_append_left hj] at hq
        exact absurd e.symm (hd _ _ _ _ hq hp)
      · rw [List.getElem?_append_right (Nat.not_lt.mp hj)] at hq
        have := h2.1 _ _ p q hp hq e
        omega
  · by_cases hk : k < w1.length
    · rw [List.getElem?_append_left hk] at hq
      exact h1.2 k q hq
    · rw [List.getElem?_append_right (Nat.not_lt.mp hk)] at hq
      exact h2.2 _ q hq
theorem cW_mem {G : cG} {S : CS} {D : CD} {k : Nat} {x : Nat × va_E} (h : (cW G S D)[k]? = some x) : x.1 ∈ S.1 := by
  obtain ⟨e', h'⟩ := cfst (D2 := cD0) (q := x.1) (e := x.2) h
  rcases cA_mem.mp (show cA G S (x.1 + 1) x.1 from Or.inl ⟨k, e', h'⟩) with h1 | h1
  · exact h1
  · exact absurd h1 (Nat.not_succ_le_self _)
theorem vp_in01 : vp_in (0 : Int32) 1 := by
  unfold vp_in
  decide
section WROWS
variable {p : Program} {l : Launch} {e : Env} {R : Room} {s : State} {m : MethodId} {args : Array Value} {below : List Frame} {meth : Method} {c : Code} {H : Heap} {locs : List Loc} {Q : State → Prop}
variable {pc : Nat} {ls : Array Slot} {rest st0 : List Value} {ws ws' Ts : List Cond} {cc bytes : ByteArray} {maxL nL index n sz mc ms ce sl : Nat} {ret : Option FieldType} {G : cG} {S S2 : CS} {D D2 : CD} {y : MethodName} {rm : Room} {As av : List Value} {E : String} {z : Nat × Nat} {o a : Nat} {cJ : ClassId} {f f2 : Nat → Int64} {k : Int32} {P : Nat → CS → CD → Int64 → Prop}
theorem wRet (hC : cC RL p s m args meth c Ts cc nL (some .int) G S sz) (hK : va_K G.1 vwCl (cTy G) s) (hP : va_P G.1 vwCl (cW G S2 D2) H) (hO : va_P G.1 vwCl (oW o cJ f2) H) (hS : va_S (wA G S o sz) s.heap H locs) (hPost : P sz S2 D2 (f2 0)) (hce : ce ≤ 2) (hsl : sl ≤ 21) (hdg : decode cc pc = .ok (.ireturn, 1)) : W p l e R s m args below meth c H locs ce sl (vx_MQ below (wQ G S o cJ k P sz) wX args s 2 21 (wA G S o sz)) (F0 m pc ls [.int k]) := by
  obtain ⟨hx, hb, hr, hts, hown, hlocks, hml, -, hD, hsz, hN⟩ := hC
  refine vx_ret (W.widen hce hsl ?_)
  exact W.iret (v := k) hx hb hr (fun t ht hW => ⟨⟨k, (S2, D2, f2), rfl, ⟨rfl, hPost⟩, ⟨by rw [ht]; exact hP, va_K.moved hW.alike hK⟩, by rw [ht]; exact hO⟩, hS.F ht⟩) hS.2.2 hdg hlocks
/-- the row of one long: where it lies nothing else is written -/
theorem oW_keep {H H1 : Heap} (hO : va_P G.1 vwCl (oW o cJ f) H) (hk : ∀ q : Nat, q < H.size → ¬ cA G S H.size q → H1[q]? = H[q]?) (hn : o ∉ S.1) : va_P G.1 vwCl (oW o cJ f) H1 := by
  refine hO.kept (fun i x hx => ?_)
  have hl := (hO i x hx).lt
  refine hk x.1 hl (fun h => ?_)
  have h0 : x.1 = o := by
    have hz : i < 1 := (List.getElem?_eq_some_iff.mp hx).1
    rw [show i = 0 by omega] at hx; cases hx; rfl
  rcases cA_mem.mp h with h | h
  · rw [h0] at h; exact hn h
  · omega
theorem wCallN {Su : Type} {post : Nat → Int32 → Su → Prop} {fS : Su → CS} {fD : Su → CD} (hC : cC RL p s m args meth c Ts cc nL (some .int) G S sz) (hv : wPre G S D z o cJ f sz s) (hm : a ∈ S.1) (hk : S.2.1 a = 6) (hM : wCal l y ws rm G S D z (.ref a :: As) mc ms post fS fD) {ret' : Option FieldType} (cw : CallW R s args RL RX6 index y bytes maxL ret' ws rm mc ms n) (hn : As.length = n) (hsize : ls.size = nL) (hst : st0 = As.reverse ++ .ref a :: rest) (hr8 : (rest.map fun v => v.category).sum ≤ 8) (hR : 0 + mc ≤ R.cells ∧ 0 + ms ≤ R.slots) (hdg : decode cc pc = .ok (.invokevirtual index, 3))
    (kk : ∀ (r : Int32) (u : Su) (H1 : Heap) (locs1 : List Loc), post sz r u → va_P G.1 vwCl (cW G (fS u) (fD u)) H1 → va_P G.1 vwCl (oW o cJ f) H1 → va_S (wA G S o sz) s.heap H1 locs1 → W p l e R s m args below meth c H1 locs1 (0 + mc) (0 + ms) Q (F0 m (pc + 3) ls (.int r :: rest))) : W p l e R s m args below meth c s.heap [] 0 0 Q (F0 m pc ls st0) := by
  obtain ⟨hv0, hO, hKo, hno, -⟩ := hv
  have hsz : s.heap.size = sz := hv0.1.1
  obtain ⟨Pc, hbl, hpre, hMe⟩ := hM sz
  have hS0 : va_S (cA G S sz) s.heap s.heap [] := va_S.rf
  refine va_calli (va_runV (As := As) (rest := rest) (g := F0 m pc ls st0) (c_fix hC) hMe cw ⟨hbl, c_rec hC hv0.1.2.1 hm (cE_6 hk) rfl, fun U hU hW => hpre U (hv0.to hU hW)⟩ rfl hn hsize hst (lv_room hr8) hdg hR) hS0 (fun q _ h => h) (fun q h => h) (fun r u t H1 locs1 ht hvm hw hB hz1 hk1 hS1 => ?_)
  refine kk r u H1 locs1 hw (by rw [← ht]; exact hB.1) (oW_keep (S := S) hO (by rw [hsz]; rw [hsz] at hk1; exact hk1) hno) (hS1.mono (fun q h => Or.inl h))
theorem wCallT (hC : cC RL p s m args meth c Ts cc nL (some .int) G S sz) (hv : wPre G S D z o cJ f sz s) (hm : a ∈ S.1) (hk : S.2.1 a = 6) (hM : wThr l y ws rm G S D D2 (.ref a :: As) mc ms E) {ret' : Option FieldType} (cw : CallW R s args RL RX6 index y bytes maxL ret' ws rm mc ms n) (hn : As.length = n) (hsize : ls.size = nL) (hst : st0 = As.reverse ++ .ref a :: rest) (hr8 : (rest.map fun v => v.category).sum ≤ 8) (hR : 0 + mc ≤ R.cells ∧ 0 + ms ≤ R.slots) (hdg : decode cc pc = .ok (.invokevirtual index, 3))
    (kx : ∀ (ce : Cell) (q9 : Addr) (H1 : Heap) (locs1 : List Loc), va_P G.1 vwCl (cW G S D2) H1 → va_P G.1 vwCl (oW o cJ f) H1 → va_S (wA G S o sz) s.heap H1 locs1 → H1[q9]? = some ce → ce.vm = .none → s.vm.findClass E = some ce.cls → vx_W p l e R s m args below meth c H1 locs1 (0 + mc) (0 + ms) Q (F0 m pc ls rest) q9) : W p l e R s m args below meth c s.heap [] 0 0 Q (F0 m pc ls st0) := by
  obtain ⟨hv0, hO, hKo, hno, -⟩ := hv
  have hsz : s.heap.size = sz := hv0.1.1
  have hS0 : va_S (cA G S sz) s.heap s.heap [] := va_S.rf
  refine vx_calli (vx_runV (As := As) (rest := rest) (g := F0 m pc ls st0) (c_fix hC) (hM sz) cw ⟨xBlind, c_rec hC hv0.1.2.1 hm (cE_6 hk) rfl, fun U hU hW => ⟨rfl, (hv0.to hU hW).1, (hv0.to hU hW).2.2⟩⟩ rfl hn hsize hst (lv_room hr8) hdg hR) hS0 (fun q _ h => h.elim) (fun q h => h) (fun q _ h => h) (fun E1 ce q9 u t H1 locs1 ht hvm hpx hB hz1 hk1 hS1 h1 h2 h3 => ?_) (fun r u t H1 locs1 ht hvm hw hB hz1 hk1 hS1 => hw.elim)
  obtain ⟨rfl, hB⟩ := hB
  exact kx ce q9 H1 locs1 (by rw [← ht]; exact hB.1) (oW_keep (S := S) hO (by rw [hsz]; rw [hsz] at hk1; exact hk1) hno) (hS1.mono (fun q h => Or.inl h)) h1 h2 h3
/-- the answer put into the row -/
theorem wPut (hC : cC RL p s m args meth c Ts cc nL (some .int) G S sz) (hv : wPre G S D z o cJ f sz s) (hP : va_P G.1 vwCl (cW G S2 D2) H) (hO : va_P G.1 vwCl (oW o cJ f) H) (hS : va_S (wA G S o sz) s.heap H locs) (hgr : ∀ q ∈ S2.1, q ∈ S.1 ∨ sz ≤ q) (hD2 : va_D (fun _ => True) (cW G S2 D2)) {x : Int64} (hdg : decode cc pc = .ok (.lastore, 1))
    (kk : ∀ (H1 : Heap) (locs1 : List Loc), va_P G.1 vwCl (cW G S2 D2) H1 → va_P G.1 vwCl (oW o cJ (vp_updL f 0 x)) H1 → va_S (wA G S o sz) s.heap H1 locs1 → W p l e R s m args below meth c H1 locs1 ce sl Q (F0 m (pc + 1) ls rest)) : W p l e R s m args below meth c H locs ce sl Q (F0 m pc ls (.long x :: .int 0 :: .ref o :: rest)) := by
  obtain ⟨hx, hb, hr, hts, hown, hlocks, hml, hK, hD, hsz, hN⟩ := hC
  have ho : o < sz := by rw [← hsz]; exact (hv.2.1 0 _ rfl).lt
  have hDD : va_D (wA G S o sz) (oW o cJ f ++ cW G S2 D2) := by
    refine va_D.app2 (va_D.one (Or.inr rfl)) ⟨hD2.1, fun k q hq => Or.inl (cA_mem.mpr (hgr _ (cW_mem hq)))⟩ (fun i j p q h1 h2 h3 => ?_)
    have hi : i < 1 := (List.getElem?_eq_some_iff.mp h1).1
    rw [Nat.lt_one_iff.mp hi] at h1
    cases h1
    have h4 : o ∈ S2.1 := by rw [show o = q.1 from h3]; exact cW_mem h2
    rcases hgr o h4 with h5 | h5
    · exact hv.2.2.2.1 h5
    · exact absurd ho (Nat.not_lt.mpr h5)
  refine va_last hx hb hv.2.2.1 (hO.app hP) hDD hS 0 0 (n := 1) rfl rfl vp_in01 hdg (fun H1 locs1 hP1 _ hS1 => ?_)
  have h1 : va_P G.1 vwCl (oW o cJ (vp_updL f 0 x) ++ cW G S2 D2) H1 := hP1
  exact kk H1 locs1 h1.r h1.l hS1
end WROWS
