/-! What ArrayList and rows of references stand on (z: the address of the empty row, the class object of Object[]); rows with sizes; contracts cMKz. -/
def zP (z : Nat × Nat) (A : Nat → Prop) (U : State) (H : Heap) : Prop := va_Z "java/util/ArrayList" "DEFAULTCAPACITY_EMPTY_ELEMENTDATA" "[Ljava/lang/Object;" (.ref z.1) A U H ∧ va_T (.object "java/lang/Object") z.1 0 (fun _ => .null) A U H ∧ va_Nw (.castable "SegmentMap$Segment" "java/lang/Object") U ∧ va_AO "java/lang/Object" U ∧ va_AO "SegmentMap$Point" U ∧ va_Mi "[Ljava/lang/Object;" z.2 U ∧ va_Dc U ∧ va_Nw (.methodLinkNest "SegmentMap$Vertices" 17 yX2_init "SegmentMap") U ∧ va_Nw (.methodLinkNest "SegmentMap" 57 yX2_init "SegmentMap") U
theorem zP.next {z : Nat × Nat} {A B : Nat → Prop} {s U : State} {H H1 : Heap} (h : zP z A s H) (hW : s.WarmedH U.vm) (hAB : ∀ q, B q → A q) (hq : ∀ a : Nat, a < H.size → ¬ A a → H1[a]? = H[a]?) : zP z B U H1 := by
  obtain ⟨h1, h2, h3, h4, h5, h6, h7, h8, h9⟩ := h
  exact ⟨((h1.kept hq).moved hW.alike).narrow hAB, ((h2.kept hq).moved hW.alike).narrow hAB, h3.warmC hW, h4.moved hW.alike, h5.moved hW.alike, h6.moved hW.alike, h7.moved hW.alike, h8.warmM hW, h9.warmM hW⟩
theorem zP.blind {z : Nat × Nat} {A : Nat → Prop} {s : State} {H : Heap} {g : JFrame} {mk : MethodId} {a : Array Value} (h : zP z A s H) : zP z A (s.calling g mk a) H := by
  obtain ⟨h1, h2, h3, h4, h5, h6, h7, h8, h9⟩ := h
  exact ⟨va_Z.moved (u := s) (U := s.calling g mk a) (Vm.Alike.refl s.vm) h1, va_T.moved (u := s) (U := s.calling g mk a) (Vm.Alike.refl s.vm) h2, h3.same rfl rfl, va_AO.moved (u := s) (U := s.calling g mk a) (Vm.Alike.refl s.vm) h4, va_AO.moved (u := s) (U := s.calling g mk a) (Vm.Alike.refl s.vm) h5, va_Mi.moved (u := s) (U := s.calling g mk a) (Vm.Alike.refl s.vm) h6, va_Dc.moved (u := s) (U := s.calling g mk a) (Vm.Alike.refl s.vm) h7, h8.same rfl rfl, h9.same rfl rfl⟩
def cPz (G : cG) (sz : Nat) (S : CS) (D : CD) (z : Nat × Nat) (av : List Value) : Array Value → State → Prop := va_Pc av (fun U => (U.heap.size = sz ∧ va_P G.1 vwCl (cW G S D) U.heap ∧ va_K G.1 vwCl (cTy G) U ∧ va_D (fun _ => True) (cW G S D) ∧ cN U) ∧ zP z (cA G S sz) U U.heap)
theorem zBlind {G : cG} {sz : Nat} {S : CS} {D : CD} {z : Nat × Nat} {av : List Value} : FrameBlind (cPz G sz S D z av) := fun a U g mk q => by
  obtain ⟨q0, q1, q2⟩ := q
  exact ⟨q0, (cBlind a U g mk ⟨q0, q1⟩).2, q2.blind⟩
def cMKz (l : Launch) (y : MethodName) (ws : List Cond) (rm : Room) (G : cG) (S : CS) (z : Nat × Nat) (av : List Value) (D : CD) (k mc ms : Nat) (Rl : Nat → CS → CD → Prop) : Prop := ∀ sz : Nat, Met l y ws rm (cPz G sz S D z av) (va_Qv (fun (u : CS × CD) => Rl sz u.1 u.2 ∧ cGr G S u.1 sz) (fun u t => cIs G u.1 u.2 t ∧ t.heap.size = sz + k) (cA G S sz)) mc ms (cA G S sz)
theorem cBodyKz {l : Launch} {y : MethodName} {ws ws' : List Cond} {rm : Room} {cc : ByteArray} {maxL : Nat} {ret : Option FieldType} {own : String} {G : cG} {S : CS} {z : Nat × Nat} {av : List Value} {D : CD} {mc ms : Nat} {Qc : Nat → Array Value → State → Outcome → State → Prop} (hy : plainName y.cls = true) (hR : y.cls = own) (hw : ws = Cond.code y cc maxL ret :: ws')
    (body : ∀ (sz : Nat) (p : Program) (e : Env) (s : State) (m : MethodId) (below : List Frame) (meth : Method) (c : Code), cC own p s m av.toArray meth c ws cc maxL ret G S sz → va_P G.1 vwCl (cW G S D) s.heap → zP z (cA G S sz) s s.heap → meth.name = y.name → W p l e (headSpec ws rm).room s m av.toArray below meth c s.heap [] 0 0 (MQ below (Qc sz) av.toArray s mc ms (cA G S sz)) (entryFrame m av.toArray maxL)) :
    ∀ sz : Nat, Met l y ws rm (cPz G sz S D z av) (Qc sz) mc ms (cA G S sz) := by
  intro sz
  refine Met.ofW (cc := cc) (maxL := maxL) (ret := ret) hy hw ?_
  intro p e s m args below meth c s₁ B hml hv
  obtain ⟨rfl, ⟨hsz, hP, hK, hD0, hN⟩, hZ⟩ := hv
  have hown : s.vm.findClass own = some m.cls := by rw [← hR]; exact findClass_of_methodNamed B.named
  refine body sz p e s m below meth c ⟨B.exec, B.bytes, B.returns, atoms_spec (ws := ws) B.pre, hown, B.notSynchronized, hml, hK, fun D2 => ?_, hsz, hN⟩ hP hZ (name_of_methodNamed B.named B.method).1
  rw [← cA_eq G S D2]
  exact (cD_any D2 hD0).self
section ZROWS
variable {p : Program} {l : Launch} {e : Env} {R : Room} {s : State} {m : MethodId} {args : Array Value} {below : List Frame} {meth : Method} {c : Code} {H : Heap} {locs : List Loc} {Q : State → Prop}
variable {pc : Nat} {ls : Array Slot} {rest st0 : List Value} {ws ws' Ts : List Cond} {cc bytes : ByteArray} {maxL nL index n sz h ce sl : Nat} {ret : Option FieldType} {own : String} {G : cG} {S0 S S2 : CS} {D D2 : CD} {y : MethodName} {rm : Room} {As av : List Value} {z : Nat × Nat}
/-- the premise, seen from later in the same method -/
theorem z_now (hsz : s.heap.size = sz) (hZ : zP z (cA G S0 sz) s s.heap) (h2 : ∀ q ∈ S.1, q ∈ S0.1 ∨ sz ≤ q) (hS : va_S (cA G S sz) s.heap H locs) {U : State} (hU : U.heap = H) (hW : s.WarmedH U.vm) : zP z (cA G S H.size) U U.heap := by
  rw [hU]
  have hm : ∀ q, cA G S sz q → cA G S0 sz q := cA_mono h2
  exact hZ.next hW (fun q hq => hm q (cA_le (by rw [← hsz]; exact hS.1) hq)) (fun a ha hn => hS.2.1 a ha (fun w => hn (hm a w)))
theorem z_pre (hC : cC own p s m args meth c Ts cc nL ret G S sz) (hP : va_P G.1 vwCl (cW G S D) H) (hS : va_S (cA G S sz) s.heap H locs) (hZ : zP z (cA G S0 sz) s s.heap) (h2 : ∀ q ∈ S.1, q ∈ S0.1 ∨ sz ≤ q) (U : State) (hU : U.heap = H) (hW : s.WarmedH U.vm) : cPz G H.size S D z av av.toArray U := by
  have h1 : cPc G H.size S D av av.toArray U := c_pre hC hP U hU hW
  obtain ⟨a1, a2, a3, a4, a5, a6, a7, a8, a9, a10, a11⟩ := hC
  exact ⟨h1.1, h1.2, z_now a10 hZ h2 hS hU hW⟩
theorem n_initz {a k mc ms : Nat} {Rl : Nat → CS → CD → Prop} (hC : cC own p s m args meth c Ts cc nL ret G S sz) (hP : va_P G.1 vwCl (cW G S D) H) (hS : va_S (cA G S sz) s.heap H locs) (hz : H.size = h) (hZ : zP z (cA G S0 sz) s s.heap) (h2 : ∀ q ∈ S.1, q ∈ S0.1 ∨ sz ≤ q) (hM : cMKz l y ws rm G S z (.ref a :: As) D k mc ms Rl) (cw : CallB R s args own index y bytes maxL none ws rm mc ms n ∧ y.name = "<init>" ∧ (Cond.instanceMethod y).before args s = true) (hn : As.length = n) (hsize : ls.size = nL) (hst : st0 = As.reverse ++ .ref a :: rest) (hr8 : (rest.map fun v => v.category).sum ≤ 8) (hR : ce + mc ≤ R.cells ∧ sl + ms ≤ R.slots) (hdg : decode cc pc = .ok (.invokespecial index, 3))
    (kk : ∀ (S2 : CS) (D2 : CD) (H1 : Heap) (locs1 : List Loc), Rl h S2 D2 → cGr G S S2 h → va_P G.1 vwCl (cW G S2 D2) H1 → H1.size = h + k → va_S (cA G S2 sz) s.heap H1 locs1 → cC own p s m args meth c Ts cc nL ret G S2 sz → W p l e R s m args below meth c H1 locs1 (ce + mc) (sl + ms) Q (F0 m (pc + 3) ls rest)) : W p l e R s m args below meth c H locs ce sl Q (F0 m pc ls st0) := by
  subst hz
  refine va_callv (va_runI (As := As) (rest := rest) (g := F0 m pc ls st0) (c_fix hC) (hM H.size) cw ⟨zBlind, fun U hU hW => z_pre (av := .ref a :: As) hC hP hS hZ h2 U hU hW⟩ rfl hn hsize hst (lv_room hr8) hdg hR) hS (fun q _ h => c_sub hC hS q h) (c_sub hC hS) (fun u t H1 locs1 ht hvm hw hB hz1 hk1 hS1 => ?_)
  exact kk u.1 u.2 H1 locs1 hw.1 hw.2 (by rw [← ht]; exact hB.1.1) (by rw [← ht]; exact hB.2) (va_S.mono hS1 (cA_mono (fun q hq => Or.inl (hw.2.1 q hq)))) (cC_S hC ⟨cD0, hw.2.2.2 cD0⟩)
theorem n_initN {a k mc ms : Nat} {host : String} {Rl : Nat → CS → CD → Prop} (hC : cC own p s m args meth c Ts cc nL ret G S sz) (hP : va_P G.1 vwCl (cW G S D) H) (hS : va_S (cA G S sz) s.heap H locs) (hz : H.size = h) (hM : cMK l y ws rm G S (.ref a :: As) D k mc ms Rl) (cw : va_CN R s args own index y host bytes maxL none ws rm mc ms n ∧ y.name = "<init>" ∧ (Cond.instanceMethod y).before args s = true) (hn : As.length = n) (hsize : ls.size = nL) (hst : st0 = As.reverse ++ .ref a :: rest) (hr8 : (rest.map fun v => v.category).sum ≤ 8) (hR : ce + mc ≤ R.cells ∧ sl + ms ≤ R.slots) (hdg : decode cc pc = .ok (.invokespecial index, 3))
    (kk : ∀ (S2 : CS) (D2 : CD) (H1 : Heap) (locs1 : List Loc), Rl h S2 D2 → cGr G S S2 h → va_P G.1 vwCl (cW G S2 D2) H1 → H1.size = h + k → va_S (cA G S2 sz) s.heap H1 locs1 → cC own p s m args meth c Ts cc nL ret G S2 sz → W p l e R s m args below meth c H1 locs1 (ce + mc) (sl + ms) Q (F0 m (pc + 3) ls rest)) : W p l e R s m args below meth c H locs ce sl Q (F0 m pc ls st0) := by
  subst hz
  refine va_callv (va_runIN (As := As) (rest := rest) (g := F0 m pc ls st0) (c_fix hC) (hM H.size) cw ⟨cBlind, fun U hU hW => c_pre (av := .ref a :: As) hC hP U hU hW⟩ rfl hn hsize hst (lv_room hr8) hdg hR) hS (fun q _ h => c_sub hC hS q h) (c_sub hC hS) (fun u t H1 locs1 ht hvm hw hB hz1 hk1 hS1 => ?_)
  exact kk u.1 u.2 H1 locs1 hw.1 hw.2 (by rw [← ht]; exact hB.1.1) (by rw [← ht]; exact hB.2) (va_S.mono hS1 (cA_mono (fun q hq => Or.inl (hw.2.1 q hq)))) (cC_S hC ⟨cD0, hw.2.2.2 cD0⟩)
theorem n_alen {a : Nat} (hC : cC own p s m args meth c Ts cc nL ret G S sz) (hP : va_P G.1 vwCl (cW G S D) H) (hm : a ∈ S.1) (hk : 8 ≤ S.2.1 a) (hk2 : S.2.1 a ≤ 10) (hdg : decode cc pc = .ok (.arraylength, 1))
    (kk : W p l e R s m args below meth c H locs ce sl Q (F0 m (pc + 1) ls (.int (Int32.ofNat (S.2.2.2 a)) :: rest))) : W p l e R s m args below meth c H locs ce sl Q (F0 m pc ls (.ref a :: rest)) := by
  obtain ⟨hx, hb, hr, hts, hown, hlocks, hml, hK, hD, hsz, hN⟩ := hC
  rcases (show S.2.1 a = 8 ∨ S.2.1 a = 9 ∨ S.2.1 a = 10 by omega) with h | h | h
  · obtain ⟨q0, hq⟩ := cget (G := G) (D := D) hm (cE_8 h)
    exact va_alen hx hb hK hP q0 0 hq (ty := .int) rfl rfl hdg kk
  · obtain ⟨q0, hq⟩ := cget (G := G) (D := D) hm (cE_9 h)
    exact va_alen hx hb hK hP q0 1 hq (ty := .object "SegmentMap$Point") rfl rfl hdg kk
  · obtain ⟨q0, hq⟩ := cget (G := G) (D := D) hm (cE_10 h)
    exact va_alen hx hb hK hP q0 2 hq (ty := .object "java/lang/Object") rfl rfl hdg kk
/-- an object put into a row of references -/
theorem n_ast {C E : String} {T : u_T} {N ci a v t0 kd : Nat} {vs : List Value} {cA0 : ClassId} (hC : cC own p s m args meth c Ts cc nL ret G S sz) (hP : va_P G.1 vwCl (cW G S D) H) (hS : va_S (cA G S sz) s.heap H locs) (hz : H.size = h) (ht : (cTy G)[t0]? = some (cA0, .object E)) (hE : ∀ (S : CS) (D : CD) (a : Nat), S.2.1 a = kd → cE G S D a = .inl (cA0, S.2.2.2 a, .inr (.inr (.inr (.inr (D.2.2.2 a)))))) (hm : a ∈ S.1) (hk : S.2.1 a = kd) (hv : v ∈ S.1) (hEv : cE G S D v = .inr (ci, vs)) (hc : vwCl[ci]? = some (C, T, N)) (hasg : ∀ comp c0 : ClassId, s.vm.findClass E = some comp → s.vm.findClass C = some c0 → s.vm.assignable c0 comp = true) {i : Int32} (hin : vp_in i (S.2.2.2 a)) (hdg : decode cc pc = .ok (.aastore, 1))
    (kk : ∀ (H1 : Heap) (locs1 : List Loc), va_P G.1 vwCl (cW G S (cpR D a (va_up (D.2.2.2 a) i.toNatClampNeg (some v)))) H1 → H1.size = h → va_S (cA G S sz) s.heap H1 locs1 → W p l e R s m args below meth c H1 locs1 ce sl Q (F0 m (pc + 1) ls rest)) : W p l e R s m args below meth c H locs ce sl Q (F0 m pc ls (.ref v :: .int i :: .ref a :: rest)) := by
  have hrr := c_rec hC hP hv hEv hc
  obtain ⟨hx, hb, hr, hts, hown, hlocks, hml, hK, hD, hsz, hN⟩ := hC
  obtain ⟨q0, hq⟩ := cget hm (hE S D a hk)
  have hw := cset (D2 := cpR D a (va_up (D.2.2.2 a) i.toNatClampNeg (some v))) (hD D) hm (hE S D a hk) hq (y := .inl (cA0, S.2.2.2 a, .inr (.inr (.inr (.inr (va_up (D.2.2.2 a) i.toNatClampNeg (some v))))))) (by rw [hE S _ a hk]; simp [cpR, va_up]) (fun b hb => cE_ext rfl rfl rfl (by simp [cpR, va_up, hb]))
  have hlt : i.toNatClampNeg < S.2.2.2 a := Nat.not_le.mp fun q => hin (Or.inr q)
  have h0 : ¬ i < 0 := fun q => hin (Or.inl q)
  obtain ⟨cellV, g1, g3, g2⟩ := hrr
  obtain ⟨kA, comp, k1, k2, k3, -⟩ := (hK.2 t0 _ ht).2
  obtain ⟨kE, hkE, -⟩ := Vm.findClass_spec k3
  obtain ⟨kC, hkC, -⟩ := Vm.findClass_spec g2
  refine W.aast hx hb (hP q0 _ hq) (fun q h => by cases h) (fun h => by cases h) k1 k2 rfl hkE ⟨h0, by show _ < (arrV _ _ _).slots.size; rw [arrV_size]; exact hlt⟩ g1 (fun q h => by rw [h] at g3; cases g3) hkC (hasg _ _ k3 g2) rfl rfl hdg fun H1 e zz oq => ?_
  have hA : cA G S sz a := cA_mem.mpr (Or.inl hm)
  refine kk H1 _ ?_ (zz.trans hz) (hS.put zz oq hA)
  rw [← hw]
  refine hP.set (hD D) hq ?_ oq
  show H1[a]? = some (vp_cell _ _)
  rw [e]
  rw [vp_cell_q, vp_cell_q, arrV_store]
  congr 2
  funext q
  by_cases hq : q = i.toNatClampNeg
  · subst hq
    simp [updV, va_up, va_rf]
  · simp [updV, va_up, hq]
end ZROWS
