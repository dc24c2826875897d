/-! The law's methods that call what throws: what stands at their entry, contracts with room for what is made, rows that count. -/
def wPre0 (G : cG) (S : CS) (D : CD) (z : Nat × Nat) (sz : Nat) (U : State) : Prop := (U.heap.size = sz ∧ va_P G.1 vwCl (cW G S D) U.heap ∧ va_K G.1 vwCl (cTy G) U ∧ va_D (fun _ => True) (cW G S D) ∧ cN U) ∧ zP z (cA G S sz) U U.heap ∧ xP (cA G S sz) U U.heap
def wNc (U : State) : Prop := va_Nc "java/lang/IllegalStateException" "java/lang/IllegalArgumentException" U ∧ va_Nc "java/lang/IndexOutOfBoundsException" "java/lang/IllegalArgumentException" U
def lPre (G : cG) (S : CS) (D : CD) (z : Nat × Nat) (sz : Nat) (U : State) : Prop := wPre0 G S D z sz U ∧ wNc U
/-- the part of it that stays -/
def lPr (z : Nat × Nat) (A : Nat → Prop) (s : State) : Prop := zP z A s s.heap ∧ xP A s s.heap ∧ wNc s
theorem lPr_of {G : cG} {S : CS} {D : CD} {z : Nat × Nat} {sz : Nat} {s : State} (h : lPre G S D z sz s) : lPr z (cA G S sz) s := ⟨h.1.2.1, h.1.2.2, h.2⟩
theorem lBlind {G : cG} {S : CS} {D : CD} {z : Nat × Nat} {sz : Nat} {av : List Value} : FrameBlind (va_Pc av (lPre G S D z sz)) := fun a U g mk q => by
  obtain ⟨q0, ⟨q1, q2, q3⟩, q7, q8⟩ := q
  exact ⟨q0, ⟨(cBlind a U g mk ⟨q0, q1⟩).2, q2.blind, q3.blind⟩, va_Nc.moved (u := U) (U := U.calling g mk a) (Vm.Alike.refl U.vm) q7, va_Nc.moved (u := U) (U := U.calling g mk a) (Vm.Alike.refl U.vm) q8⟩
def wX : String → State → State → Prop := vx_X (fun (_ : Unit) => False) (fun _ _ _ => True) (fun _ => False)
/-- a method of the law that answers r -/
def lMI (l : Launch) (y : MethodName) (ws : List Cond) (rm : Room) (G : cG) (S : CS) (z : Nat × Nat) (av : List Value) (D D2 : CD) (r : Int32) (mc ms : Nat) : Prop := ∀ sz : Nat, Met l y ws rm (va_Pc av (lPre G S D z sz)) (va_Qi (fun x (_ : Unit) => x = r) (fun _ t => cIs G S D2 t) (cA G S sz)) mc ms (cA G S sz)
/-- the same of a method that catches -/
def lXI (l : Launch) (y : MethodName) (ws : List Cond) (rm : Room) (G : cG) (S : CS) (z : Nat × Nat) (av : List Value) (D D2 : CD) (r : Int32) (mc ms : Nat) : Prop := ∀ sz : Nat, vx_Met l y ws rm (va_Pc av (lPre G S D z sz)) (va_Qi (fun x (_ : Unit) => x = r) (fun _ t => cIs G S D2 t) (cA G S sz)) wX mc ms (cA G S sz)
abbrev lQI (below : List Frame) (G : cG) (S : CS) (D2 : CD) (sz : Nat) (av : Array Value) (s : State) (r : Int32) (mc ms : Nat) : State → Prop := MQ below (va_Qi (fun x (_ : Unit) => x = r) (fun _ t => cIs G S D2 t) (cA G S sz)) av s mc ms (cA G S sz)
theorem lBody {l : Launch} {y : MethodName} {ws ws' : List Cond} {rm : Room} {cc : ByteArray} {maxL : Nat} {ret : Option FieldType} {G : cG} {S : CS} {D D2 : CD} {z : Nat × Nat} {av : List Value} {r : Int32} {mc ms : Nat} (hy : plainName y.cls = true) (hR : y.cls = RL) (hw : ws = Cond.code y cc maxL ret :: ws')
    (body : ∀ (sz : Nat) (p : Program) (e : Env) (s : State) (m : MethodId) (below : List Frame) (meth : Method) (c : Code), cC RL p s m av.toArray meth c ws cc maxL ret G S sz → lPre G S D z sz s → W p l e (headSpec ws rm).room s m av.toArray below meth c s.heap [] 0 0 (lQI below G S D2 sz av.toArray s r mc ms) (entryFrame m av.toArray maxL)) : lMI l y ws rm G S z av D D2 r mc ms := by
  intro sz
  refine Met.ofW (cc := cc) (maxL := maxL) (ret := ret) hy hw ?_
  intro p e s m args below meth c s₁ B hml hv
  obtain ⟨rfl, hv⟩ := hv
  have hv0 := hv
  obtain ⟨⟨⟨hsz, hP, hK, hD0, hN⟩, -⟩, -⟩ := hv
  have hown : s.vm.findClass RL = some m.cls := by rw [← hR]; exact findClass_of_methodNamed B.named
  refine body sz p e s m below meth c ⟨B.exec, B.bytes, B.returns, atoms_spec (ws := ws) B.pre, hown, B.notSynchronized, hml, hK, fun D2 => ?_, hsz, hN⟩ hv0
  rw [← cA_eq G S D2]
  exact (cD_any D2 hD0).self
theorem lBodyX {l : Launch} {y : MethodName} {ws ws' : List Cond} {rm : Room} {cc : ByteArray} {maxL : Nat} {ret : Option FieldType} {hh : List (Nat × Nat × Nat × Nat)} {G : cG} {S : CS} {D D2 : CD} {z : Nat × Nat} {av : List Value} {r : Int32} {mc ms : Nat} (hy : plainName y.cls = true) (hR : y.cls = RL) (hw : ws = Cond.codeWith y cc maxL ret hh :: ws')
    (body : ∀ (sz : Nat) (p : Program) (e : Env) (s : State) (m : MethodId) (below : List Frame) (meth : Method) (c : Code), cC RL p s m av.toArray meth c ws cc maxL ret G S sz → c.exceptionTable.toList = tableOf hh → lPre G S D z sz s → W p l e (headSpec ws rm).room s m av.toArray below meth c s.heap [] 0 0 (lQI below G S D2 sz av.toArray s r mc ms) (entryFrame m av.toArray maxL)) : lXI l y ws rm G S z av D D2 r mc ms := by
  intro sz
  refine vx_ofWH (cc := cc) (maxL := maxL) (ret := ret) (hh := hh) hy hw ?_
  intro p e s m args below meth c s₁ B hml hv
  obtain ⟨rfl, hv⟩ := hv
  have hv0 := hv
  obtain ⟨⟨⟨hsz, hP, hK, hD0, hN⟩, -⟩, -⟩ := hv
  have hown : s.vm.findClass RL = some m.cls := by rw [← hR]; exact findClass_of_methodNamed B.named
  have hts := atoms_spec (ws := ws) B.pre
  refine vx_ret (body sz p e s m below meth c ⟨B.exec, B.bytes, B.returns, hts, hown, B.notSynchronized, hml, hK, fun D2 => ?_, hsz, hN⟩ (vx_table (x := y) B (hts _ (by rw [hw]; exact List.mem_cons_self))) hv0)
  rw [← cA_eq G S D2]
  exact (cD_any D2 hD0).self
def wThr (l : Launch) (y : MethodName) (ws : List Cond) (rm : Room) (G : cG) (S : CS) (D D2 : CD) (av : List Value) (mc ms : Nat) (E : String) : Prop := ∀ sz : Nat, vx_Met l y ws rm (cPx G sz S D av) xQI (xX G S D2 E sz) mc ms (cA G S sz)
section GROWS
variable {p : Program} {l : Launch} {e : Env} {R : Room} {s : State} {m : MethodId} {args : Array Value} {below : List Frame} {meth : Method} {c : Code} {H : Heap} {locs : List Loc} {Q : State → Prop}
variable {pc : Nat} {ls : Array Slot} {rest st0 : List Value} {ws ws' Ts : List Cond} {cc bytes : ByteArray} {maxL nL index n sz mc ms ce sl : Nat} {ret : Option FieldType} {own : String} {G : cG} {S : CS} {D D0 D2 : CD} {y : MethodName} {rm : Room} {As av : List Value} {E : String} {z : Nat × Nat}
theorem g_entry {vs : List Value} {n : Nat} (h : (lg_sl vs).length ≤ n) (k : ∀ ls : Array Slot, lv_has ls n (lv_args 0 vs) → W p l e R s m args below meth c H locs ce sl Q (F0 m 0 ls [])) : W p l e R s m args below meth c H locs ce sl Q (entryFrame m vs.toArray n) := by
  rw [lg_entry_eq]; exact k _ (lv_entry vs h)
theorem g_ild {a : Nat} (hC : cC own p s m args meth c Ts cc nL ret G S sz) (hP : va_P G.1 vwCl (cW G S D) H) (hm : a ∈ S.1) (hk : S.2.1 a = 8) {i t : Int32} (hin : vp_in i (S.2.2.2 a)) (ht : t = D.2.2.1 a i.toNatClampNeg) (hdg : decode cc pc = .ok (.iaload, 1))
    (kk : W p l e R s m args below meth c H locs ce sl Q (F0 m (pc + 1) ls (.int t :: rest))) : W p l e R s m args below meth c H locs ce sl Q (F0 m pc ls (.int i :: .ref a :: rest)) := by
  obtain ⟨hx, hb, hr, hts, hown, hlocks, hml, hK, hD, hsz, hN⟩ := hC
  subst ht
  obtain ⟨q0, hq⟩ := cget hm (cE_8 hk)
  exact va_iald hx hb hK hP q0 0 hq rfl hin hdg kk
theorem g_ist {a : Nat} (hC : cC own p s m args meth c Ts cc nL ret G S sz) (hP : va_P G.1 vwCl (cW G S D) H) (hS : va_S (cA G S sz) s.heap H locs) (hm : a ∈ S.1) (hk : S.2.1 a = 8) {i v : Int32} (hin : vp_in i (S.2.2.2 a)) (hD2 : D2 = cpA D a (upd (D.2.2.1 a) i.toNatClampNeg v)) (hdg : decode cc pc = .ok (.iastore, 1))
    (kk : ∀ (H1 : Heap) (locs1 : List Loc), va_P G.1 vwCl (cW G S D2) H1 → va_S (cA G S sz) s.heap H1 locs1 → W p l e R s m args below meth c H1 locs1 ce sl Q (F0 m (pc + 1) ls rest)) : W p l e R s m args below meth c H locs ce sl Q (F0 m pc ls (.int v :: .int i :: .ref a :: rest)) := by
  obtain ⟨hx, hb, hr, hts, hown, hlocks, hml, hK, hD, hsz, hN⟩ := hC
  subst hD2
  obtain ⟨q0, hq⟩ := cget (G := G) (D := D) hm (cE_8 hk)
  have hw := cset (D2 := cpA D a (upd (D.2.2.1 a) i.toNatClampNeg v)) (hD D) hm (cE_8 hk) hq (y := .inl (ccI G, S.2.2.2 a, .inl (upd (D.2.2.1 a) i.toNatClampNeg v))) (by rw [cE_8 hk]; simp [cpA, va_up]) (fun b hb => cE_ext rfl rfl (by simp [cpA, va_up, hb]) rfl)
  exact va_iast hx hb hK hP (hD D) hS q0 0 hq rfl hin hdg (fun H1 locs1 hP1 _ hS1 => kk H1 locs1 (by rw [← hw]; exact hP1) hS1)
theorem g_VI {r : Int32} {C : String} {T : u_T} {N ci a : Nat} {fs : List Value} (hC : cC own p s m args meth c Ts cc nL ret G S sz) (hP : va_P G.1 vwCl (cW G S D) H) (hS : va_S (cA G S sz) s.heap H locs) (hm : a ∈ S.1) (hE : cE G S D a = .inr (ci, fs)) (hc : vwCl[ci]? = some (C, T, N)) {ret' : Option FieldType} (hM : cMI l y ws rm G S (.ref a :: As) D D2 r) (cw : CallW R s args own C index y bytes maxL ret' ws rm 0 0 n) (hn : As.length = n) (hsize : ls.size = nL) (hst : st0 = As.reverse ++ .ref a :: rest) (hr8 : (rest.map fun v => v.category).sum ≤ 8) (hdg : decode cc pc = .ok (.invokevirtual index, 3)) (hR : ce + 0 ≤ R.cells ∧ sl + 0 ≤ R.slots)
    (kk : ∀ (H1 : Heap) (locs1 : List Loc), va_P G.1 vwCl (cW G S D2) H1 → va_S (cA G S sz) s.heap H1 locs1 → W p l e R s m args below meth c H1 locs1 ce sl Q (F0 m (pc + 3) ls (.int r :: rest))) : W p l e R s m args below meth c H locs ce sl Q (F0 m pc ls st0) := by
  refine va_calli (va_runV (As := As) (rest := rest) (g := F0 m pc ls st0) (c_fix hC) (hM H.size) cw ⟨cBlind, c_rec hC hP hm hE hc, fun U hU hW => c_pre (av := .ref a :: As) hC hP U hU hW⟩ rfl hn hsize hst (lv_room hr8) hdg hR) hS (fun q _ h => c_sub hC hS q h) (c_sub hC hS) (fun r1 u t H1 locs1 ht hvm hw hB hz1 hk1 hS1 => ?_)
  cases hw
  exact kk H1 locs1 (by rw [← ht]; exact hB.1) hS1
theorem g_SI {r : Int32} (hC : cC own p s m args meth c Ts cc nL ret G S sz) (hP : va_P G.1 vwCl (cW G S D) H) (hS : va_S (cA G S sz) s.heap H locs) {ret' : Option FieldType} (hM : cMI l y ws rm G S As D D2 r) (cw : CallB R s args own index y bytes maxL ret' ws rm 0 0 n ∧ (Cond.static y).before args s = true) (hn : As.length = n) (hsize : ls.size = nL) (hst : st0 = As.reverse ++ rest) (hr8 : (rest.map fun v => v.category).sum ≤ 8) (hdg : decode cc pc = .ok (.invokestatic index, 3)) (hR : ce + 0 ≤ R.cells ∧ sl + 0 ≤ R.slots)
    (kk : ∀ (H1 : Heap) (locs1 : List Loc), va_P G.1 vwCl (cW G S D2) H1 → va_S (cA G S sz) s.heap H1 locs1 → W p l e R s m args below meth c H1 locs1 ce sl Q (F0 m (pc + 3) ls (.int r :: rest))) : W p l e R s m args below meth c H locs ce sl Q (F0 m pc ls st0) := by
  refine va_calli (va_runS (As := As) (rest := rest) (g := F0 m pc ls st0) (c_fix hC) (hM H.size) cw ⟨cBlind, fun U hU hW => c_pre (av := As) hC hP U hU hW⟩ rfl hn hsize hst (lv_room hr8) hdg hR) hS (fun q _ h => c_sub hC hS q h) (c_sub hC hS) (fun r1 u t H1 locs1 ht hvm hw hB hz1 hk1 hS1 => ?_)
  cases hw
  exact kk H1 locs1 (by rw [← ht]; exact hB.1) hS1
theorem g_SL {r : Int64} (hC : cC own p s m args meth c Ts cc nL ret G S sz) (hP : va_P G.1 vwCl (cW G S D) H) (hS : va_S (cA G S sz) s.heap H locs) {ret' : Option FieldType} (hM : cML l y ws rm G S As D D2 r) (cw : CallB R s args own index y bytes maxL ret' ws rm 0 0 n ∧ (Cond.static y).before args s = true) (hn : As.length = n) (hsize : ls.size = nL) (hst : st0 = As.reverse ++ rest) (hr8 : (rest.map fun v => v.category).sum ≤ 8) (hdg : decode cc pc = .ok (.invokestatic index, 3)) (hR : ce + 0 ≤ R.cells ∧ sl + 0 ≤ R.slots)
    (kk : ∀ (H1 : Heap) (locs1 : List Loc), va_P G.1 vwCl (cW G S D2) H1 → va_S (cA G S sz) s.heap H1 locs1 → W p l e R s m args below meth c H1 locs1 ce sl Q (F0 m (pc + 3) ls (.long r :: rest))) : W p l e R s m args below meth c H locs ce sl Q (F0 m pc ls st0) := by
  refine va_calll (va_runS (As := As) (rest := rest) (g := F0 m pc ls st0) (c_fix hC) (hM H.size) cw ⟨cBlind, fun U hU hW => c_pre (av := As) hC hP U hU hW⟩ rfl hn hsize hst (lv_room hr8) hdg hR) hS (fun q _ h => c_sub hC hS q h) (c_sub hC hS) (fun r1 u t H1 locs1 ht hvm hw hB hz1 hk1 hS1 => ?_)
  cases hw
  exact kk H1 locs1 (by rw [← ht]; exact hB.1) hS1
theorem l_pre (hC : cC own p s m args meth c Ts cc nL ret G S sz) (hv : lPr z (cA G S sz) s) (hP : va_P G.1 vwCl (cW G S D) H) (hS : va_S (cA G S sz) s.heap H locs) (U : State) (hU : U.heap = H) (hW : s.WarmedH U.vm) : va_Pc av (lPre G S D z H.size) av.toArray U := by
  have h1 : cPc G H.size S D av av.toArray U := c_pre hC hP U hU hW
  refine ⟨h1.1, ⟨h1.2, ?_, ?_⟩, va_Nc.moved hW.alike hv.2.2.1, va_Nc.moved hW.alike hv.2.2.2⟩
  · rw [hU]; exact hv.1.next hW (c_sub hC hS) (fun a ha hn => hS.2.1 a ha hn)
  · rw [hU]; exact hv.2.1.next hW (c_sub hC hS) (fun a ha hn => hS.2.1 a ha hn)
/-- a call of a method of the law -/
theorem g_SB {r : Int32} (hC : cC own p s m args meth c Ts cc nL ret G S sz) (hv : lPr z (cA G S sz) s) (hP : va_P G.1 vwCl (cW G S D) H) (hS : va_S (cA G S sz) s.heap H locs) {ret' : Option FieldType} (hM : lMI l y ws rm G S z As D D2 r mc ms) (cw : CallB R s args own index y bytes maxL ret' ws rm mc ms n ∧ (Cond.static y).before args s = true) (hn : As.length = n) (hsize : ls.size = nL) (hst : st0 = As.reverse ++ rest) (hr8 : (rest.map fun v => v.category).sum ≤ 8) (hdg : decode cc pc = .ok (.invokestatic index, 3)) (hR : ce + mc ≤ R.cells ∧ sl + ms ≤ R.slots)
    (kk : ∀ (H1 : Heap) (locs1 : List Loc), va_P G.1 vwCl (cW G S D2) H1 → va_S (cA G S sz) s.heap H1 locs1 → W p l e R s m args below meth c H1 locs1 (ce + mc) (sl + ms) Q (F0 m (pc + 3) ls (.int r :: rest))) : W p l e R s m args below meth c H locs ce sl Q (F0 m pc ls st0) := by
  refine va_calli (va_runS (As := As) (rest := rest) (g := F0 m pc ls st0) (c_fix hC) (hM H.size) cw ⟨lBlind, fun U hU hW => l_pre (av := As) hC hv hP hS U hU hW⟩ rfl hn hsize hst (lv_room hr8) hdg hR) hS (fun q _ h => c_sub hC hS q h) (c_sub hC hS) (fun r1 u t H1 locs1 ht hvm hw hB hz1 hk1 hS1 => ?_)
  cases hw
  exact kk H1 locs1 (by rw [← ht]; exact hB.1) hS1
/-- a call of a method of the law that catches -/
theorem g_SX {r : Int32} (hC : cC own p s m args meth c Ts cc nL ret G S sz) (hv : lPr z (cA G S sz) s) (hP : va_P G.1 vwCl (cW G S D) H) (hS : va_S (cA G S sz) s.heap H locs) {ret' : Option FieldType} {hh : List (Nat × Nat × Nat × Nat)} (hM : lXI l y ws rm G S z As D D2 r mc ms) (cw : vx_CSW R s args own index y bytes maxL ret' hh ws rm mc ms n) (hn : As.length = n) (hsize : ls.size = nL) (hst : st0 = As.reverse ++ rest) (hr8 : (rest.map fun v => v.category).sum ≤ 8) (hdg : decode cc pc = .ok (.invokestatic index, 3)) (hR : ce + mc ≤ R.cells ∧ sl + ms ≤ R.slots)
    (kk : ∀ (H1 : Heap) (locs1 : List Loc), va_P G.1 vwCl (cW G S D2) H1 → va_S (cA G S sz) s.heap H1 locs1 → W p l e R s m args below meth c H1 locs1 (ce + mc) (sl + ms) Q (F0 m (pc + 3) ls (.int r :: rest))) : W p l e R s m args below meth c H locs ce sl Q (F0 m pc ls st0) := by
  refine vx_calli (vx_runSX (As := As) (rest := rest) (g := F0 m pc ls st0) (c_fix hC) (hM H.size) cw ⟨lBlind, fun U hU hW => l_pre (av := As) hC hv hP hS U hU hW⟩ rfl hn hsize hst (lv_room hr8) hdg hR) hS (fun q _ h => c_sub hC hS q h) (c_sub hC hS) (fun q _ h => h.elim) (fun E ce9 q9 u t H1 locs1 ht hvm hpx hB hz1 hk1 hS1 h1 h2 h3 => hpx.elim) (fun r1 u t H1 locs1 ht hvm hw hB hz1 hk1 hS1 => ?_)
  cases hw
  exact kk H1 locs1 (by rw [← ht]; exact hB.1) hS1
/-- a call of the class that throws, caught here -/
theorem g_VT {a : Nat} (hC : cC RL p s m args meth c Ts cc nL ret G S sz) (hv : lPre G S D z sz s) (hm : a ∈ S.1) (hk : S.2.1 a = 6) (hM : wThr l y ws rm G S D D2 (.ref a :: As) mc ms E) {ret' : Option FieldType} (cw : CallW R s args RL RX6 index y bytes maxL ret' ws rm mc ms n) (hn : As.length = n) (hsize : ls.size = nL) (hst : st0 = As.reverse ++ .ref a :: rest) (hr8 : (rest.map fun v => v.category).sum ≤ 8) (hR : 0 + mc ≤ R.cells ∧ 0 + ms ≤ R.slots) (hdg : decode cc pc = .ok (.invokevirtual index, 3))
    (kx : ∀ (ce9 : Cell) (q9 : Addr) (H1 : Heap) (locs1 : List Loc), va_P G.1 vwCl (cW G S D2) H1 → va_S (cA G S sz) s.heap H1 locs1 → H1[q9]? = some ce9 → ce9.vm = .none → s.vm.findClass E = some ce9.cls → vx_W p l e R s m args below meth c H1 locs1 (0 + mc) (0 + ms) Q (F0 m pc ls rest) q9) : W p l e R s m args below meth c s.heap [] 0 0 Q (F0 m pc ls st0) := by
  have hS0 : va_S (cA G S sz) s.heap s.heap [] := va_S.rf
  have hsz : s.heap.size = sz := hv.1.1.1
  refine vx_calli (vx_runV (As := As) (rest := rest) (g := F0 m pc ls st0) (c_fix hC) (hM sz) cw ⟨xBlind, c_rec hC hv.1.1.2.1 hm (cE_6 hk) rfl, fun U hU hW => ?_⟩ rfl hn hsize hst (lv_room hr8) hdg hR) hS0 (fun q _ h => h.elim) (fun q h => h) (fun q _ h => h) (fun E1 ce9 q9 u t H1 locs1 ht hvm hpx hB hz1 hk1 hS1 h1 h2 h3 => ?_) (fun r1 u t H1 locs1 ht hvm hw hB hz1 hk1 hS1 => hw.elim)
  · have h := x_pre (av := .ref a :: As) hC hv.1.1.2.1 hS0 hv.1.2.2 U hU hW
    rw [hsz] at h
    exact h
  · obtain ⟨rfl, hB⟩ := hB
    exact kx ce9 q9 H1 locs1 (by rw [← ht]; exact hB.1) hS1 h1 h2 h3
theorem g_iret (hC : cC own p s m args meth c Ts cc nL (some .int) G S sz) (hP : va_P G.1 vwCl (cW G S D) H) (hS : va_S (cA G S sz) s.heap H locs) {v r : Int32} (hv : v = r) (hce : ce ≤ mc) (hsl : sl ≤ ms) (hdg : decode cc pc = .ok (.ireturn, 1)) : W p l e R s m args below meth c H locs ce sl (MQ below (va_Qi (fun x (_ : Unit) => x = r) (fun _ t => cIs G S D t) (cA G S sz)) args s mc ms (cA G S sz)) (F0 m pc ls [.int v]) := by
  obtain ⟨hx, hb, hr, hts, hown, hlocks, hml, hK, hD, hsz, hN⟩ := hC
  refine W.widen hce hsl ?_
  exact W.iret (v := v) hx hb hr (fun t ht hW => ⟨⟨v, (), rfl, hv, by rw [ht]; exact hP, va_K.moved hW.alike hK⟩, hS.F ht⟩) hS.2.2 hdg hlocks
theorem g_zret (hC : cC own p s m args meth c Ts cc nL (some .boolean) G S sz) (hP : va_P G.1 vwCl (cW G S D) H) (hS : va_S (cA G S sz) s.heap H locs) {v r : Int32} (hz : v = 0 ∨ v = 1) (hv : v = r) (hce : ce ≤ mc) (hsl : sl ≤ ms) (hdg : decode cc pc = .ok (.ireturn, 1)) : W p l e R s m args below meth c H locs ce sl (MQ below (va_Qi (fun x (_ : Unit) => x = r) (fun _ t => cIs G S D t) (cA G S sz)) args s mc ms (cA G S sz)) (F0 m pc ls [.int v]) := by
  obtain ⟨hx, hb, hr, hts, hown, hlocks, hml, hK, hD, hsz, hN⟩ := hC
  refine W.widen hce hsl ?_
  exact W.zret (v := v) hx hb hr (by rcases hz with rfl | rfl <;> rfl) (fun t ht hW => ⟨⟨v, (), rfl, hv, by rw [ht]; exact hP, va_K.moved hW.alike hK⟩, hS.F ht⟩) hS.2.2 hdg hlocks
theorem gSX {k0 : Cond} {own : String} {idx n : Nat} {y : MethodName} {b : ByteArray} {ret : Option FieldType} {hh : List (Nat × Nat × Nat × Nat)} (h1 : Cond.methodLink own idx y ∈ WA) (h2 : Cond.static y ∈ WA) (h4 : Cond.initialized y.cls ∈ WA) (h5 : Cond.codeWith y b n ret hh ∈ WA) : GoodIn (k0 :: WA) (va_wsS own idx y (Cond.codeWith y b n ret hh :: WA)) := gSA h1 h2 h4 h5 (fun w h => h)
end GROWS
