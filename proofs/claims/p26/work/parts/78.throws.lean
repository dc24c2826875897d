/-! What a throw of the class stands on; methods that throw: contracts cMTV, cMTI. -/
def xCs : List String := ["java/lang/IllegalArgumentException", "java/lang/IllegalStateException", "java/lang/IndexOutOfBoundsException"]
def xDs : List String := ["java/lang/RuntimeException", "java/lang/Exception", "java/lang/Throwable"]
def xSt : List (Nat × String) := [(70, "both ends are the same point"), (81, "there are 12 segments"), (88, "more than one point in common with another segment"), (192, "no such place"), (207, "a coordinate is not from 0 to 100"), (209, "no such segment"), (211, "no such vertex"), (213, "no such edge"), (215, "no such face")]
def xP (A : Nat → Prop) (U : State) (H : Heap) : Prop := vx_Zq Bundle.tN "UNASSIGNED_STACK" Bundle.steD A U H ∧ vx_Zq Bundle.tN "SUPPRESSED_SENTINEL" Bundle.listD A U H ∧ (∀ q ∈ xCs, va_Nw (.castable q q) U) ∧ (∀ q ∈ xDs, va_Nw (.declares (Bundle.initS q)) U) ∧ (∀ q ∈ xSt, ∃ a : Nat, vk_R RX6 q.1 q.2 a U)
theorem xP.next {A B : Nat → Prop} {s U : State} {H H1 : Heap} (h : xP A s H) (hW : s.WarmedH U.vm) (hAB : ∀ q, B q → A q) (hq : ∀ a : Nat, a < H.size → ¬ A a → H1[a]? = H[a]?) : xP B U H1 := by
  obtain ⟨h1, h2, h3, h4, h5⟩ := h
  refine ⟨((h1.kept hq).moved hW.alike).narrow hAB, ((h2.kept hq).moved hW.alike).narrow hAB, fun q m => (h3 q m).warmC hW, fun q m => (h4 q m).warmD hW, fun q m => ?_⟩
  obtain ⟨a, ha⟩ := h5 q m
  exact ⟨a, ha.warm hW⟩
theorem xP.blind {A : Nat → Prop} {s : State} {H : Heap} {g : JFrame} {mk : MethodId} {a : Array Value} (h : xP A s H) : xP A (s.calling g mk a) H := by
  obtain ⟨h1, h2, h3, h4, h5⟩ := h
  refine ⟨vx_Zq.moved (u := s) (U := s.calling g mk a) (Vm.Alike.refl s.vm) h1, vx_Zq.moved (u := s) (U := s.calling g mk a) (Vm.Alike.refl s.vm) h2, fun q m => (h3 q m).same rfl rfl, fun q m => (h4 q m).same rfl rfl, fun q m => ?_⟩
  obtain ⟨a, ha⟩ := h5 q m
  exact ⟨a, vk_R.same (u := s) rfl ha⟩
def xBad (X : String) : List Cond := [.castable X X, .declares (Bundle.initS "java/lang/RuntimeException"), .declares (Bundle.initS "java/lang/Exception"), .declares (Bundle.initS "java/lang/Throwable")]
theorem xP.bad {A : Nat → Prop} {s : State} {H : Heap} {args : Array Value} {X : String} (h : xP A s H) (hX : X ∈ xCs) : ∀ w ∈ xBad X, w.before args s = true := by
  obtain ⟨h1, h2, h3, h4, h5⟩ := h
  exact vx_c (va_Nw.use rfl (h3 X hX)) (vx_c (va_Nw.use rfl (h4 _ (by decide +kernel))) (vx_c (va_Nw.use rfl (h4 _ (by decide +kernel))) (vx_c (va_Nw.use rfl (h4 _ (by decide +kernel))) vx_n)))
def xV (ic : Nat) (X : String) : List Cond := vx_atS RX6 ic X ["java/lang/RuntimeException", "java/lang/Exception"]
theorem xb_72 : ∀ w ∈ (xV 72 "java/lang/IllegalArgumentException").filter (fun w => !goodWord w), w ∈ xBad "java/lang/IllegalArgumentException" := by decide +kernel
theorem xb_83 : ∀ w ∈ (xV 83 "java/lang/IllegalStateException").filter (fun w => !goodWord w), w ∈ xBad "java/lang/IllegalStateException" := by decide +kernel
theorem xb_194 : ∀ w ∈ (xV 194 "java/lang/IndexOutOfBoundsException").filter (fun w => !goodWord w), w ∈ xBad "java/lang/IndexOutOfBoundsException" := by decide +kernel
theorem xo_72 : ∀ w ∈ xV 72 "java/lang/IllegalArgumentException", vx_ot w = true := by decide +kernel
theorem xo_83 : ∀ w ∈ xV 83 "java/lang/IllegalStateException", vx_ot w = true := by decide +kernel
theorem xo_194 : ∀ w ∈ xV 194 "java/lang/IndexOutOfBoundsException", vx_ot w = true := by decide +kernel
/-- a class of exceptions that SegmentMap throws, with its places -/
def xK (ik ic : Nat) (X : String) : Prop := X ∈ xCs ∧ Bundle.fit X = true ∧ Cond.classLink RX6 ik X ∈ WA ∧ Cond.initialized X ∈ WA ∧ (∀ w ∈ (xV ic X).filter goodWord, w ∈ WA) ∧ (∀ w ∈ (xV ic X).filter (fun w => !goodWord w), w ∈ xBad X) ∧ (∀ w ∈ xV ic X, vx_ot w = true)
def cPx (G : cG) (sz : Nat) (S : CS) (D : CD) (av : List Value) : Array Value → State → Prop := va_Pc av (fun U => (U.heap.size = sz ∧ va_P G.1 vwCl (cW G S D) U.heap ∧ va_K G.1 vwCl (cTy G) U ∧ va_D (fun _ => True) (cW G S D) ∧ cN U) ∧ xP (cA G S sz) U U.heap)
theorem xBlind {G : cG} {sz : Nat} {S : CS} {D : CD} {av : List Value} : FrameBlind (cPx G sz S D av) := fun a U g mk q => by
  obtain ⟨q0, q1, q2⟩ := q
  exact ⟨q0, (cBlind a U g mk ⟨q0, q1⟩).2, q2.blind⟩
def xX (G : cG) (S : CS) (D2 : CD) (E : String) (sz : Nat) : String → State → State → Prop := vx_X (fun (_ : Unit) => True) (fun E' _ t => E' = E ∧ cIs G S D2 t) (cA G S sz)
def xQV : Array Value → State → Outcome → State → Prop := va_Qv (fun (_ : Unit) => False) (fun _ _ => True) (fun _ => False)
def xQI : Array Value → State → Outcome → State → Prop := va_Qi (fun _ (_ : Unit) => False) (fun _ _ => True) (fun _ => False)
def cMTV (l : Launch) (y : MethodName) (ws : List Cond) (rm : Room) (G : cG) (S : CS) (av : List Value) (D D2 : CD) (E : String) : Prop := ∀ sz : Nat, vx_Met l y ws rm (cPx G sz S D av) xQV (xX G S D2 E sz) 1 6 (cA G S sz)
def cMTI (l : Launch) (y : MethodName) (ws : List Cond) (rm : Room) (G : cG) (S : CS) (av : List Value) (D D2 : CD) (E : String) : Prop := ∀ sz : Nat, vx_Met l y ws rm (cPx G sz S D av) xQI (xX G S D2 E sz) 1 6 (cA G S sz)
theorem cBodyT {l : Launch} {y : MethodName} {ws ws' : List Cond} {rm : Room} {cc : ByteArray} {maxL : Nat} {ret : Option FieldType} {own : String} {G : cG} {S : CS} {av : List Value} {D D2 : CD} {E : String} {Qc : Array Value → State → Outcome → State → Prop} (hy : plainName y.cls = true) (hR : y.cls = own) (hw : ws = Cond.code y cc maxL ret :: ws')
    (body : ∀ (sz : Nat) (p : Program) (e : Env) (s : State) (m : MethodId) (below : List Frame) (meth : Method) (c : Code), cC own p s m av.toArray meth c ws cc maxL ret G S sz → va_P G.1 vwCl (cW G S D) s.heap → xP (cA G S sz) s s.heap → (∀ x ∈ c.exceptionTable.toList, False) → W p l e (headSpec ws rm).room s m av.toArray below meth c s.heap [] 0 0 (vx_MQ below Qc (xX G S D2 E sz) av.toArray s 1 6 (cA G S sz)) (entryFrame m av.toArray maxL)) :
    ∀ sz : Nat, vx_Met l y ws rm (cPx G sz S D av) Qc (xX G S D2 E sz) 1 6 (cA G S sz) := by
  intro sz
  refine vx_ofW (cc := cc) (maxL := maxL) (ret := ret) hy hw ?_
  intro p e s m args below meth c s₁ B hml hno hv
  obtain ⟨rfl, ⟨hsz, hP, hK, hD0, hN⟩, hX⟩ := hv
  have hown : s.vm.findClass own = some m.cls := by rw [← hR]; exact findClass_of_methodNamed B.named
  refine body sz p e s m below meth c ⟨B.exec, B.bytes, B.returns, atoms_spec (ws := ws) B.pre, hown, B.notSynchronized, hml, hK, fun D2 => ?_, hsz, hN⟩ hP hX hno
  rw [← cA_eq G S D2]
  exact (cD_any D2 hD0).self
section XROWS
variable {p : Program} {l : Launch} {e : Env} {R : Room} {s : State} {m : MethodId} {args : Array Value} {below : List Frame} {meth : Method} {c : Code} {H : Heap} {locs : List Loc} {Q : State → Prop}
variable {pc : Nat} {ls : Array Slot} {rest st0 : List Value} {ws ws' Ts : List Cond} {cc bytes : ByteArray} {maxL nL index n sz : Nat} {ret : Option FieldType} {own : String} {G : cG} {S : CS} {D D2 : CD} {y : MethodName} {rm : Room} {As av : List Value} {E : String}
variable {Qc : Array Value → State → Outcome → State → Prop}
theorem x_pre (hC : cC own p s m args meth c Ts cc nL ret G S sz) (hP : va_P G.1 vwCl (cW G S D) H) (hS : va_S (cA G S sz) s.heap H locs) (hX : xP (cA G S sz) s s.heap) (U : State) (hU : U.heap = H) (hW : s.WarmedH U.vm) : cPx G H.size S D av av.toArray U := by
  have h1 : cPc G H.size S D av av.toArray U := c_pre hC hP U hU hW
  refine ⟨h1.1, h1.2, ?_⟩
  rw [hU]
  exact hX.next hW (c_sub hC hS) (fun a ha hn => hS.2.1 a ha hn)
/-- thrown out of here, the world as it stands -/
theorem x_out (hC : cC own p s m args meth c Ts cc nL ret G S sz) (hP : va_P G.1 vwCl (cW G S D) H) (hS : va_S (cA G S sz) s.heap H locs) (hno : ∀ x ∈ c.exceptionTable.toList, False) {ce : Cell} {q : Addr} (hce : H[q]? = some ce) (hv : ce.vm = .none) (hcl : s.vm.findClass E = some ce.cls) : vx_W p l e R s m args below meth c H locs (0 + 1) (0 + 6) (vx_MQ below Qc (xX G S D E sz) args s 1 6 (cA G S sz)) (F0 m pc ls rest) q := by
  obtain ⟨hx, hb, hr, hts, hown, hlocks, hml, hK, hD, hsz, hN⟩ := hC
  exact vx_out (fun x hx => (hno x hx).elim) hlocks hce hv hcl (fun t ht hW => ⟨(), trivial, ⟨rfl, by rw [ht]; exact hP, va_K.moved hW hK⟩, hS.F ht⟩) hS.2.2 (Nat.le_refl _) (Nat.le_refl _)
theorem c_TV {C : String} {T : u_T} {N ci a : Nat} {fs : List Value} (hC : cC own p s m args meth c Ts cc nL ret G S sz) (hP : va_P G.1 vwCl (cW G S D) H) (hS : va_S (cA G S sz) s.heap H locs) (hX : xP (cA G S sz) s s.heap) (hno : ∀ x ∈ c.exceptionTable.toList, False) (hm : a ∈ S.1) (hE : cE G S D a = .inr (ci, fs)) (hc : vwCl[ci]? = some (C, T, N)) {ret' : Option FieldType} (hM : cMTV l y ws rm G S (.ref a :: As) D D2 E) (cw : CallW R s args own C index y bytes maxL ret' ws rm 1 6 n) (hn : As.length = n) (hsize : ls.size = nL) (hst : st0 = As.reverse ++ .ref a :: rest) (hr8 : (rest.map fun v => v.category).sum ≤ 8) (hR : 0 + 1 ≤ R.cells ∧ 0 + 6 ≤ R.slots) (hdg : decode cc pc = .ok (.invokevirtual index, 3)) : W p l e R s m args below meth c H locs 0 0 (vx_MQ below Qc (xX G S D2 E sz) args s 1 6 (cA G S sz)) (F0 m pc ls st0) := by
  refine vx_callv (vx_runV (As := As) (rest := rest) (g := F0 m pc ls st0) (c_fix hC) (hM H.size) cw ⟨xBlind, c_rec hC hP hm hE hc, fun U hU hW => x_pre (av := .ref a :: As) hC hP hS hX U hU hW⟩ rfl hn hsize hst (lv_room hr8) hdg hR) hS (fun q _ h => h.elim) (c_sub hC hS) (fun q _ h => c_sub hC hS q h) (fun E' ce q9 u t H1 locs1 ht hvm _ hB hz1 hk1 hS1 hce hcv hcl => ?_) (fun u t H1 locs1 ht hvm hf hB hz1 hk1 hS1 => hf.elim)
  obtain ⟨rfl, hI⟩ := hB
  exact x_out hC (by rw [← ht]; exact hI.1) hS1 hno hce hcv hcl
/-- 'throw new X("text")' -/
theorem c_throw (hl : l.stackTraces = false) (hC : cC RX6 p s m args meth c Ts cc nL ret G S sz) (hP : va_P G.1 vwCl (cW G S D) H) (hS : va_S (cA G S sz) s.heap H locs) (hX : xP (cA G S sz) s s.heap) (hno : ∀ x ∈ c.exceptionTable.toList, False) (hin : ∀ w ∈ WA, w ∈ Ts) {ik ic is : Nat} {text : String} (hK : xK ik ic E) (htx : (is, text) ∈ xSt) (hsize : ls.size = nL) (hR : 5 < R.frames ∧ (rest.map fun v => v.category).sum + 82 ≤ R.locals ∧ 0 + 1 ≤ R.cells ∧ 0 + 6 ≤ R.slots)
    (d0 : decode cc pc = .ok (.new ik, 3)) (d3 : decode cc (pc + 3) = .ok (.dup, 1)) (d4 : decode cc (pc + 4) = .ok (.ldc is, 2)) (d6 : decode cc (pc + 6) = .ok (.invokespecial ic, 3)) (d9 : decode cc (pc + 9) = .ok (.athrow, 1)) : W p l e R s m args below meth c H locs 0 0 (vx_MQ below Qc (xX G S D E sz) args s 1 6 (cA G S sz)) (F0 m pc ls rest) := by
  have hC0 := hC
  obtain ⟨hx, hb, hr, hts, hown, hlocks, hml, hKK, hD, hsz, hN⟩ := hC
  obtain ⟨k1, k2, k3, k4, k5, k6, k7⟩ := hK
  obtain ⟨sa, hsa⟩ := hX.2.2.2.2 _ htx
  have hA : ∀ (k : Nat) (x : Nat × va_E), (cW G S D)[k]? = some x → cA G S sz x.1 := (hD D).2
  refine vx_throwS (A := cA G S sz) (sa := sa) (text := text) (names := ["java/lang/RuntimeException", "java/lang/Exception"]) hx hb hl hown k2 (by decide +kernel) (hts _ (hin _ k3)) (hts _ (hin _ k4)) hsa (vx_hat (fun w hw => hts _ (hin _ (k5 w hw))) k6 (hX.bad k1)) ?_ hX.1 hX.2.1 hS (hsize.trans hml.symm) d0 d3 d4 d6 d9 (fun x hx => (hno x hx).elim) hR.1 hR.2.1 hR.2.2.1 hR.2.2.2 hlocks ?_ hS.2.2 (Nat.le_refl _) (Nat.le_refl _)
  · intro w hw
    rcases List.mem_cons.mp hw with rfl | hw
    · rfl
    · rcases List.mem_cons.mp hw with rfl | hw
      · rfl
      · exact k7 w hw
  · intro t hW hz hk
    refine ⟨(), trivial, ⟨rfl, hP.kept (fun k x hx => hk x.1 ((hP k x hx).lt)), va_K.moved hW hKK⟩, ?_⟩
    exact ⟨Nat.le_trans hS.1 hz, fun q h1 h2 => by rw [hk q (Nat.lt_of_lt_of_le h1 hS.1)]; exact hS.2.1 q h1 h2⟩
end XROWS
theorem xk_72 : xK 68 72 "java/lang/IllegalArgumentException" := ⟨by decide +kernel, by decide +kernel, wa_67, wa_68, hWV72, xb_72, xo_72⟩
theorem xk_83 : xK 79 83 "java/lang/IllegalStateException" := ⟨by decide +kernel, by decide +kernel, wa_70, wa_71, hWV83, xb_83, xo_83⟩
theorem xk_194 : xK 190 194 "java/lang/IndexOutOfBoundsException" := ⟨by decide +kernel, by decide +kernel, wa_122, wa_123, hWV194, xb_194, xo_194⟩
