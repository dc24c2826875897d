/-! The pool grows: rows for methods that make objects; contracts cMK (they tell how many cells are new: the heap's size exactly). -/
def sAdd (S : CS) (q kd len : Nat) : CS := (S.1 ++ [q], va_up S.2.1 q kd, va_up S.2.2.1 q (fun _ => none), va_up S.2.2.2 q len)
def sRef (S : CS) (a k v : Nat) : CS := (S.1, S.2.1, va_up S.2.2.1 a (va_up (S.2.2.1 a) k (some v)), S.2.2.2)
def dNew (D : CD) (q : Nat) : CD := (va_up D.1 q (fun _ => 0), va_up D.2.1 q (fun _ => 0), va_up D.2.2.1 q (fun _ => 0), va_up D.2.2.2 q (fun _ => none))
theorem cE_cong {G : cG} {S S2 : CS} {D D2 : CD} {b : Nat} (k1 : S.2.1 b = S2.2.1 b) (k2 : S.2.2.1 b = S2.2.2.1 b) (k3 : S.2.2.2 b = S2.2.2.2 b) (h1 : D.1 b = D2.1 b) (h2 : D.2.1 b = D2.2.1 b) (h3 : D.2.2.1 b = D2.2.2.1 b) (h4 : D.2.2.2 b = D2.2.2.2 b) : cE G S D b = cE G S2 D2 b := by
  simp only [cE, cX0, cX1, cX2, cX3, cX4, cX5, cX6, cX7, k1, k2, k3, h1, h2, h3, h4]
theorem cA_mem {G : cG} {S : CS} {sz q : Nat} : cA G S sz q ↔ (q ∈ S.1 ∨ sz ≤ q) := by
  constructor
  · rintro (⟨k, e, h⟩ | h)
    · exact Or.inl (by
        have := List.mem_of_getElem? h
        obtain ⟨a, ha, he⟩ := List.mem_map.mp this
        cases he; exact ha)
    · exact Or.inr h
  · rintro (h | h)
    · obtain ⟨k, hk⟩ := cget (G := G) (D := cD0) h rfl
      exact Or.inl ⟨k, _, hk⟩
    · exact Or.inr h
theorem cA_mono {G : cG} {S S2 : CS} {sz : Nat} (h : ∀ q ∈ S.1, q ∈ S2.1 ∨ sz ≤ q) : ∀ q, cA G S sz q → cA G S2 sz q := fun q hq => by
  rw [cA_mem] at hq ⊢
  rcases hq with hq | hq
  · exact h q hq
  · exact Or.inr hq
theorem va_S.mono {A B : Nat → Prop} {H0 H : Heap} {locs : List Loc} (h : va_S A H0 H locs) (hAB : ∀ q, A q → B q) : va_S B H0 H locs := ⟨h.1, fun q h1 h2 => h.2.1 q h1 (fun z => h2 (hAB q z)), fun z hz => hAB _ (h.2.2 z hz)⟩
theorem cW_lt {G : cG} {S : CS} {D : CD} {H : Heap} (hP : va_P G.1 vwCl (cW G S D) H) {a : Nat} (h : a ∈ S.1) : a < H.size := by
  obtain ⟨k, hk⟩ := cget (G := G) (D := D) h rfl
  exact (hP k _ hk).lt
theorem sAdd_W {G : cG} {S : CS} {D : CD} {q kd len : Nat} (hq : q ∉ S.1) : cW G S D ++ [(q, cE G (sAdd S q kd len) (dNew D q) q)] = cW G (sAdd S q kd len) (dNew D q) := by
  unfold cW
  rw [va_pl_push hq]
  refine va_pl_congr (fun a => ?_)
  by_cases h : a = q
  · subst h; rw [va_up_self]
  · rw [va_up_ne _ _ h]
    exact cE_cong (va_up_ne _ _ h).symm (va_up_ne _ _ h).symm (va_up_ne _ _ h).symm (va_up_ne _ _ h).symm (va_up_ne _ _ h).symm (va_up_ne _ _ h).symm (va_up_ne _ _ h).symm
theorem cC_S {own : String} {p : Program} {s : State} {m : MethodId} {args : Array Value} {meth : Method} {c : Code} {ws : List Cond} {cc : ByteArray} {maxL : Nat} {ret : Option FieldType} {G : cG} {S S2 : CS} {sz : Nat} (h : cC own p s m args meth c ws cc maxL ret G S sz) {A : Nat → Prop} (hD : ∃ D, va_D A (cW G S2 D)) : cC own p s m args meth c ws cc maxL ret G S2 sz := by
  obtain ⟨a1, a2, a3, a4, a5, a6, a7, a8, a9, a10, a11⟩ := h
  obtain ⟨D, hD⟩ := hD
  refine ⟨a1, a2, a3, a4, a5, a6, a7, a8, fun D2 => ?_, a10, a11⟩
  rw [← cA_eq G S2 D2]
  exact (cD_any D2 hD).self
theorem cset2 {G : cG} {S S2 : CS} {D D2 : CD} {A : Nat → Prop} {a k : Nat} {x y : va_E} (hD : va_D A (cW G S D)) (hm : a ∈ S.1) (hE : cE G S D a = x) (hk : (cW G S D)[k]? = some (a, x)) (h0 : S2.1 = S.1) (h1 : y = cE G S2 D2 a) (h2 : ∀ b, b ≠ a → cE G S D b = cE G S2 D2 b) : (cW G S D).set k (a, y) = cW G S2 D2 := by
  have h := va_pl_set (X := []) (f := cE G S D) (e := y) hD hm (by rw [hE]; exact hk)
  refine h.trans ?_
  show va_pl S.1 _ = va_pl S2.1 _
  rw [h0]
  refine va_pl_congr (fun b => ?_)
  by_cases hb : b = a
  · subst hb; rw [va_up, if_pos rfl]; exact h1
  · rw [va_up, if_neg hb]; exact h2 b hb
/-- how the pool has grown since the entry -/
def cGr (G : cG) (S S2 : CS) (sz : Nat) : Prop := (∀ q ∈ S.1, q ∈ S2.1) ∧ (∀ q ∈ S2.1, q ∈ S.1 ∨ sz ≤ q) ∧ ∀ D, va_D (fun _ => True) (cW G S2 D)
def cMK (l : Launch) (y : MethodName) (ws : List Cond) (rm : Room) (G : cG) (S : CS) (av : List Value) (D : CD) (k mc ms : Nat) (Rl : Nat → CS → CD → Prop) : Prop := ∀ sz : Nat, Met l y ws rm (cPc G sz S D av) (va_Qv (fun (u : CS × CD) => Rl sz u.1 u.2 ∧ cGr G S u.1 sz) (fun u t => cIs G u.1 u.2 t ∧ t.heap.size = sz + k) (cA G S sz)) mc ms (cA G S sz)
theorem cBodyK {l : Launch} {y : MethodName} {ws ws' : List Cond} {rm : Room} {cc : ByteArray} {maxL : Nat} {ret : Option FieldType} {own : String} {G : cG} {S : CS} {av : List Value} {D : CD} {mc ms : Nat} {Qc : Nat → Array Value → State → Outcome → State → Prop} (hy : plainName y.cls = true) (hR : y.cls = own) (hw : ws = Cond.code y cc maxL ret :: ws')
    (body : ∀ (sz : Nat) (p : Program) (e : Env) (s : State) (m : MethodId) (below : List Frame) (meth : Method) (c : Code), cC own p s m av.toArray meth c ws cc maxL ret G S sz → va_P G.1 vwCl (cW G S D) s.heap → meth.name = y.name → W p l e (headSpec ws rm).room s m av.toArray below meth c s.heap [] 0 0 (MQ below (Qc sz) av.toArray s mc ms (cA G S sz)) (entryFrame m av.toArray maxL)) :
    ∀ sz : Nat, Met l y ws rm (cPc G sz S D av) (Qc sz) mc ms (cA G S sz) := by
  intro sz
  refine Met.ofW (cc := cc) (maxL := maxL) (ret := ret) hy hw ?_
  intro p e s m args below meth c s₁ B hml hv
  obtain ⟨rfl, hsz, hP, hK, hD0, hN⟩ := hv
  have hown : s.vm.findClass own = some m.cls := by rw [← hR]; exact findClass_of_methodNamed B.named
  refine body sz p e s m below meth c ⟨B.exec, B.bytes, B.returns, atoms_spec (ws := ws) B.pre, hown, B.notSynchronized, hml, hK, fun D2 => ?_, hsz, hN⟩ hP (name_of_methodNamed B.named B.method).1
  rw [← cA_eq G S D2]
  exact (cD_any D2 hD0).self
section NROWS
variable {p : Program} {l : Launch} {e : Env} {R : Room} {s : State} {m : MethodId} {args : Array Value} {below : List Frame} {meth : Method} {c : Code} {H : Heap} {locs : List Loc} {Q : State → Prop}
variable {pc : Nat} {ls : Array Slot} {rest st0 : List Value} {ws ws' Ts : List Cond} {cc bytes : ByteArray} {maxL nL index n sz h ce sl : Nat} {ret : Option FieldType} {own : String} {G : cG} {S S2 : CS} {D D2 : CD} {y : MethodName} {rm : Room} {As av : List Value}
theorem n_obj {C : String} {T : u_T} {N ci kd : Nat} {fs : List Value} (hC : cC own p s m args meth c Ts cc nL ret G S sz) (hP : va_P G.1 vwCl (cW G S D) H) (hS : va_S (cA G S sz) s.heap H locs) (hz : H.size = h) (hin : ∀ w ∈ u_ws C T N, w ∈ Ts) (ty : Nat → FieldType) (hty : ∀ k, k < N → parseFieldDescriptor (T k).2.2.1 = some (ty k)) (hcl : (Cond.classLink own index C).before args s = true) (hinst : (Cond.instantiable C N).before args s = true) (hini : (Cond.initialized C).before args s = true) (hc : vwCl[ci]? = some (C, T, N)) (hE : cE G (sAdd S h kd 0) (dNew D h) h = .inr (ci, fs)) (hfs : ∀ j, j < N → defaultValue (ty j) = vp_V fs j) (hce : ce + 1 ≤ R.cells) (hsl : sl + N ≤ R.slots) (hdg : decode cc pc = .ok (.new index, 3))
    (kk : ∀ H1 : Heap, va_P G.1 vwCl (cW G (sAdd S h kd 0) (dNew D h)) H1 → H1.size = h + 1 → va_S (cA G (sAdd S h kd 0) sz) s.heap H1 locs → cC own p s m args meth c Ts cc nL ret G (sAdd S h kd 0) sz → W p l e R s m args below meth c H1 locs (ce + 1) (sl + N) Q (F0 m (pc + 3) ls (.ref h :: rest))) : W p l e R s m args below meth c H locs ce sl Q (F0 m pc ls rest) := by
  have hC0 := hC
  obtain ⟨hx, hb, hr, hts, hown, hlocks, hml, hK, hD, hsz, hN⟩ := hC
  have hKn := hK.1 ci _ hc
  have hq : h ∉ S.1 := fun w => by have := cW_lt hP w; omega
  refine W.newcK hx hb hown hcl hinst hini rfl hdg hce hsl hKn.2.1 hz fun H1 kC hkC e1 z1 o1 => ?_
  have hk : ∀ (k : Nat) (x : Nat × va_E), (cW G S D)[k]? = some x → H1[x.1]? = H[x.1]? := fun k x hx => o1 x.1 (by have := (hP k x hx).lt; omega)
  have hA : cA G S sz h := cA_mem.mpr (Or.inr (by have := hS.1; omega))
  have hP1 : va_P G.1 vwCl (cW G S D ++ [(h, cE G (sAdd S h kd 0) (dNew D h) h)]) H1 := (hP.kept hk).app (fun k x hx => by
    have hz1 : k < 1 := (List.getElem?_eq_some_iff.mp hx).1
    rw [show k = 0 by omega] at hx
    cases hx
    rw [hE]
    exact ⟨_, hc, (u_born ty hts hin hKn hkC e1 hty).to hfs⟩)
  have hD1 : va_D (cA G S sz) (cW G S D ++ [(h, cE G (sAdd S h kd 0) (dNew D h) h)]) := (hD D).push hP hz.symm hA
  rw [sAdd_W hq] at hP1 hD1
  refine kk H1 hP1 z1 ?_ (cC_S hC0 ⟨_, hD1⟩)
  refine va_S.mono (A := cA G S sz) ⟨Nat.le_trans hS.1 (by omega), fun x h1 h2 => (o1 x (by have := hS.1; omega)).trans (hS.2.1 x h1 h2), hS.2.2⟩ (cA_mono (fun q hq => Or.inl (List.mem_append_left _ hq)))
theorem n_iarr (hC : cC own p s m args meth c Ts cc nL ret G S sz) (hP : va_P G.1 vwCl (cW G S D) H) (hS : va_S (cA G S sz) s.heap H locs) (hz : H.size = h) (harr : (Cond.arrayClass .int).before args s = true) {n : Int32} {N' : Nat} (hn : ¬ n < 0) (hN' : n.toNatClampNeg = N') (hbytes : N' * 4 ≤ 536870912) (hce : ce + 1 ≤ R.cells) (hsl : sl + N' ≤ R.slots) (hdg : decode cc pc = .ok (.newarray .int, 2))
    (kk : ∀ H1 : Heap, va_P G.1 vwCl (cW G (sAdd S h 8 N') (dNew D h)) H1 → H1.size = h + 1 → va_S (cA G (sAdd S h 8 N') sz) s.heap H1 locs → cC own p s m args meth c Ts cc nL ret G (sAdd S h 8 N') sz → W p l e R s m args below meth c H1 locs (ce + 1) (sl + N') Q (F0 m (pc + 2) ls (.ref h :: rest))) : W p l e R s m args below meth c H locs ce sl Q (F0 m pc ls (.int n :: rest)) := by
  have hC0 := hC
  obtain ⟨hx, hb, hr, hts, hown, hlocks, hml, hK, hD, hsz, hN⟩ := hC
  have hq : h ∉ S.1 := fun w => by have := cW_lt hP w; omega
  refine va_newaK (atype := .int) hx hb harr rfl hdg rfl hn hN' hbytes hce hsl hz fun H1 cA1 e1 z1 o1 hAr hNm => ?_
  have hcA : cA1 = ccI G := by
    have h1 : s.vm.findClass ("[" ++ (FieldType.int).toString) = some (ccI G) := (hK.2 0 (ccI G, .int) rfl).2
    exact Option.some.inj (hNm.symm.trans h1)
  subst hcA
  have hk : ∀ (k : Nat) (x : Nat × va_E), (cW G S D)[k]? = some x → H1[x.1]? = H[x.1]? := fun k x hx => o1 x.1 (by have := (hP k x hx).lt; omega)
  have hA : cA G S sz h := cA_mem.mpr (Or.inr (by have := hS.1; omega))
  have hE : cE G (sAdd S h 8 N') (dNew D h) h = .inl (ccI G, N', .inl (fun _ => 0)) := by
    rw [cE_8 (va_up_self _ _ _)]
    simp only [sAdd, dNew, va_up_self]
  have hP1 : va_P G.1 vwCl (cW G S D ++ [(h, cE G (sAdd S h 8 N') (dNew D h) h)]) H1 := (hP.kept hk).app (fun k x hx => by
    have hz1 : k < 1 := (List.getElem?_eq_some_iff.mp hx).1
    rw [show k = 0 by omega] at hx
    cases hx
    rw [hE]
    show H1[h]? = some (vp_cell _ _)
    rw [vp_cell_i]
    exact e1)
  have hD1 : va_D (cA G S sz) (cW G S D ++ [(h, cE G (sAdd S h 8 N') (dNew D h) h)]) := (hD D).push hP hz.symm hA
  rw [sAdd_W hq] at hP1 hD1
  refine kk H1 hP1 z1 ?_ (cC_S hC0 ⟨_, hD1⟩)
  refine va_S.mono (A := cA G S sz) ⟨Nat.le_trans hS.1 (by omega), fun x h1 h2 => (o1 x (by have := hS.1; omega)).trans (hS.2.1 x h1 h2), hS.2.2⟩ (cA_mono (fun q hq => Or.inl (List.mem_append_left _ hq)))
theorem n_qarr {C : String} {t0 kd : Nat} {cA0 : ClassId} (hC : cC own p s m args meth c Ts cc nL ret G S sz) (hP : va_P G.1 vwCl (cW G S D) H) (hS : va_S (cA G S sz) s.heap H locs) (hz : H.size = h) (hcl : (Cond.classLink own index C).before args s = true) (hover : (Cond.arrayOver (.object C)).before args s = true) (ht : (cTy G)[t0]? = some (cA0, .object C)) (hE : ∀ (S : CS) (D : CD) (a : Nat), S.2.1 a = kd → cE G S D a = .inl (cA0, S.2.2.2 a, .inr (.inr (.inr (.inr (D.2.2.2 a)))))) {n : Int32} {N' : Nat} (hn : ¬ n < 0) (hN' : n.toNatClampNeg = N') (hbytes : N' * 4 ≤ 536870912) (hce : ce + 1 ≤ R.cells) (hsl : sl + N' ≤ R.slots) (hdg : decode cc pc = .ok (.anewarray index, 3))
    (kk : ∀ H1 : Heap, va_P G.1 vwCl (cW G (sAdd S h kd N') (dNew D h)) H1 → H1.size = h + 1 → va_S (cA G (sAdd S h kd N') sz) s.heap H1 locs → cC own p s m args meth c Ts cc nL ret G (sAdd S h kd N') sz → W p l e R s m args below meth c H1 locs (ce + 1) (sl + N') Q (F0 m (pc + 3) ls (.ref h :: rest))) : W p l e R s m args below meth c H locs ce sl Q (F0 m pc ls (.int n :: rest)) := by
  have hC0 := hC
  obtain ⟨hx, hb, hr, hts, hown, hlocks, hml, hK, hD, hsz, hN⟩ := hC
  have hq : h ∉ S.1 := fun w => by have := cW_lt hP w; omega
  subst hN'
  refine W.anew hx hb hown hcl hover rfl hdg rfl hn hbytes hce hsl fun cA1 kA comp f1 f2 f3 f4 => ?_
  have hcA : cA1 = cA0 := by
    obtain ⟨kA', comp', -, -, -, h1⟩ := (hK.2 t0 _ ht).2
    exact Option.some.inj (f1.symm.trans h1)
  subst hcA
  generalize hH1 : H.push ({ cls := cA1, slots := Array.replicate n.toNatClampNeg .null, vm := .none } : Cell) = H1
  have z1 : H1.size = h + 1 := by rw [← hH1, Array.size_push, hz]
  have e1 : H1[h]? = some (arrV cA1 n.toNatClampNeg (fun _ => .null)) := by rw [← hH1, ← hz, Array.getElem?_push_size, ← arrV_new]
  have o1 : ∀ q : Nat, q < h → H1[q]? = H[q]? := fun q hq => by rw [← hH1, Array.getElem?_push, if_neg (by omega)]
  have hk : ∀ (k : Nat) (x : Nat × va_E), (cW G S D)[k]? = some x → H1[x.1]? = H[x.1]? := fun k x hx => o1 x.1 (by have := (hP k x hx).lt; omega)
  have hA : cA G S sz h := cA_mem.mpr (Or.inr (by have := hS.1; omega))
  have hE1 : cE G (sAdd S h kd n.toNatClampNeg) (dNew D h) h = .inl (cA1, n.toNatClampNeg, .inr (.inr (.inr (.inr (fun _ => none))))) := by
    rw [hE _ _ _ (va_up_self _ _ _)]
    simp only [sAdd, dNew, va_up_self]
  have hP1 : va_P G.1 vwCl (cW G S D ++ [(h, cE G (sAdd S h kd n.toNatClampNeg) (dNew D h) h)]) H1 := (hP.kept hk).app (fun k x hx => by
    have hz1 : k < 1 := (List.getElem?_eq_some_iff.mp hx).1
    rw [show k = 0 by omega] at hx
    cases hx
    rw [hE1]
    show H1[h]? = some (vp_cell _ _)
    rw [vp_cell_q]
    exact e1)
  have hD1 : va_D (cA G S sz) (cW G S D ++ [(h, cE G (sAdd S h kd n.toNatClampNeg) (dNew D h) h)]) := (hD D).push hP hz.symm hA
  rw [sAdd_W hq] at hP1 hD1
  rw [hz]
  refine kk H1 hP1 z1 ?_ (cC_S hC0 ⟨_, hD1⟩)
  refine va_S.mono (A := cA G S sz) ⟨Nat.le_trans hS.1 (by omega), fun x h1 h2 => (o1 x (by have := hS.1; omega)).trans (hS.2.1 x h1 h2), hS.2.2⟩ (cA_mono (fun q hq => Or.inl (List.mem_append_left _ hq)))
theorem n_get {C ref : String} {T : u_T} {N ci a : Nat} {fs : List Value} (hC : cC own p s m args meth c Ts cc nL ret G S sz) (hin : ∀ w ∈ u_ws C T N, w ∈ Ts) (hP : va_P G.1 vwCl (cW G S D) H) (hm : a ∈ S.1) (hE : cE G S D a = .inr (ci, fs)) (hc : vwCl[ci]? = some (C, T, N)) (k : Nat) (hk : k < N) (hlink : (Cond.fieldLink own index ref (T k).2.1 (T k).2.2.1).before args s = true) (hsame : (T k).1 = ref) {v : Value} (hv : fs[k]? = some v) (hdg : decode cc pc = .ok (.getfield index, 3))
    (kk : W p l e R s m args below meth c H locs ce sl Q (F0 m (pc + 3) ls (v :: rest))) : W p l e R s m args below meth c H locs ce sl Q (F0 m pc ls (.ref a :: rest)) := by
  obtain ⟨hx, hb, hr, hts, hown, hlocks, hml, hK, hD, hsz, hN⟩ := hC
  obtain ⟨q0, hq⟩ := cget hm hE
  exact va_get (D := G.1) (ci := ci) (C := C) (T := T) (N := N) hx hb hts hin hown hK hP q0 hq hc k hk hlink (fun x h => by rw [hsame] at h; exact h) hv hdg kk
/-- a field put, final in its constructor or not -/
theorem n_put {C ref : String} {T : u_T} {N ci a : Nat} {fs : List Value} (hC : cC own p s m args meth c Ts cc nL ret G S sz) (hin : ∀ w ∈ u_ws C T N, w ∈ Ts) (ty0 : Nat → FieldType) (hty : ∀ k, k < N → parseFieldDescriptor (T k).2.2.1 = some (ty0 k)) (hnm : ∀ a, a < N → ∀ b, b < N → a ≠ b → (T a).2.1 ≠ (T b).2.1) (hP : va_P G.1 vwCl (cW G S D) H) (hS : va_S (cA G S sz) s.heap H locs) (hz : H.size = h) (hm : a ∈ S.1) (hE : cE G S D a = .inr (ci, fs)) (hc : vwCl[ci]? = some (C, T, N)) (k : Nat) (hk : k < N) (hlink : (Cond.fieldLink own index ref (T k).2.1 (T k).2.2.1).before args s = true) (hsame : (T k).1 = ref) (hfin : (T k).2.2.2 = false ∨ ((T k).2.2.2 = true ∧ meth.name = "<init>" ∧ (T k).1 = own)) {ty : FieldType} {v : Value} (hd : parseFieldDescriptor (T k).2.2.1 = some ty) (hn : narrow ty v = v) (hfit : fits ty v = true) (hl : k < fs.length) (h0 : S2.1 = S.1) (h1 : .inr (ci, fs.set k v) = cE G S2 D2 a) (h2 : ∀ b, b ≠ a → cE G S D b = cE G S2 D2 b) (hdg : decode cc pc = .ok (.putfield index, 3))
    (kk : ∀ (H1 : Heap) (locs1 : List Loc), va_P G.1 vwCl (cW G S2 D2) H1 → H1.size = h → va_S (cA G S2 sz) s.heap H1 locs1 → cC own p s m args meth c Ts cc nL ret G S2 sz → W p l e R s m args below meth c H1 locs1 ce sl Q (F0 m (pc + 3) ls rest)) : W p l e R s m args below meth c H locs ce sl Q (F0 m pc ls (v :: .ref a :: rest)) := by
  have hC0 := hC
  obtain ⟨hx, hb, hr, hts, hown, hlocks, hml, hK, hD, hsz, hN⟩ := hC
  obtain ⟨q0, hq⟩ := cget hm hE
  have hw := cset2 (S2 := S2) (D2 := D2) (hD D) hm hE hq h0 h1 h2
  have hap := va_apart (own := own) hts hin ty0 hty hnm hK hc
  have hPk := hP
  obtain ⟨r, g1, cell, q1, q2, q3, q4⟩ := hP q0 _ hq
  have hr' : r = (C, T, N) := Option.some.inj (g1.symm.trans hc)
  subst hr'
  obtain ⟨hSl, hfc, kC, hkC, hkind⟩ := hK.1 ci _ hc
  obtain ⟨cf, kf, fi, f, hi, hsl⟩ := hSl k hk
  have hst := (u_facts hfc hkC (u_lays hts hin hk) hi).1
  have hA : cA G S sz a := cA_mem.mpr (Or.inl hm)
  have fin : ∀ H' : Heap, H'[a]? = some (cell.setSlot f.slot v) → H'.size = H.size → (∀ q, q ≠ a → H'[q]? = H[q]?) → W p l e R s m args below meth c H' (locs ++ [⟨a, f.slot⟩]) ce sl Q { method := m, pc := pc + 3, locals := ls, stack := rest, locked := none } := by
    intro H' e1 e2 e3
    rw [hsl] at e1 ⊢
    have hP1 := hPk.set (hD D) hq (show va_at G.1 vwCl (a, .inr (ci, fs.set k v)) H' from ⟨_, hc, t_OB.to (V := updV (vp_V fs) k v) ⟨_, e1, q2, q3, t_set q4 hap hk v⟩ (fun j _ => vp_updV_set hl v j)⟩) e3
    have hD1 := (hD D).set (e := .inr (ci, fs.set k v)) hq
    rw [hw] at hP1 hD1
    refine kk H' _ hP1 (e2.trans hz) ?_ (cC_S hC0 ⟨_, hD1⟩)
    exact va_S.mono (hS.put e2 e3 hA) (cA_mono (fun q hq => Or.inl (by rw [h0]; exact hq)))
  have hlay := hts _ (hin _ (u_in_lay hk))
  unfold u_lay at hlay
  rcases hfin with hfin | ⟨hfin, hin2, hdecl⟩
  · rw [if_neg (by rw [hfin]; decide)] at hlay
    have h6 := u_store hfc hkC hkind hlay hi hd hn hfit
    exact W.putK hx hb (f := f) ⟨hown, hlink, ⟨_, _, _, by rw [← hsame]; exact hi⟩, hst⟩ (by rw [q2]; exact h6) q1 q3 (by rw [hsl]; exact k2_hasslot (q4 k hk)) rfl rfl hdg fin
  · rw [if_pos hfin] at hlay
    have hcf : m.cls = cf := by
      obtain ⟨_, _, c', _, _, _, -, -, hf', -, -, -, hown2, -⟩ := Cond.laysFinal_spec hlay
      have e1 : c' = cf := by have := hi.symm.trans hf'; simp at this; exact this.1.symm
      rw [hdecl] at hown2
      rw [← e1]; exact Option.some.inj (hown.symm.trans hown2)
    have h6 := u_fits hfc hkC hkind (Or.inr hlay) hi hd hn hfit
    exact W.putFinK hx hb hown hlink (by rw [← hsame]; exact hi) hst hcf hin2 (by rw [q2]; exact h6) q1 q3 (by rw [hsl]; exact k2_hasslot (q4 k hk)) rfl rfl hdg fin
theorem n_objInit {idx a : Nat} (hC : cC own p s m args meth c Ts cc nL ret G S sz) (hlink : (Cond.methodLink own idx Lib.objectInit).before args s = true) (hinst : (Cond.instanceMethod Lib.objectInit).before args s = true) (hcode : (Cond.code Lib.objectInit ⟨#[0xb1]⟩ 1 none).before args s = true) (hsize : ls.size = nL) (hd : decode cc pc = .ok (.invokespecial idx, 3)) (hR : 1 ≤ R.frames ∧ (rest.map fun v => v.category).sum + 12 ≤ R.locals)
    (kk : W p l e R s m args below meth c H locs ce sl Q (F0 m (pc + 3) ls rest)) : W p l e R s m args below meth c H locs ce sl Q (F0 m pc ls (.ref a :: rest)) := by
  obtain ⟨hx, hb, hr, hts, hown, hlocks, hml, hK, hD, hsz, hN⟩ := hC
  exact W.objInit hx hb hown hlink hinst hcode rfl (hsize.trans hml.symm) rfl hd hR.1 (by show 2 * (JFrame.monitorRoom (F0 m pc ls (.ref a :: rest))) + _ + 12 ≤ _; have : 2 * (JFrame.monitorRoom (F0 m pc ls (.ref a :: rest))) = 0 := rfl; omega) kk
/-- a constructor called -/
theorem n_init {a k mc ms : Nat} {Rl : Nat → CS → CD → Prop} (hC : cC own p s m args meth c Ts cc nL ret G S sz) (hP : va_P G.1 vwCl (cW G S D) H) (hS : va_S (cA G S sz) s.heap H locs) (hz : H.size = h) (hM : cMK l y ws rm G S (.ref a :: As) D k mc ms Rl) (cw : CallB R s args own index y bytes maxL none ws rm mc ms n ∧ y.name = "<init>" ∧ (Cond.instanceMethod y).before args s = true) (hn : As.length = n) (hsize : ls.size = nL) (hst : st0 = As.reverse ++ .ref a :: rest) (hr8 : (rest.map fun v => v.category).sum ≤ 8) (hR : ce + mc ≤ R.cells ∧ sl + ms ≤ R.slots) (hdg : decode cc pc = .ok (.invokespecial index, 3))
    (kk : ∀ (S2 : CS) (D2 : CD) (H1 : Heap) (locs1 : List Loc), Rl h S2 D2 → cGr G S S2 h → va_P G.1 vwCl (cW G S2 D2) H1 → H1.size = h + k → va_S (cA G S2 sz) s.heap H1 locs1 → cC own p s m args meth c Ts cc nL ret G S2 sz → W p l e R s m args below meth c H1 locs1 (ce + mc) (sl + ms) Q (F0 m (pc + 3) ls rest)) : W p l e R s m args below meth c H locs ce sl Q (F0 m pc ls st0) := by
  subst hz
  refine va_callv (va_runI (As := As) (rest := rest) (g := F0 m pc ls st0) (c_fix hC) (hM H.size) cw ⟨cBlind, fun U hU hW => c_pre (av := .ref a :: As) hC hP U hU hW⟩ rfl hn hsize hst (lv_room hr8) hdg hR) hS (fun q _ h => c_sub hC hS q h) (c_sub hC hS) (fun u t H1 locs1 ht hvm hw hB hz1 hk1 hS1 => ?_)
  exact kk u.1 u.2 H1 locs1 hw.1 hw.2 (by rw [← ht]; exact hB.1.1) (by rw [← ht]; exact hB.2) (va_S.mono hS1 (cA_mono (fun q hq => Or.inl (hw.2.1 q hq)))) (cC_S hC ⟨cD0, hw.2.2.2 cD0⟩)
/-- a constructor's end -/
theorem n_vret {S0 : CS} {k mc ms : Nat} {Rl : Nat → CS → CD → Prop} (hC : cC own p s m args meth c Ts cc nL none G S sz) (hP : va_P G.1 vwCl (cW G S D) H) (hS : va_S (cA G S sz) s.heap H locs) (hz : H.size = sz + k) (hRl : Rl sz S D) (h1 : ∀ q ∈ S0.1, q ∈ S.1) (h2 : ∀ q ∈ S.1, q ∈ S0.1 ∨ sz ≤ q) (hdg : decode cc pc = .ok (.return_, 1)) (hm : ce ≤ mc) (hs : sl ≤ ms) : W p l e R s m args below meth c H locs ce sl (MQ below (va_Qv (fun (u : CS × CD) => Rl sz u.1 u.2 ∧ cGr G S0 u.1 sz) (fun u t => cIs G u.1 u.2 t ∧ t.heap.size = sz + k) (cA G S0 sz)) args s mc ms (cA G S0 sz)) (F0 m pc ls []) := by
  obtain ⟨hx, hb, hr, hts, hown, hlocks, hml, hK, hD, hsz, hN⟩ := hC
  have hS' := va_S.mono hS (cA_mono (S2 := S0) h2)
  exact W.widen hm hs (W.vret hx hb hr (fun t ht hW => ⟨⟨(S, D), rfl, ⟨hRl, h1, h2, fun D' => (cD_any D' (hD D)).weaken (fun _ _ _ _ => trivial)⟩, ⟨by rw [ht]; exact hP, va_K.moved hW.alike hK⟩, by rw [ht]; exact hz⟩, hS'.F ht⟩) hS'.2.2 hdg hlocks)
end NROWS
