/-! The reference's world: one object and its fifteen rows, at addresses that never change; its state MS: the numbers by their slots, the rows of ints (and booleans) by their slots, the rows of longs by theirs. -/
abbrev MS : Type := (Nat → Int32) × (Nat → Nat → Int32) × (Nat → Nat → Int64)
def mpF (M : MS) (k : Nat) (v : Int32) : MS := (va_up M.1 k v, M.2.1, M.2.2)
def mpA (M : MS) (k : Nat) (f : Nat → Int32) : MS := (M.1, va_up M.2.1 k f, M.2.2)
def mpL (M : MS) (k : Nat) (f : Nat → Int64) : MS := (M.1, M.2.1, va_up M.2.2 k f)
/-- the classes' numbers, the rows' classes, the object, the rows' addresses -/
abbrev mG : Type := va_G × (ClassId × ClassId × ClassId) × Nat × (Nat → Nat)
abbrev mO (G : mG) : Nat := G.2.2.1
abbrev mAd (G : mG) : Nat → Nat := G.2.2.2
abbrev mcI (G : mG) : ClassId := G.2.1.1
abbrev mcJ (G : mG) : ClassId := G.2.1.2.1
abbrev mcZ (G : mG) : ClassId := G.2.1.2.2
def mFs (G : mG) (M : MS) : List Value := [.int (M.1 0), .ref (mAd G 1), .ref (mAd G 2), .ref (mAd G 3), .ref (mAd G 4), .int (M.1 5), .ref (mAd G 6), .ref (mAd G 7), .ref (mAd G 8), .ref (mAd G 9), .ref (mAd G 10), .int (M.1 11), .ref (mAd G 12), .ref (mAd G 13), .ref (mAd G 14), .ref (mAd G 15), .int (M.1 16), .ref (mAd G 17), .ref (mAd G 18), .ref (mAd G 19), .ref (mAd G 20), .int (M.1 21), .int (M.1 22), .int (M.1 23)]
def mW (G : mG) (M : MS) : va_W := [(mO G, .inr (8, mFs G M)),
  (mAd G 1, .inl (mcI G, 13, .inl (M.2.1 1))), (mAd G 2, .inl (mcI G, 13, .inl (M.2.1 2))), (mAd G 3, .inl (mcI G, 13, .inl (M.2.1 3))), (mAd G 4, .inl (mcI G, 13, .inl (M.2.1 4))),
  (mAd G 6, .inl (mcJ G, 100, .inr (.inl (M.2.2 6)))), (mAd G 7, .inl (mcJ G, 100, .inr (.inl (M.2.2 7)))), (mAd G 8, .inl (mcJ G, 100, .inr (.inl (M.2.2 8)))), (mAd G 9, .inl (mcJ G, 100, .inr (.inl (M.2.2 9)))),
  (mAd G 10, .inl (mcI G, 100, .inl (M.2.1 10))),
  (mAd G 12, .inl (mcI G, 160, .inl (M.2.1 12))), (mAd G 13, .inl (mcI G, 160, .inl (M.2.1 13))), (mAd G 14, .inl (mcI G, 160, .inl (M.2.1 14))),
  (mAd G 15, .inl (mcI G, 320, .inl (M.2.1 15))), (mAd G 17, .inl (mcI G, 320, .inl (M.2.1 17))), (mAd G 18, .inl (mcI G, 320, .inl (M.2.1 18))),
  (mAd G 19, .inl (mcZ G, 320, .inl (M.2.1 19))), (mAd G 20, .inl (mcI G, 320, .inl (M.2.1 20)))]
def mTy (G : mG) : List (ClassId × FieldType) := [(mcI G, .int), (mcJ G, .long), (mcZ G, .boolean)]
def mM0 : MS := (fun _ => 0, fun _ _ => 0, fun _ _ => 0)
def mA (G : mG) (sz : Nat) : Nat → Prop := va_A (mW G mM0) sz
theorem mfst {G : mG} {M M2 : MS} {k q : Nat} {e : va_E} (h : (mW G M)[k]? = some (q, e)) : ∃ e', (mW G M2)[k]? = some (q, e') := by
  have h1 : ((mW G M2).map Prod.fst)[k]? = some q := by
    have h0 : (mW G M2).map Prod.fst = (mW G M).map Prod.fst := rfl
    rw [h0, List.getElem?_map, h]; rfl
  rw [List.getElem?_map] at h1
  cases h2 : (mW G M2)[k]? with
  | none => rw [h2] at h1; cases h1
  | some x => obtain ⟨a, b⟩ := x; rw [h2] at h1; cases h1; exact ⟨b, rfl⟩
theorem mA_eq (G : mG) (M : MS) (sz : Nat) : va_A (mW G M) sz = mA G sz := by
  funext q
  refine propext ⟨fun h => ?_, fun h => ?_⟩
  · rcases h with ⟨k, e, h⟩ | h
    · obtain ⟨e', h'⟩ := mfst (M2 := mM0) h; exact Or.inl ⟨k, e', h'⟩
    · exact Or.inr h
  · rcases h with ⟨k, e, h⟩ | h
    · obtain ⟨e', h'⟩ := mfst (M2 := M) h; exact Or.inl ⟨k, e', h'⟩
    · exact Or.inr h
theorem mD_any {G : mG} {A : Nat → Prop} {M : MS} (M2 : MS) (h : va_D A (mW G M)) : va_D A (mW G M2) := by
  refine ⟨fun i j p q h1 h2 h3 => ?_, fun k q h1 => ?_⟩
  · obtain ⟨e1, g1⟩ := mfst (M2 := M) (q := p.1) (e := p.2) h1
    obtain ⟨e2, g2⟩ := mfst (M2 := M) (q := q.1) (e := q.2) h2
    exact h.1 i j _ _ g1 g2 h3
  · obtain ⟨e1, g1⟩ := mfst (M2 := M) (q := q.1) (e := q.2) h1
    exact h.2 k (q.1, e1) g1
theorem mA_le {G : mG} {a b : Nat} (h : a ≤ b) {q : Nat} (hq : mA G b q) : mA G a q := by
  rcases hq with hq | hq
  · exact Or.inl hq
  · exact Or.inr (Nat.le_trans h hq)
def mIs (G : mG) (M : MS) (t : State) : Prop := va_P G.1 vwCl (mW G M) t.heap ∧ va_K G.1 vwCl (mTy G) t
def mPc (G : mG) (sz : Nat) (M : MS) (av : List Value) : Array Value → State → Prop := va_Pc av (fun U => U.heap.size = sz ∧ va_P G.1 vwCl (mW G M) U.heap ∧ va_K G.1 vwCl (mTy G) U ∧ va_D (fun _ => True) (mW G M))
theorem mBlind {G : mG} {sz : Nat} {M : MS} {av : List Value} : FrameBlind (mPc G sz M av) := fun a U g mk q => by
  obtain ⟨q0, q1, qP, qK, qD⟩ := q
  exact ⟨q0, q1, qP, va_K.moved (u := U) (U := U.calling g mk a) (Vm.Alike.refl U.vm) qK, qD⟩
/-- the contracts: method y, from the state M, comes to the state M2 with the answer r -/
def mMI (l : Launch) (y : MethodName) (ws : List Cond) (rm : Room) (G : mG) (av : List Value) (M M2 : MS) (r : Int32) : Prop := ∀ sz : Nat, Met l y ws rm (mPc G sz M av) (va_Qi (fun x (_ : Unit) => x = r) (fun _ t => mIs G M2 t) (mA G sz)) 0 0 (mA G sz)
def mML (l : Launch) (y : MethodName) (ws : List Cond) (rm : Room) (G : mG) (av : List Value) (M M2 : MS) (r : Int64) : Prop := ∀ sz : Nat, Met l y ws rm (mPc G sz M av) (va_Ql (fun x (_ : Unit) => x = r) (fun _ t => mIs G M2 t) (mA G sz)) 0 0 (mA G sz)
def mMV (l : Launch) (y : MethodName) (ws : List Cond) (rm : Room) (G : mG) (av : List Value) (M M2 : MS) : Prop := ∀ sz : Nat, Met l y ws rm (mPc G sz M av) (va_Qv (fun (_ : Unit) => True) (fun _ t => mIs G M2 t) (mA G sz)) 0 0 (mA G sz)
/-- what stands at a method's entry -/
def mC (p : Program) (s : State) (m : MethodId) (args : Array Value) (meth : Method) (c : Code) (ws : List Cond) (cc : ByteArray) (maxL : Nat) (ret : Option FieldType) (G : mG) (sz : Nat) : Prop :=
  p.tables.exec = Jvm.exec ∧ c.code = cc ∧ meth.sig.returnType = ret ∧ (∀ w ∈ ws, w.before args s = true) ∧ s.vm.findClass RX7 = some m.cls ∧ meth.locks = false ∧ c.maxLocals = maxL ∧ va_K G.1 vwCl (mTy G) s ∧ (∀ M : MS, va_D (mA G sz) (mW G M)) ∧ s.heap.size = sz
theorem mBody {l : Launch} {y : MethodName} {ws ws' : List Cond} {rm : Room} {cc : ByteArray} {maxL : Nat} {ret : Option FieldType} {G : mG} {av : List Value} {M : MS} {Qc : Nat → Array Value → State → Outcome → State → Prop} (hy : plainName y.cls = true) (hR : y.cls = RX7) (hw : ws = Cond.code y cc maxL ret :: ws')
    (body : ∀ (sz : Nat) (p : Program) (e : Env) (s : State) (m : MethodId) (below : List Frame) (meth : Method) (c : Code), mC p s m av.toArray meth c ws cc maxL ret G sz → va_P G.1 vwCl (mW G M) s.heap → W p l e (headSpec ws rm).room s m av.toArray below meth c s.heap [] 0 0 (MQ below (Qc sz) av.toArray s 0 0 (mA G sz)) (entryFrame m av.toArray maxL)) :
    ∀ sz : Nat, Met l y ws rm (mPc G sz M av) (Qc sz) 0 0 (mA G sz) := by
  intro sz
  refine Met.ofW (cc := cc) (maxL := maxL) (ret := ret) hy hw ?_
  intro p e s m args below meth c s₁ B hml hv
  obtain ⟨rfl, hsz, hP, hK, hD0⟩ := hv
  have hown : s.vm.findClass RX7 = some m.cls := by rw [← hR]; exact findClass_of_methodNamed B.named
  refine body sz p e s m below meth c ⟨B.exec, B.bytes, B.returns, atoms_spec (ws := ws) B.pre, hown, B.notSynchronized, hml, hK, fun M2 => ?_, hsz⟩ hP
  rw [← mA_eq G M2]
  exact (mD_any M2 hD0).self
abbrev mQI (below : List Frame) (G : mG) (M2 : MS) (sz : Nat) (av : Array Value) (s : State) (r : Int32) : State → Prop := MQ below (va_Qi (fun x (_ : Unit) => x = r) (fun _ t => mIs G M2 t) (mA G sz)) av s 0 0 (mA G sz)
abbrev mQL (below : List Frame) (G : mG) (M2 : MS) (sz : Nat) (av : Array Value) (s : State) (r : Int64) : State → Prop := MQ below (va_Ql (fun x (_ : Unit) => x = r) (fun _ t => mIs G M2 t) (mA G sz)) av s 0 0 (mA G sz)
abbrev mQV (below : List Frame) (G : mG) (M2 : MS) (sz : Nat) (av : Array Value) (s : State) : State → Prop := MQ below (va_Qv (fun (_ : Unit) => True) (fun _ t => mIs G M2 t) (mA G sz)) av s 0 0 (mA G sz)
theorem mBodyI {l : Launch} {y : MethodName} {ws ws' : List Cond} {rm : Room} {cc : ByteArray} {maxL : Nat} {ret : Option FieldType} {G : mG} {av : List Value} {M M2 : MS} {r : Int32} (hy : plainName y.cls = true) (hR : y.cls = RX7) (hw : ws = Cond.code y cc maxL ret :: ws')
    (body : ∀ (sz : Nat) (p : Program) (e : Env) (s : State) (m : MethodId) (below : List Frame) (meth : Method) (c : Code), mC p s m av.toArray meth c ws cc maxL ret G sz → va_P G.1 vwCl (mW G M) s.heap → W p l e (headSpec ws rm).room s m av.toArray below meth c s.heap [] 0 0 (mQI below G M2 sz av.toArray s r) (entryFrame m av.toArray maxL)) : mMI l y ws rm G av M M2 r :=
  mBody (Qc := fun sz => va_Qi (fun x (_ : Unit) => x = r) (fun _ t => mIs G M2 t) (mA G sz)) hy hR hw body
theorem mBodyL {l : Launch} {y : MethodName} {ws ws' : List Cond} {rm : Room} {cc : ByteArray} {maxL : Nat} {ret : Option FieldType} {G : mG} {av : List Value} {M M2 : MS} {r : Int64} (hy : plainName y.cls = true) (hR : y.cls = RX7) (hw : ws = Cond.code y cc maxL ret :: ws')
    (body : ∀ (sz : Nat) (p : Program) (e : Env) (s : State) (m : MethodId) (below : List Frame) (meth : Method) (c : Code), mC p s m av.toArray meth c ws cc maxL ret G sz → va_P G.1 vwCl (mW G M) s.heap → W p l e (headSpec ws rm).room s m av.toArray below meth c s.heap [] 0 0 (mQL below G M2 sz av.toArray s r) (entryFrame m av.toArray maxL)) : mML l y ws rm G av M M2 r :=
  mBody (Qc := fun sz => va_Ql (fun x (_ : Unit) => x = r) (fun _ t => mIs G M2 t) (mA G sz)) hy hR hw body
theorem mBodyV {l : Launch} {y : MethodName} {ws ws' : List Cond} {rm : Room} {cc : ByteArray} {maxL : Nat} {ret : Option FieldType} {G : mG} {av : List Value} {M M2 : MS} (hy : plainName y.cls = true) (hR : y.cls = RX7) (hw : ws = Cond.code y cc maxL ret :: ws')
    (body : ∀ (sz : Nat) (p : Program) (e : Env) (s : State) (m : MethodId) (below : List Frame) (meth : Method) (c : Code), mC p s m av.toArray meth c ws cc maxL ret G sz → va_P G.1 vwCl (mW G M) s.heap → W p l e (headSpec ws rm).room s m av.toArray below meth c s.heap [] 0 0 (mQV below G M2 sz av.toArray s) (entryFrame m av.toArray maxL)) : mMV l y ws rm G av M M2 :=
  mBody (Qc := fun sz => va_Qv (fun (_ : Unit) => True) (fun _ t => mIs G M2 t) (mA G sz)) hy hR hw body
theorem mset_0 (G : mG) (M : MS) (v : Int32) : (mW G M).set 0 (mO G, .inr (8, (mFs G M).set 0 (.int v))) = mW G (mpF M 0 v) := rfl
theorem mset_5 (G : mG) (M : MS) (v : Int32) : (mW G M).set 0 (mO G, .inr (8, (mFs G M).set 5 (.int v))) = mW G (mpF M 5 v) := rfl
theorem mset_11 (G : mG) (M : MS) (v : Int32) : (mW G M).set 0 (mO G, .inr (8, (mFs G M).set 11 (.int v))) = mW G (mpF M 11 v) := rfl
theorem mset_16 (G : mG) (M : MS) (v : Int32) : (mW G M).set 0 (mO G, .inr (8, (mFs G M).set 16 (.int v))) = mW G (mpF M 16 v) := rfl
theorem mset_21 (G : mG) (M : MS) (v : Int32) : (mW G M).set 0 (mO G, .inr (8, (mFs G M).set 21 (.int v))) = mW G (mpF M 21 v) := rfl
theorem mset_22 (G : mG) (M : MS) (v : Int32) : (mW G M).set 0 (mO G, .inr (8, (mFs G M).set 22 (.int v))) = mW G (mpF M 22 v) := rfl
theorem mset_23 (G : mG) (M : MS) (v : Int32) : (mW G M).set 0 (mO G, .inr (8, (mFs G M).set 23 (.int v))) = mW G (mpF M 23 v) := rfl
theorem maset_1 (G : mG) {M : MS} (f : Nat → Int32) : (mW G M).set 1 (mAd G 1, .inl (mcI G, 13, .inl f)) = mW G (mpA M 1 f) := rfl
theorem maset_2 (G : mG) {M : MS} (f : Nat → Int32) : (mW G M).set 2 (mAd G 2, .inl (mcI G, 13, .inl f)) = mW G (mpA M 2 f) := rfl
theorem maset_3 (G : mG) {M : MS} (f : Nat → Int32) : (mW G M).set 3 (mAd G 3, .inl (mcI G, 13, .inl f)) = mW G (mpA M 3 f) := rfl
theorem maset_4 (G : mG) {M : MS} (f : Nat → Int32) : (mW G M).set 4 (mAd G 4, .inl (mcI G, 13, .inl f)) = mW G (mpA M 4 f) := rfl
theorem maset_6 (G : mG) {M : MS} (f : Nat → Int64) : (mW G M).set 5 (mAd G 6, .inl (mcJ G, 100, .inr (.inl f))) = mW G (mpL M 6 f) := rfl
theorem maset_7 (G : mG) {M : MS} (f : Nat → Int64) : (mW G M).set 6 (mAd G 7, .inl (mcJ G, 100, .inr (.inl f))) = mW G (mpL M 7 f) := rfl
theorem maset_8 (G : mG) {M : MS} (f : Nat → Int64) : (mW G M).set 7 (mAd G 8, .inl (mcJ G, 100, .inr (.inl f))) = mW G (mpL M 8 f) := rfl
theorem maset_9 (G : mG) {M : MS} (f : Nat → Int64) : (mW G M).set 8 (mAd G 9, .inl (mcJ G, 100, .inr (.inl f))) = mW G (mpL M 9 f) := rfl
theorem maset_10 (G : mG) {M : MS} (f : Nat → Int32) : (mW G M).set 9 (mAd G 10, .inl (mcI G, 100, .inl f)) = mW G (mpA M 10 f) := rfl
theorem maset_12 (G : mG) {M : MS} (f : Nat → Int32) : (mW G M).set 10 (mAd G 12, .inl (mcI G, 160, .inl f)) = mW G (mpA M 12 f) := rfl
theorem maset_13 (G : mG) {M : MS} (f : Nat → Int32) : (mW G M).set 11 (mAd G 13, .inl (mcI G, 160, .inl f)) = mW G (mpA M 13 f) := rfl
theorem maset_14 (G : mG) {M : MS} (f : Nat → Int32) : (mW G M).set 12 (mAd G 14, .inl (mcI G, 160, .inl f)) = mW G (mpA M 14 f) := rfl
theorem maset_15 (G : mG) {M : MS} (f : Nat → Int32) : (mW G M).set 13 (mAd G 15, .inl (mcI G, 320, .inl f)) = mW G (mpA M 15 f) := rfl
theorem maset_17 (G : mG) {M : MS} (f : Nat → Int32) : (mW G M).set 14 (mAd G 17, .inl (mcI G, 320, .inl f)) = mW G (mpA M 17 f) := rfl
theorem maset_18 (G : mG) {M : MS} (f : Nat → Int32) : (mW G M).set 15 (mAd G 18, .inl (mcI G, 320, .inl f)) = mW G (mpA M 18 f) := rfl
theorem maset_19 (G : mG) {M : MS} (f : Nat → Int32) : (mW G M).set 16 (mAd G 19, .inl (mcZ G, 320, .inl f)) = mW G (mpA M 19 f) := rfl
theorem maset_20 (G : mG) {M : MS} (f : Nat → Int32) : (mW G M).set 17 (mAd G 20, .inl (mcI G, 320, .inl f)) = mW G (mpA M 20 f) := rfl
section MROWS
variable {p : Program} {l : Launch} {e : Env} {R : Room} {s : State} {m : MethodId} {args : Array Value} {below : List Frame} {meth : Method} {c : Code} {H : Heap} {locs : List Loc} {Q : State → Prop}
variable {pc : Nat} {ls : Array Slot} {rest st0 : List Value} {ws ws' Ts : List Cond} {cc bytes : ByteArray} {maxL nL index n sz : Nat} {ret : Option FieldType} {G : mG} {M M2 : MS} {y : MethodName} {rm : Room} {As av : List Value}
theorem m_entry {vs : List Value} {n : Nat} (h : (lg_sl vs).length ≤ n) (k : ∀ ls : Array Slot, lv_has ls n (lv_args 0 vs) → W p l e R s m args below meth c H locs 0 0 Q (F0 m 0 ls [])) : W p l e R s m args below meth c H locs 0 0 Q (entryFrame m vs.toArray n) := by
  rw [lg_entry_eq]; exact k _ (lv_entry vs h)
theorem m_get (hC : mC p s m args meth c Ts cc nL ret G sz) (hin : ∀ w ∈ wsX70, w ∈ Ts) (hP : va_P G.1 vwCl (mW G M) H) (k : Nat) (hk : k < 24) (hlink : (Cond.fieldLink RX7 index "SegmentMapModel" (TX7 k).2.1 (TX7 k).2.2.1).before args s = true) (hsame : (TX7 k).1 = "SegmentMapModel") {v : Value} (hv : (mFs G M)[k]? = some v) (hdg : decode cc pc = .ok (.getfield index, 3))
    (kk : W p l e R s m args below meth c H locs 0 0 Q (F0 m (pc + 3) ls (v :: rest))) : W p l e R s m args below meth c H locs 0 0 Q (F0 m pc ls (.ref (mO G) :: rest)) := by
  obtain ⟨hx, hb, -, hts, hown, -, -, hK, -, -⟩ := hC
  exact va_get (D := G.1) (ci := 8) (C := RX7) (T := TX7) (N := 24) hx hb hts hin hown hK hP 0 (fs := mFs G M) rfl rfl k hk hlink (fun x h => by rw [hsame] at h; exact h) hv hdg kk
theorem m_put (hC : mC p s m args meth c Ts cc nL ret G sz) (hin : ∀ w ∈ wsX70, w ∈ Ts) (hP : va_P G.1 vwCl (mW G M) H) (hS : va_S (mA G sz) s.heap H locs) (k : Nat) (hk : k < 24) (hlink : (Cond.fieldLink RX7 index "SegmentMapModel" (TX7 k).2.1 (TX7 k).2.2.1).before args s = true) (hsame : (TX7 k).1 = "SegmentMapModel") (hfin : (TX7 k).2.2.2 = false) (hd : parseFieldDescriptor (TX7 k).2.2.1 = some .int) {v : Int32} (hset : (mW G M).set 0 (mO G, .inr (8, (mFs G M).set k (.int v))) = mW G (mpF M k v)) (hM : M2 = mpF M k v) (hdg : decode cc pc = .ok (.putfield index, 3))
    (kk : ∀ (H1 : Heap) (locs1 : List Loc), va_P G.1 vwCl (mW G M2) H1 → va_S (mA G sz) s.heap H1 locs1 → W p l e R s m args below meth c H1 locs1 0 0 Q (F0 m (pc + 3) ls rest)) : W p l e R s m args below meth c H locs 0 0 Q (F0 m pc ls (.int v :: .ref (mO G) :: rest)) := by
  obtain ⟨hx, hb, -, hts, hown, -, -, hK, hD, -⟩ := hC
  subst hM
  exact va_put (D := G.1) (ci := 8) (ty := .int) (C := RX7) (T := TX7) (N := 24) hx hb hts hin tyX7 tyX7_ok nmX7 hown hK hP (hD M) hS 0 (fs := mFs G M) rfl rfl k hk hlink (fun x h => by rw [hsame] at h; exact h) hfin hd rfl rfl hk hdg (fun H1 locs1 hP1 _ hS1 => kk H1 locs1 (by rw [← hset]; exact hP1) hS1)
theorem m_ild (hC : mC p s m args meth c Ts cc nL ret G sz) (hP : va_P G.1 vwCl (mW G M) H) (pos : Nat) {j N : Nat} (ha : (mW G M)[pos]? = some (mAd G j, .inl (mcI G, N, .inl (M.2.1 j)))) {i t : Int32} (hin : vp_in i N) (ht : t = M.2.1 j i.toNatClampNeg) (hdg : decode cc pc = .ok (.iaload, 1))
    (kk : W p l e R s m args below meth c H locs 0 0 Q (F0 m (pc + 1) ls (.int t :: rest))) : W p l e R s m args below meth c H locs 0 0 Q (F0 m pc ls (.int i :: .ref (mAd G j) :: rest)) := by
  obtain ⟨hx, hb, -, hts, hown, -, -, hK, hD, -⟩ := hC
  subst ht
  exact va_iald hx hb hK hP pos 0 ha rfl hin hdg kk
theorem m_zld (hC : mC p s m args meth c Ts cc nL ret G sz) (hP : va_P G.1 vwCl (mW G M) H) (pos : Nat) {j N : Nat} (ha : (mW G M)[pos]? = some (mAd G j, .inl (mcZ G, N, .inl (M.2.1 j)))) {i t : Int32} (hin : vp_in i N) (ht : t = M.2.1 j i.toNatClampNeg) (hdg : decode cc pc = .ok (.baload, 1))
    (kk : W p l e R s m args below meth c H locs 0 0 Q (F0 m (pc + 1) ls (.int t :: rest))) : W p l e R s m args below meth c H locs 0 0 Q (F0 m pc ls (.int i :: .ref (mAd G j) :: rest)) := by
  obtain ⟨hx, hb, -, hts, hown, -, -, hK, hD, -⟩ := hC
  subst ht
  exact va_zald hx hb hK hP pos 2 ha rfl hin hdg kk
theorem m_lld (hC : mC p s m args meth c Ts cc nL ret G sz) (hP : va_P G.1 vwCl (mW G M) H) (pos : Nat) {j N : Nat} (ha : (mW G M)[pos]? = some (mAd G j, .inl (mcJ G, N, .inr (.inl (M.2.2 j))))) {i : Int32} {t : Int64} (hin : vp_in i N) (ht : t = M.2.2 j i.toNatClampNeg) (hdg : decode cc pc = .ok (.laload, 1))
    (kk : W p l e R s m args below meth c H locs 0 0 Q (F0 m (pc + 1) ls (.long t :: rest))) : W p l e R s m args below meth c H locs 0 0 Q (F0 m pc ls (.int i :: .ref (mAd G j) :: rest)) := by
  obtain ⟨hx, hb, -, hts, hown, -, -, hK, hD, -⟩ := hC
  subst ht
  exact va_lald hx hb hK hP pos 1 ha rfl hin hdg kk
theorem m_ist (hC : mC p s m args meth c Ts cc nL ret G sz) (hP : va_P G.1 vwCl (mW G M) H) (hS : va_S (mA G sz) s.heap H locs) (pos : Nat) {j N : Nat} (ha : (mW G M)[pos]? = some (mAd G j, .inl (mcI G, N, .inl (M.2.1 j)))) {i v : Int32} (hin : vp_in i N) (hset : ∀ f : Nat → Int32, (mW G M).set pos (mAd G j, .inl (mcI G, N, .inl f)) = mW G (mpA M j f)) (hM : M2 = mpA M j (upd (M.2.1 j) i.toNatClampNeg v)) (hdg : decode cc pc = .ok (.iastore, 1))
    (kk : ∀ (H1 : Heap) (locs1 : List Loc), va_P G.1 vwCl (mW G M2) H1 → va_S (mA G sz) s.heap H1 locs1 → W p l e R s m args below meth c H1 locs1 0 0 Q (F0 m (pc + 1) ls rest)) : W p l e R s m args below meth c H locs 0 0 Q (F0 m pc ls (.int v :: .int i :: .ref (mAd G j) :: rest)) := by
  obtain ⟨hx, hb, -, hts, hown, -, -, hK, hD, -⟩ := hC
  subst hM
  exact va_iast hx hb hK hP (hD M) hS pos 0 ha rfl hin hdg (fun H1 locs1 hP1 _ hS1 => kk H1 locs1 (by rw [← hset]; exact hP1) hS1)
theorem m_zst (hC : mC p s m args meth c Ts cc nL ret G sz) (hP : va_P G.1 vwCl (mW G M) H) (hS : va_S (mA G sz) s.heap H locs) (pos : Nat) {j N : Nat} (ha : (mW G M)[pos]? = some (mAd G j, .inl (mcZ G, N, .inl (M.2.1 j)))) {i v : Int32} (hin : vp_in i N) (hv : v = 0 ∨ v = 1) (hset : ∀ f : Nat → Int32, (mW G M).set pos (mAd G j, .inl (mcZ G, N, .inl f)) = mW G (mpA M j f)) (hM : M2 = mpA M j (upd (M.2.1 j) i.toNatClampNeg v)) (hdg : decode cc pc = .ok (.bastore, 1))
    (kk : ∀ (H1 : Heap) (locs1 : List Loc), va_P G.1 vwCl (mW G M2) H1 → va_S (mA G sz) s.heap H1 locs1 → W p l e R s m args below meth c H1 locs1 0 0 Q (F0 m (pc + 1) ls rest)) : W p l e R s m args below meth c H locs 0 0 Q (F0 m pc ls (.int v :: .int i :: .ref (mAd G j) :: rest)) := by
  obtain ⟨hx, hb, -, hts, hown, -, -, hK, hD, -⟩ := hC
  subst hM
  have hn : vp_nar .boolean v = v := by rcases hv with rfl | rfl <;> rfl
  exact va_zast hx hb hK hP (hD M) hS pos 2 ha rfl hin hdg (fun H1 locs1 hP1 _ hS1 => kk H1 locs1 (by rw [hn] at hP1; rw [← hset]; exact hP1) hS1)
theorem m_lst (hC : mC p s m args meth c Ts cc nL ret G sz) (hP : va_P G.1 vwCl (mW G M) H) (hS : va_S (mA G sz) s.heap H locs) (pos : Nat) {j N : Nat} (ha : (mW G M)[pos]? = some (mAd G j, .inl (mcJ G, N, .inr (.inl (M.2.2 j))))) {i : Int32} {v : Int64} (hin : vp_in i N) (hset : ∀ f : Nat → Int64, (mW G M).set pos (mAd G j, .inl (mcJ G, N, .inr (.inl f))) = mW G (mpL M j f)) (hM : M2 = mpL M j (vp_updL (M.2.2 j) i.toNatClampNeg v)) (hdg : decode cc pc = .ok (.lastore, 1))
    (kk : ∀ (H1 : Heap) (locs1 : List Loc), va_P G.1 vwCl (mW G M2) H1 → va_S (mA G sz) s.heap H1 locs1 → W p l e R s m args below meth c H1 locs1 0 0 Q (F0 m (pc + 1) ls rest)) : W p l e R s m args below meth c H locs 0 0 Q (F0 m pc ls (.long v :: .int i :: .ref (mAd G j) :: rest)) := by
  obtain ⟨hx, hb, -, hts, hown, -, -, hK, hD, -⟩ := hC
  subst hM
  exact va_last hx hb hK hP (hD M) hS pos 1 ha rfl hin hdg (fun H1 locs1 hP1 _ hS1 => kk H1 locs1 (by rw [← hset]; exact hP1) hS1)
theorem m_iret (hC : mC p s m args meth c Ts cc nL (some .int) G sz) (hP : va_P G.1 vwCl (mW G M) H) (hS : va_S (mA G sz) s.heap H locs) {v r : Int32} (hv : v = r) (hdg : decode cc pc = .ok (.ireturn, 1)) : W p l e R s m args below meth c H locs 0 0 (MQ below (va_Qi (fun x (_ : Unit) => x = r) (fun _ t => mIs G M t) (mA G sz)) args s 0 0 (mA G sz)) (F0 m pc ls [.int v]) := by
  obtain ⟨hx, hb, hr, hts, hown, hlocks, -, hK, hD, -⟩ := hC
  exact W.iret (v := v) hx hb hr (fun t ht hW => ⟨⟨v, (), rfl, hv, by rw [ht]; exact hP, va_K.moved hW.alike hK⟩, hS.F ht⟩) hS.2.2 hdg hlocks
theorem m_zret (hC : mC p s m args meth c Ts cc nL (some .boolean) G sz) (hP : va_P G.1 vwCl (mW G M) H) (hS : va_S (mA G sz) s.heap H locs) {v r : Int32} (hz : v = 0 ∨ v = 1) (hv : v = r) (hdg : decode cc pc = .ok (.ireturn, 1)) : W p l e R s m args below meth c H locs 0 0 (MQ below (va_Qi (fun x (_ : Unit) => x = r) (fun _ t => mIs G M t) (mA G sz)) args s 0 0 (mA G sz)) (F0 m pc ls [.int v]) := by
  obtain ⟨hx, hb, hr, hts, hown, hlocks, -, hK, hD, -⟩ := hC
  exact W.zret (v := v) hx hb hr (by rcases hz with rfl | rfl <;> rfl) (fun t ht hW => ⟨⟨v, (), rfl, hv, by rw [ht]; exact hP, va_K.moved hW.alike hK⟩, hS.F ht⟩) hS.2.2 hdg hlocks
theorem m_lret (hC : mC p s m args meth c Ts cc nL (some .long) G sz) (hP : va_P G.1 vwCl (mW G M) H) (hS : va_S (mA G sz) s.heap H locs) {v r : Int64} (hv : v = r) (hdg : decode cc pc = .ok (.lreturn, 1)) : W p l e R s m args below meth c H locs 0 0 (MQ below (va_Ql (fun x (_ : Unit) => x = r) (fun _ t => mIs G M t) (mA G sz)) args s 0 0 (mA G sz)) (F0 m pc ls [.long v]) := by
  obtain ⟨hx, hb, hr, hts, hown, hlocks, -, hK, hD, -⟩ := hC
  exact W.lret (v := v) hx hb hr (fun t ht hW => ⟨⟨v, (), rfl, hv, by rw [ht]; exact hP, va_K.moved hW.alike hK⟩, hS.F ht⟩) hS.2.2 hdg hlocks
theorem m_vret (hC : mC p s m args meth c Ts cc nL none G sz) (hP : va_P G.1 vwCl (mW G M) H) (hS : va_S (mA G sz) s.heap H locs) (hdg : decode cc pc = .ok (.return_, 1)) : W p l e R s m args below meth c H locs 0 0 (MQ below (va_Qv (fun (_ : Unit) => True) (fun _ t => mIs G M t) (mA G sz)) args s 0 0 (mA G sz)) (F0 m pc ls []) := by
  obtain ⟨hx, hb, hr, hts, hown, hlocks, -, hK, hD, -⟩ := hC
  exact W.vret hx hb hr (fun t ht hW => ⟨⟨(), rfl, trivial, by rw [ht]; exact hP, va_K.moved hW.alike hK⟩, hS.F ht⟩) hS.2.2 hdg hlocks
theorem m_pre (hC : mC p s m args meth c Ts cc nL ret G sz) (hP : va_P G.1 vwCl (mW G M) H) (U : State) (hU : U.heap = H) (hW : s.WarmedH U.vm) : mPc G H.size M av av.toArray U := by
  obtain ⟨-, -, -, -, -, -, -, hK, hD, -⟩ := hC
  exact ⟨rfl, by rw [hU], by rw [hU]; exact hP, va_K.moved hW.alike hK, (hD M).weaken (fun _ _ _ _ => trivial)⟩
theorem m_fix (hC : mC p s m args meth c Ts cc nL ret G sz) : CallFix p m c cc nL s args Ts RX7 := by
  obtain ⟨hx, hb, -, hts, hown, -, hml, -, -, -⟩ := hC
  exact ⟨hx, hb, hml, hown, hts⟩
theorem m_rec (hC : mC p s m args meth c Ts cc nL ret G sz) (hP : va_P G.1 vwCl (mW G M) H) : ∃ cell : Cell, H[mO G]? = some cell ∧ cell.vm.isStatics = false ∧ s.vm.findClass RX7 = some cell.cls := by
  obtain ⟨-, -, -, -, -, -, -, hK, hD, -⟩ := hC
  exact va_recv hK hP (ci := 8) (q0 := 0) (q := (RX7, TX7, 24)) rfl rfl
theorem m_sub (hC : mC p s m args meth c Ts cc nL ret G sz) (hS : va_S (mA G sz) s.heap H locs) : ∀ q, mA G H.size q → mA G sz q := by
  obtain ⟨-, -, -, -, -, -, -, -, -, hsz⟩ := hC
  exact fun q h => mA_le (by rw [← hsz]; exact hS.1) h
theorem m_VI {r : Int32} (hC : mC p s m args meth c Ts cc nL ret G sz) (hP : va_P G.1 vwCl (mW G M) H) (hS : va_S (mA G sz) s.heap H locs) {ret' : Option FieldType} (hM : mMI l y ws rm G (.ref (mO G) :: As) M M2 r) (cw : CallW R s args RX7 RX7 index y bytes maxL ret' ws rm 0 0 n) (hn : As.length = n) (hsize : ls.size = nL) (hst : st0 = As.reverse ++ .ref (mO G) :: rest) (hr8 : (rest.map fun v => v.category).sum ≤ 8) (hdg : decode cc pc = .ok (.invokevirtual index, 3))
    (kk : ∀ (H1 : Heap) (locs1 : List Loc), va_P G.1 vwCl (mW G M2) H1 → va_S (mA G sz) s.heap H1 locs1 → W p l e R s m args below meth c H1 locs1 0 0 Q (F0 m (pc + 3) ls (.int r :: rest))) : W p l e R s m args below meth c H locs 0 0 Q (F0 m pc ls st0) := by
  refine va_calli (va_runV (As := As) (rest := rest) (g := F0 m pc ls st0) (m_fix hC) (hM H.size) cw ⟨mBlind, m_rec hC hP, fun U hU hW => m_pre (av := .ref (mO G) :: As) hC hP U hU hW⟩ rfl hn hsize hst (lv_room hr8) hdg ⟨Nat.zero_le _, Nat.zero_le _⟩) hS (fun q _ h => m_sub hC hS q h) (m_sub hC hS) (fun r1 u t H1 locs1 ht hvm hw hB hz1 hk1 hS1 => ?_)
  cases hw
  exact kk H1 locs1 (by rw [← ht]; exact hB.1) hS1
theorem m_VL {r : Int64} (hC : mC p s m args meth c Ts cc nL ret G sz) (hP : va_P G.1 vwCl (mW G M) H) (hS : va_S (mA G sz) s.heap H locs) {ret' : Option FieldType} (hM : mML l y ws rm G (.ref (mO G) :: As) M M2 r) (cw : CallW R s args RX7 RX7 index y bytes maxL ret' ws rm 0 0 n) (hn : As.length = n) (hsize : ls.size = nL) (hst : st0 = As.reverse ++ .ref (mO G) :: rest) (hr8 : (rest.map fun v => v.category).sum ≤ 8) (hdg : decode cc pc = .ok (.invokevirtual index, 3))
    (kk : ∀ (H1 : Heap) (locs1 : List Loc), va_P G.1 vwCl (mW G M2) H1 → va_S (mA G sz) s.heap H1 locs1 → W p l e R s m args below meth c H1 locs1 0 0 Q (F0 m (pc + 3) ls (.long r :: rest))) : W p l e R s m args below meth c H locs 0 0 Q (F0 m pc ls st0) := by
  refine va_calll (va_runV (As := As) (rest := rest) (g := F0 m pc ls st0) (m_fix hC) (hM H.size) cw ⟨mBlind, m_rec hC hP, fun U hU hW => m_pre (av := .ref (mO G) :: As) hC hP U hU hW⟩ rfl hn hsize hst (lv_room hr8) hdg ⟨Nat.zero_le _, Nat.zero_le _⟩) hS (fun q _ h => m_sub hC hS q h) (m_sub hC hS) (fun r1 u t H1 locs1 ht hvm hw hB hz1 hk1 hS1 => ?_)
  cases hw
  exact kk H1 locs1 (by rw [← ht]; exact hB.1) hS1
theorem m_VV (hC : mC p s m args meth c Ts cc nL ret G sz) (hP : va_P G.1 vwCl (mW G M) H) (hS : va_S (mA G sz) s.heap H locs) {ret' : Option FieldType} (hM : mMV l y ws rm G (.ref (mO G) :: As) M M2) (cw : CallW R s args RX7 RX7 index y bytes maxL ret' ws rm 0 0 n) (hn : As.length = n) (hsize : ls.size = nL) (hst : st0 = As.reverse ++ .ref (mO G) :: rest) (hr8 : (rest.map fun v => v.category).sum ≤ 8) (hdg : decode cc pc = .ok (.invokevirtual index, 3))
    (kk : ∀ (H1 : Heap) (locs1 : List Loc), va_P G.1 vwCl (mW G M2) H1 → va_S (mA G sz) s.heap H1 locs1 → W p l e R s m args below meth c H1 locs1 0 0 Q (F0 m (pc + 3) ls rest)) : W p l e R s m args below meth c H locs 0 0 Q (F0 m pc ls st0) := by
  refine va_callv (va_runV (As := As) (rest := rest) (g := F0 m pc ls st0) (m_fix hC) (hM H.size) cw ⟨mBlind, m_rec hC hP, fun U hU hW => m_pre (av := .ref (mO G) :: As) hC hP U hU hW⟩ rfl hn hsize hst (lv_room hr8) hdg ⟨Nat.zero_le _, Nat.zero_le _⟩) hS (fun q _ h => m_sub hC hS q h) (m_sub hC hS) (fun u t H1 locs1 ht hvm hw hB hz1 hk1 hS1 => ?_)
  exact kk H1 locs1 (by rw [← ht]; exact hB.1) hS1
theorem m_SI {r : Int32} (hC : mC p s m args meth c Ts cc nL ret G sz) (hP : va_P G.1 vwCl (mW G M) H) (hS : va_S (mA G sz) s.heap H locs) {ret' : Option FieldType} (hM : mMI l y ws rm G As M M2 r) (cw : CallB R s args RX7 index y bytes maxL ret' ws rm 0 0 n ∧ (Cond.static y).before args s = true) (hn : As.length = n) (hsize : ls.size = nL) (hst : st0 = As.reverse ++ rest) (hr8 : (rest.map fun v => v.category).sum ≤ 8) (hdg : decode cc pc = .ok (.invokestatic index, 3))
    (kk : ∀ (H1 : Heap) (locs1 : List Loc), va_P G.1 vwCl (mW G M2) H1 → va_S (mA G sz) s.heap H1 locs1 → W p l e R s m args below meth c H1 locs1 0 0 Q (F0 m (pc + 3) ls (.int r :: rest))) : W p l e R s m args below meth c H locs 0 0 Q (F0 m pc ls st0) := by
  refine va_calli (va_runS (As := As) (rest := rest) (g := F0 m pc ls st0) (m_fix hC) (hM H.size) cw ⟨mBlind, fun U hU hW => m_pre (av := As) hC hP U hU hW⟩ rfl hn hsize hst (lv_room hr8) hdg ⟨Nat.zero_le _, Nat.zero_le _⟩) hS (fun q _ h => m_sub hC hS q h) (m_sub hC hS) (fun r1 u t H1 locs1 ht hvm hw hB hz1 hk1 hS1 => ?_)
  cases hw
  exact kk H1 locs1 (by rw [← ht]; exact hB.1) hS1
theorem m_SL {r : Int64} (hC : mC p s m args meth c Ts cc nL ret G sz) (hP : va_P G.1 vwCl (mW G M) H) (hS : va_S (mA G sz) s.heap H locs) {ret' : Option FieldType} (hM : mML l y ws rm G As M M2 r) (cw : CallB R s args RX7 index y bytes maxL ret' ws rm 0 0 n ∧ (Cond.static y).before args s = true) (hn : As.length = n) (hsize : ls.size = nL) (hst : st0 = As.reverse ++ rest) (hr8 : (rest.map fun v => v.category).sum ≤ 8) (hdg : decode cc pc = .ok (.invokestatic index, 3))
    (kk : ∀ (H1 : Heap) (locs1 : List Loc), va_P G.1 vwCl (mW G M2) H1 → va_S (mA G sz) s.heap H1 locs1 → W p l e R s m args below meth c H1 locs1 0 0 Q (F0 m (pc + 3) ls (.long r :: rest))) : W p l e R s m args below meth c H locs 0 0 Q (F0 m pc ls st0) := by
  refine va_calll (va_runS (As := As) (rest := rest) (g := F0 m pc ls st0) (m_fix hC) (hM H.size) cw ⟨mBlind, fun U hU hW => m_pre (av := As) hC hP U hU hW⟩ rfl hn hsize hst (lv_room hr8) hdg ⟨Nat.zero_le _, Nat.zero_le _⟩) hS (fun q _ h => m_sub hC hS q h) (m_sub hC hS) (fun r1 u t H1 locs1 ht hvm hw hB hz1 hk1 hS1 => ?_)
  cases hw
  exact kk H1 locs1 (by rw [← ht]; exact hB.1) hS1
end MROWS
/-! reading and writing with a look at the place, and what a road that answers says of them -/
section MOPT
variable {α β : Type}
def rdI (n : Nat) (f : Nat → Int32) (i : Int32) (g : Int32 → Option α) : Option α := if i < 0 ∨ n ≤ i.toNatClampNeg then none else g (f i.toNatClampNeg)
def rdL (n : Nat) (f : Nat → Int64) (i : Int32) (g : Int64 → Option α) : Option α := if i < 0 ∨ n ≤ i.toNatClampNeg then none else g (f i.toNatClampNeg)
def wrI (n : Nat) (M : MS) (k : Nat) (i v : Int32) (g : MS → Option α) : Option α := if i < 0 ∨ n ≤ i.toNatClampNeg then none else g (mpA M k (upd (M.2.1 k) i.toNatClampNeg v))
def wrL (n : Nat) (M : MS) (k : Nat) (i : Int32) (v : Int64) (g : MS → Option α) : Option α := if i < 0 ∨ n ≤ i.toNatClampNeg then none else g (mpL M k (vp_updL (M.2.2 k) i.toNatClampNeg v))
def wrF (M : MS) (k : Nat) (v : Int32) (g : MS → Option α) : Option α := g (mpF M k v)
def okB (x : Int32) (g : Option α) : Option α := if x = 0 ∨ x = 1 then g else none
def dvI (x : Int32) (g : Option α) : Option α := if x = 0 then none else g
def dvL (x : Int64) (g : Option α) : Option α := if x = 0 then none else g
def cal (x : Option β) (g : β → Option α) : Option α := x.bind g
theorem rdI_el {n : Nat} {f : Nat → Int32} {i : Int32} {g : Int32 → Option α} {r : α} (h : rdI n f i g = some r) : vp_in i n ∧ ∃ t : Int32, t = f i.toNatClampNeg ∧ g t = some r := by
  unfold rdI at h; split at h
  · cases h
  · next hn => exact ⟨hn, _, rfl, h⟩
theorem rdL_el {n : Nat} {f : Nat → Int64} {i : Int32} {g : Int64 → Option α} {r : α} (h : rdL n f i g = some r) : vp_in i n ∧ ∃ t : Int64, t = f i.toNatClampNeg ∧ g t = some r := by
  unfold rdL at h; split at h
  · cases h
  · next hn => exact ⟨hn, _, rfl, h⟩
theorem wrI_el {n : Nat} {M : MS} {k : Nat} {i v : Int32} {g : MS → Option α} {r : α} (h : wrI n M k i v g = some r) : vp_in i n ∧ ∃ M2 : MS, M2 = mpA M k (upd (M.2.1 k) i.toNatClampNeg v) ∧ g M2 = some r := by
  unfold wrI at h; split at h
  · cases h
  · next hn => exact ⟨hn, _, rfl, h⟩
theorem wrL_el {n : Nat} {M : MS} {k : Nat} {i : Int32} {v : Int64} {g : MS → Option α} {r : α} (h : wrL n M k i v g = some r) : vp_in i n ∧ ∃ M2 : MS, M2 = mpL M k (vp_updL (M.2.2 k) i.toNatClampNeg v) ∧ g M2 = some r := by
  unfold wrL at h; split at h
  · cases h
  · next hn => exact ⟨hn, _, rfl, h⟩
theorem wrF_el {M : MS} {k : Nat} {v : Int32} {g : MS → Option α} {r : α} (h : wrF M k v g = some r) : ∃ M2 : MS, M2 = mpF M k v ∧ g M2 = some r := ⟨_, rfl, h⟩
theorem okB_el {x : Int32} {g : Option α} {r : α} (h : okB x g = some r) : (x = 0 ∨ x = 1) ∧ g = some r := by
  unfold okB at h; split at h
  · next hn => exact ⟨hn, h⟩
  · cases h
theorem dvI_el {x : Int32} {g : Option α} {r : α} (h : dvI x g = some r) : ¬ x = 0 ∧ g = some r := by
  unfold dvI at h; split at h
  · cases h
  · next hn => exact ⟨hn, h⟩
theorem dvL_el {x : Int64} {g : Option α} {r : α} (h : dvL x g = some r) : ¬ x = 0 ∧ g = some r := by
  unfold dvL at h; split at h
  · cases h
  · next hn => exact ⟨hn, h⟩
theorem cal_el {x : Option β} {g : β → Option α} {r : α} (h : cal x g = some r) : ∃ t : β, x = some t ∧ g t = some r := by
  cases x with
  | none => cases h
  | some t => exact ⟨t, rfl, h⟩
def caM {σ τ : Type} (x : Option (σ × τ)) (g : σ → τ → Option α) : Option α := match x with
  | none => none
  | some q => g q.1 q.2
theorem caM_el {σ τ : Type} {x : Option (σ × τ)} {g : σ → τ → Option α} {r : α} (h : caM x g = some r) : ∃ (t : σ) (u : τ), x = some (t, u) ∧ g t u = some r := by
  cases x with
  | none => cases h
  | some t => exact ⟨t.1, t.2, rfl, h⟩
theorem ite_t {c : Prop} [Decidable c] {a b : Option α} {r : α} (hc : c) (h : (if c then a else b) = some r) : a = some r := by rw [if_pos hc] at h; exact h
theorem ite_f {c : Prop} [Decidable c] {a b : Option α} {r : α} (hc : ¬ c) (h : (if c then a else b) = some r) : b = some r := by rw [if_neg hc] at h; exact h
end MOPT
