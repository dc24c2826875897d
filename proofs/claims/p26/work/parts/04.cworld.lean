/-! The class's world: a pool of objects and rows by their addresses. CS: which addresses, the kind of each, the references in fields, the rows' lengths; CD: ints and longs in fields, rows of ints, rows of references. Kinds: 0 Edges, 1 Faces, 2 Point, 3 Row, 4 Segment, 5 Vertices, 6 SegmentMap, 7 ArrayList, 8 rows of ints, 9 rows of points, else rows of objects. -/
abbrev CS : Type := List Nat × (Nat → Nat) × (Nat → Nat → Option Nat) × (Nat → Nat)
abbrev CD : Type := (Nat → Nat → Int32) × (Nat → Nat → Int64) × (Nat → Nat → Int32) × (Nat → Nat → Option Nat)
def cpF (D : CD) (a k : Nat) (v : Int32) : CD := (va_up D.1 a (va_up (D.1 a) k v), D.2.1, D.2.2.1, D.2.2.2)
def cpG (D : CD) (a k : Nat) (v : Int64) : CD := (D.1, va_up D.2.1 a (va_up (D.2.1 a) k v), D.2.2.1, D.2.2.2)
def cpA (D : CD) (a : Nat) (f : Nat → Int32) : CD := (D.1, D.2.1, va_up D.2.2.1 a f, D.2.2.2)
def cpR (D : CD) (a : Nat) (f : Nat → Option Nat) : CD := (D.1, D.2.1, D.2.2.1, va_up D.2.2.2 a f)
abbrev cG : Type := va_G × (ClassId × ClassId × ClassId)
abbrev ccI (G : cG) : ClassId := G.2.1
abbrev ccP (G : cG) : ClassId := G.2.2.1
abbrev ccO (G : cG) : ClassId := G.2.2.2
def cX0 (S : CS) (D : CD) (a : Nat) : List Value := [va_rf (S.2.2.1 a 0), va_rf (S.2.2.1 a 1), va_rf (S.2.2.1 a 2), va_rf (S.2.2.1 a 3), va_rf (S.2.2.1 a 4), .int (D.1 a 5)]
def cX1 (S : CS) (D : CD) (a : Nat) : List Value := [va_rf (S.2.2.1 a 0), va_rf (S.2.2.1 a 1), .int (D.1 a 2)]
def cX2 (S : CS) (D : CD) (a : Nat) : List Value := [.long (D.2.1 a 0), .long (D.2.1 a 1), .long (D.2.1 a 2), .long (D.2.1 a 3)]
def cX3 (S : CS) (D : CD) (a : Nat) : List Value := [va_rf (S.2.2.1 a 0)]
def cX4 (S : CS) (D : CD) (a : Nat) : List Value := [.int (D.1 a 0), .int (D.1 a 1), .int (D.1 a 2), .int (D.1 a 3), .long (D.2.1 a 4), .long (D.2.1 a 5)]
def cX5 (S : CS) (D : CD) (a : Nat) : List Value := [va_rf (S.2.2.1 a 0), va_rf (S.2.2.1 a 1), va_rf (S.2.2.1 a 2), va_rf (S.2.2.1 a 3), va_rf (S.2.2.1 a 4), va_rf (S.2.2.1 a 5), .int (D.1 a 6)]
def cX6 (S : CS) (D : CD) (a : Nat) : List Value := [va_rf (S.2.2.1 a 0), va_rf (S.2.2.1 a 1), va_rf (S.2.2.1 a 2), va_rf (S.2.2.1 a 3), va_rf (S.2.2.1 a 4), va_rf (S.2.2.1 a 5), va_rf (S.2.2.1 a 6), .int (D.1 a 7)]
def cX7 (S : CS) (D : CD) (a : Nat) : List Value := [.int (D.1 a 0), va_rf (S.2.2.1 a 1), .int (D.1 a 2)]
def cE (G : cG) (S : CS) (D : CD) (a : Nat) : va_E :=
  if S.2.1 a = 0 then .inr (1, cX0 S D a) else if S.2.1 a = 1 then .inr (2, cX1 S D a) else if S.2.1 a = 2 then .inr (3, cX2 S D a) else if S.2.1 a = 3 then .inr (4, cX3 S D a) else if S.2.1 a = 4 then .inr (5, cX4 S D a) else if S.2.1 a = 5 then .inr (6, cX5 S D a) else if S.2.1 a = 6 then .inr (7, cX6 S D a) else if S.2.1 a = 7 then .inr (0, cX7 S D a)
  else if S.2.1 a = 8 then .inl (ccI G, S.2.2.2 a, .inl (D.2.2.1 a)) else if S.2.1 a = 9 then .inl (ccP G, S.2.2.2 a, .inr (.inr (.inr (.inr (D.2.2.2 a))))) else .inl (ccO G, S.2.2.2 a, .inr (.inr (.inr (.inr (D.2.2.2 a)))))
theorem cE_0 {G : cG} {S : CS} {D : CD} {a : Nat} (h : S.2.1 a = 0) : cE G S D a = .inr (1, cX0 S D a) := by simp [cE, h]
theorem cE_1 {G : cG} {S : CS} {D : CD} {a : Nat} (h : S.2.1 a = 1) : cE G S D a = .inr (2, cX1 S D a) := by simp [cE, h]
theorem cE_2 {G : cG} {S : CS} {D : CD} {a : Nat} (h : S.2.1 a = 2) : cE G S D a = .inr (3, cX2 S D a) := by simp [cE, h]
theorem cE_3 {G : cG} {S : CS} {D : CD} {a : Nat} (h : S.2.1 a = 3) : cE G S D a = .inr (4, cX3 S D a) := by simp [cE, h]
theorem cE_4 {G : cG} {S : CS} {D : CD} {a : Nat} (h : S.2.1 a = 4) : cE G S D a = .inr (5, cX4 S D a) := by simp [cE, h]
theorem cE_5 {G : cG} {S : CS} {D : CD} {a : Nat} (h : S.2.1 a = 5) : cE G S D a = .inr (6, cX5 S D a) := by simp [cE, h]
theorem cE_6 {G : cG} {S : CS} {D : CD} {a : Nat} (h : S.2.1 a = 6) : cE G S D a = .inr (7, cX6 S D a) := by simp [cE, h]
theorem cE_7 {G : cG} {S : CS} {D : CD} {a : Nat} (h : S.2.1 a = 7) : cE G S D a = .inr (0, cX7 S D a) := by simp [cE, h]
theorem cE_8 {G : cG} {S : CS} {D : CD} {a : Nat} (h : S.2.1 a = 8) : cE G S D a = .inl (ccI G, S.2.2.2 a, .inl (D.2.2.1 a)) := by simp [cE, h]
theorem cE_9 {G : cG} {S : CS} {D : CD} {a : Nat} (h : S.2.1 a = 9) : cE G S D a = .inl (ccP G, S.2.2.2 a, .inr (.inr (.inr (.inr (D.2.2.2 a))))) := by simp [cE, h]
theorem cE_10 {G : cG} {S : CS} {D : CD} {a : Nat} (h : S.2.1 a = 10) : cE G S D a = .inl (ccO G, S.2.2.2 a, .inr (.inr (.inr (.inr (D.2.2.2 a))))) := by simp [cE, h]
theorem cE_ext {G : cG} {S : CS} {D D2 : CD} {b : Nat} (h1 : D.1 b = D2.1 b) (h2 : D.2.1 b = D2.2.1 b) (h3 : D.2.2.1 b = D2.2.2.1 b) (h4 : D.2.2.2 b = D2.2.2.2 b) : cE G S D b = cE G S D2 b := by
  unfold cE cX0 cX1 cX2 cX4 cX5 cX6 cX7 cX3; rw [h1, h2, h3, h4]
def cW (G : cG) (S : CS) (D : CD) : va_W := va_pl S.1 (cE G S D)
def cTy (G : cG) : List (ClassId × FieldType) := [(ccI G, .int), (ccP G, .object "SegmentMap$Point"), (ccO G, .object "java/lang/Object")]
def cD0 : CD := (fun _ _ => 0, fun _ _ => 0, fun _ _ => 0, fun _ _ => none)
def cA (G : cG) (S : CS) (sz : Nat) : Nat → Prop := va_A (cW G S cD0) sz
theorem cfst {G : cG} {S : CS} {D D2 : CD} {k q : Nat} {e : va_E} (h : (cW G S D)[k]? = some (q, e)) : ∃ e', (cW G S D2)[k]? = some (q, e') := by
  have h1 : ((cW G S D2).map Prod.fst)[k]? = some q := by
    have h0 : (cW G S D2).map Prod.fst = (cW G S D).map Prod.fst := by simp [cW, va_pl, Function.comp_def]
    rw [h0, List.getElem?_map, h]; rfl
  rw [List.getElem?_map] at h1
  cases h2 : (cW G S D2)[k]? with
  | none => rw [h2] at h1; cases h1
  | some x => obtain ⟨a, b⟩ := x; rw [h2] at h1; cases h1; exact ⟨b, rfl⟩
theorem cget {G : cG} {S : CS} {D : CD} {a : Nat} {x : va_E} (hm : a ∈ S.1) (hE : cE G S D a = x) : ∃ k : Nat, (cW G S D)[k]? = some (a, x) := by
  obtain ⟨k, hk⟩ := va_pl_get (X := []) (f := cE G S D) hm
  exact ⟨k, by rw [← hE]; exact hk⟩
theorem cset {G : cG} {S : CS} {D D2 : CD} {A : Nat → Prop} {a k : Nat} {x y : va_E} (hD : va_D A (cW G S D)) (hm : a ∈ S.1) (hE : cE G S D a = x) (hk : (cW G S D)[k]? = some (a, x)) (h1 : y = cE G S D2 a) (h2 : ∀ b, b ≠ a → cE G S D b = cE G S D2 b) : (cW G S D).set k (a, y) = cW G S D2 := by
  have h := va_pl_set (X := []) (f := cE G S D) (e := y) hD hm (by rw [hE]; exact hk)
  refine h.trans (va_pl_congr (fun b => ?_))
  by_cases hb : b = a
  · subst hb; rw [va_up, if_pos rfl]; exact h1
  · rw [va_up, if_neg hb]; exact h2 b hb
def cNL : List (String × Nat × String × String × String × String) := [("SegmentMap", 108, "SegmentMap$Vertices", "count", "I", "SegmentMap"), ("SegmentMap", 112, "SegmentMap$Edges", "count", "I", "SegmentMap"), ("SegmentMap", 113, "SegmentMap$Faces", "count", "I", "SegmentMap"), ("SegmentMap", 124, "SegmentMap$Point", "xOver", "J", "SegmentMap"), ("SegmentMap", 128, "SegmentMap$Point", "xUnder", "J", "SegmentMap"), ("SegmentMap", 131, "SegmentMap$Point", "yOver", "J", "SegmentMap"), ("SegmentMap", 134, "SegmentMap$Point", "yUnder", "J", "SegmentMap"), ("SegmentMap", 137, "SegmentMap$Vertices", "outgoing", "LSegmentMap$Row;", "SegmentMap"), ("SegmentMap", 147, "SegmentMap$Edges", "line", "LSegmentMap$Row;", "SegmentMap"), ("SegmentMap", 150, "SegmentMap$Edges", "start", "LSegmentMap$Row;", "SegmentMap"), ("SegmentMap", 153, "SegmentMap$Edges", "end", "LSegmentMap$Row;", "SegmentMap"), ("SegmentMap", 156, "SegmentMap$Edges", "face", "LSegmentMap$Row;", "SegmentMap"), ("SegmentMap", 162, "SegmentMap$Faces", "sideCount", "LSegmentMap$Row;", "SegmentMap"), ("SegmentMap", 165, "SegmentMap$Faces", "first", "LSegmentMap$Row;", "SegmentMap"), ("SegmentMap", 241, "SegmentMap$Segment", "startX", "I", "SegmentMap"), ("SegmentMap", 244, "SegmentMap$Segment", "startY", "I", "SegmentMap"), ("SegmentMap", 251, "SegmentMap$Segment", "endX", "I", "SegmentMap"), ("SegmentMap", 254, "SegmentMap$Segment", "endY", "I", "SegmentMap"), ("SegmentMap", 287, "SegmentMap$Vertices", "lowest", "LSegmentMap$Row;", "SegmentMap"), ("SegmentMap", 290, "SegmentMap$Edges", "above", "LSegmentMap$Row;", "SegmentMap"), ("SegmentMap", 293, "SegmentMap$Vertices", "top", "LSegmentMap$Row;", "SegmentMap"), ("SegmentMap", 296, "SegmentMap$Vertices", "root", "LSegmentMap$Row;", "SegmentMap"), ("SegmentMap$Segment", 70, "SegmentMap$Point", "xUnder", "J", "SegmentMap"), ("SegmentMap$Segment", 73, "SegmentMap$Point", "xOver", "J", "SegmentMap"), ("SegmentMap$Segment", 80, "SegmentMap$Point", "yUnder", "J", "SegmentMap"), ("SegmentMap$Segment", 83, "SegmentMap$Point", "yOver", "J", "SegmentMap")]
/-- the links of one class of the nest to the private fields of another -/
def cN (U : State) : Prop := ∀ q ∈ cNL, va_Nw (.fieldLinkNest q.1 q.2.1 q.2.2.1 q.2.2.2.1 q.2.2.2.2.1 q.2.2.2.2.2) U
theorem cA_eq (G : cG) (S : CS) (D : CD) (sz : Nat) : va_A (cW G S D) sz = cA G S sz := by
  funext q
  refine propext ⟨fun h => ?_, fun h => ?_⟩
  · rcases h with ⟨k, e, h⟩ | h
    · obtain ⟨e', h'⟩ := cfst (D2 := cD0) h; exact Or.inl ⟨k, e', h'⟩
    · exact Or.inr h
  · rcases h with ⟨k, e, h⟩ | h
    · obtain ⟨e', h'⟩ := cfst (D2 := D) h; exact Or.inl ⟨k, e', h'⟩
    · exact Or.inr h
theorem cD_any {G : cG} {S : CS} {A : Nat → Prop} {D : CD} (D2 : CD) (h : va_D A (cW G S D)) : va_D A (cW G S D2) := by
  refine ⟨fun i j p q h1 h2 h3 => ?_, fun k q h1 => ?_⟩
  · obtain ⟨e1, g1⟩ := cfst (D2 := D) (q := p.1) (e := p.2) h1
    obtain ⟨e2, g2⟩ := cfst (D2 := D) (q := q.1) (e := q.2) h2
    exact h.1 i j _ _ g1 g2 h3
  · obtain ⟨e1, g1⟩ := cfst (D2 := D) (q := q.1) (e := q.2) h1
    exact h.2 k (q.1, e1) g1
theorem cA_le {G : cG} {S : CS} {a b : Nat} (h : a ≤ b) {q : Nat} (hq : cA G S b q) : cA G S a q := by
  rcases hq with hq | hq
  · exact Or.inl hq
  · exact Or.inr (Nat.le_trans h hq)
def cIs (G : cG) (S : CS) (D : CD) (t : State) : Prop := va_P G.1 vwCl (cW G S D) t.heap ∧ va_K G.1 vwCl (cTy G) t
def cPc (G : cG) (sz : Nat) (S : CS) (D : CD) (av : List Value) : Array Value → State → Prop := va_Pc av (fun U => U.heap.size = sz ∧ va_P G.1 vwCl (cW G S D) U.heap ∧ va_K G.1 vwCl (cTy G) U ∧ va_D (fun _ => True) (cW G S D) ∧ cN U)
theorem cBlind {G : cG} {sz : Nat} {S : CS} {D : CD} {av : List Value} : FrameBlind (cPc G sz S D av) := fun a U g mk q => by
  obtain ⟨q0, q1, qP, qK, qD, qN⟩ := q
  exact ⟨q0, q1, qP, va_K.moved (u := U) (U := U.calling g mk a) (Vm.Alike.refl U.vm) qK, qD, fun w hw => (qN w hw).same rfl rfl⟩
/-- the contracts: method y, from the state M, comes to the state M2 with the answer r -/
def cMI (l : Launch) (y : MethodName) (ws : List Cond) (rm : Room) (G : cG) (S : CS) (av : List Value) (D D2 : CD) (r : Int32) : Prop := ∀ sz : Nat, Met l y ws rm (cPc G sz S D av) (va_Qi (fun x (_ : Unit) => x = r) (fun _ t => cIs G S D2 t) (cA G S sz)) 0 0 (cA G S sz)
def cML (l : Launch) (y : MethodName) (ws : List Cond) (rm : Room) (G : cG) (S : CS) (av : List Value) (D D2 : CD) (r : Int64) : Prop := ∀ sz : Nat, Met l y ws rm (cPc G sz S D av) (va_Ql (fun x (_ : Unit) => x = r) (fun _ t => cIs G S D2 t) (cA G S sz)) 0 0 (cA G S sz)
def cMV (l : Launch) (y : MethodName) (ws : List Cond) (rm : Room) (G : cG) (S : CS) (av : List Value) (D D2 : CD) : Prop := ∀ sz : Nat, Met l y ws rm (cPc G sz S D av) (va_Qv (fun (_ : Unit) => True) (fun _ t => cIs G S D2 t) (cA G S sz)) 0 0 (cA G S sz)
/-- what stands at a method's entry -/
def cC (own : String) (p : Program) (s : State) (m : MethodId) (args : Array Value) (meth : Method) (c : Code) (ws : List Cond) (cc : ByteArray) (maxL : Nat) (ret : Option FieldType) (G : cG) (S : CS) (sz : Nat) : Prop :=
  p.tables.exec = Jvm.exec ∧ c.code = cc ∧ meth.sig.returnType = ret ∧ (∀ w ∈ ws, w.before args s = true) ∧ s.vm.findClass own = some m.cls ∧ meth.locks = false ∧ c.maxLocals = maxL ∧ va_K G.1 vwCl (cTy G) s ∧ (∀ D : CD, va_D (cA G S sz) (cW G S D)) ∧ s.heap.size = sz ∧ cN s
theorem cBody {l : Launch} {y : MethodName} {ws ws' : List Cond} {rm : Room} {cc : ByteArray} {maxL : Nat} {ret : Option FieldType} {own : String} {G : cG} {S : CS} {av : List Value} {D : CD} {Qc : Nat → Array Value → State → Outcome → State → Prop} (hy : plainName y.cls = true) (hR : y.cls = own) (hw : ws = Cond.code y cc maxL ret :: ws')
    (body : ∀ (sz : Nat) (p : Program) (e : Env) (s : State) (m : MethodId) (below : List Frame) (meth : Method) (c : Code), cC own p s m av.toArray meth c ws cc maxL ret G S sz → va_P G.1 vwCl (cW G S D) s.heap → W p l e (headSpec ws rm).room s m av.toArray below meth c s.heap [] 0 0 (MQ below (Qc sz) av.toArray s 0 0 (cA G S sz)) (entryFrame m av.toArray maxL)) :
    ∀ sz : Nat, Met l y ws rm (cPc G sz S D av) (Qc sz) 0 0 (cA G S sz) := by
  intro sz
  refine Met.ofW (cc := cc) (maxL := maxL) (ret := ret) hy hw ?_
  intro p e s m args below meth c s₁ B hml hv
  obtain ⟨rfl, hsz, hP, hK, hD0, hN⟩ := hv
  have hown : s.vm.findClass own = some m.cls := by rw [← hR]; exact findClass_of_methodNamed B.named
  refine body sz p e s m below meth c ⟨B.exec, B.bytes, B.returns, atoms_spec (ws := ws) B.pre, hown, B.notSynchronized, hml, hK, fun D2 => ?_, hsz, hN⟩ hP
  rw [← cA_eq G S D2]
  exact (cD_any D2 hD0).self
abbrev cQI (below : List Frame) (G : cG) (S : CS) (D2 : CD) (sz : Nat) (av : Array Value) (s : State) (r : Int32) : State → Prop := MQ below (va_Qi (fun x (_ : Unit) => x = r) (fun _ t => cIs G S D2 t) (cA G S sz)) av s 0 0 (cA G S sz)
abbrev cQL (below : List Frame) (G : cG) (S : CS) (D2 : CD) (sz : Nat) (av : Array Value) (s : State) (r : Int64) : State → Prop := MQ below (va_Ql (fun x (_ : Unit) => x = r) (fun _ t => cIs G S D2 t) (cA G S sz)) av s 0 0 (cA G S sz)
abbrev cQV (below : List Frame) (G : cG) (S : CS) (D2 : CD) (sz : Nat) (av : Array Value) (s : State) : State → Prop := MQ below (va_Qv (fun (_ : Unit) => True) (fun _ t => cIs G S D2 t) (cA G S sz)) av s 0 0 (cA G S sz)
theorem cBodyI {l : Launch} {y : MethodName} {ws ws' : List Cond} {rm : Room} {cc : ByteArray} {maxL : Nat} {ret : Option FieldType} {own : String} {G : cG} {S : CS} {av : List Value} {D D2 : CD} {r : Int32} (hy : plainName y.cls = true) (hR : y.cls = own) (hw : ws = Cond.code y cc maxL ret :: ws')
    (body : ∀ (sz : Nat) (p : Program) (e : Env) (s : State) (m : MethodId) (below : List Frame) (meth : Method) (c : Code), cC own p s m av.toArray meth c ws cc maxL ret G S sz → va_P G.1 vwCl (cW G S D) s.heap → W p l e (headSpec ws rm).room s m av.toArray below meth c s.heap [] 0 0 (cQI below G S D2 sz av.toArray s r) (entryFrame m av.toArray maxL)) : cMI l y ws rm G S av D D2 r :=
  cBody (Qc := fun sz => va_Qi (fun x (_ : Unit) => x = r) (fun _ t => cIs G S D2 t) (cA G S sz)) hy hR hw body
theorem cBodyL {l : Launch} {y : MethodName} {ws ws' : List Cond} {rm : Room} {cc : ByteArray} {maxL : Nat} {ret : Option FieldType} {own : String} {G : cG} {S : CS} {av : List Value} {D D2 : CD} {r : Int64} (hy : plainName y.cls = true) (hR : y.cls = own) (hw : ws = Cond.code y cc maxL ret :: ws')
    (body : ∀ (sz : Nat) (p : Program) (e : Env) (s : State) (m : MethodId) (below : List Frame) (meth : Method) (c : Code), cC own p s m av.toArray meth c ws cc maxL ret G S sz → va_P G.1 vwCl (cW G S D) s.heap → W p l e (headSpec ws rm).room s m av.toArray below meth c s.heap [] 0 0 (cQL below G S D2 sz av.toArray s r) (entryFrame m av.toArray maxL)) : cML l y ws rm G S av D D2 r :=
  cBody (Qc := fun sz => va_Ql (fun x (_ : Unit) => x = r) (fun _ t => cIs G S D2 t) (cA G S sz)) hy hR hw body
theorem cBodyV {l : Launch} {y : MethodName} {ws ws' : List Cond} {rm : Room} {cc : ByteArray} {maxL : Nat} {ret : Option FieldType} {own : String} {G : cG} {S : CS} {av : List Value} {D D2 : CD} (hy : plainName y.cls = true) (hR : y.cls = own) (hw : ws = Cond.code y cc maxL ret :: ws')
    (body : ∀ (sz : Nat) (p : Program) (e : Env) (s : State) (m : MethodId) (below : List Frame) (meth : Method) (c : Code), cC own p s m av.toArray meth c ws cc maxL ret G S sz → va_P G.1 vwCl (cW G S D) s.heap → W p l e (headSpec ws rm).room s m av.toArray below meth c s.heap [] 0 0 (cQV below G S D2 sz av.toArray s) (entryFrame m av.toArray maxL)) : cMV l y ws rm G S av D D2 :=
  cBody (Qc := fun sz => va_Qv (fun (_ : Unit) => True) (fun _ t => cIs G S D2 t) (cA G S sz)) hy hR hw body
def cMA (l : Launch) (y : MethodName) (ws : List Cond) (rm : Room) (G : cG) (S : CS) (av : List Value) (D D2 : CD) (r : Nat) : Prop := ∀ sz : Nat, Met l y ws rm (cPc G sz S D av) (va_Qr (fun (_ : Unit) => True) (fun _ a t => a = r ∧ cIs G S D2 t) (cA G S sz)) 0 0 (cA G S sz)
abbrev cQA (below : List Frame) (G : cG) (S : CS) (D2 : CD) (sz : Nat) (av : Array Value) (s : State) (r : Nat) : State → Prop := MQ below (va_Qr (fun (_ : Unit) => True) (fun _ a t => a = r ∧ cIs G S D2 t) (cA G S sz)) av s 0 0 (cA G S sz)
theorem cBodyA {l : Launch} {y : MethodName} {ws ws' : List Cond} {rm : Room} {cc : ByteArray} {maxL : Nat} {ret : Option FieldType} {own : String} {G : cG} {S : CS} {av : List Value} {D D2 : CD} {r : Nat} (hy : plainName y.cls = true) (hR : y.cls = own) (hw : ws = Cond.code y cc maxL ret :: ws')
    (body : ∀ (sz : Nat) (p : Program) (e : Env) (s : State) (m : MethodId) (below : List Frame) (meth : Method) (c : Code), cC own p s m av.toArray meth c ws cc maxL ret G S sz → va_P G.1 vwCl (cW G S D) s.heap → W p l e (headSpec ws rm).room s m av.toArray below meth c s.heap [] 0 0 (cQA below G S D2 sz av.toArray s r) (entryFrame m av.toArray maxL)) : cMA l y ws rm G S av D D2 r :=
  cBody (Qc := fun sz => va_Qr (fun (_ : Unit) => True) (fun _ a t => a = r ∧ cIs G S D2 t) (cA G S sz)) hy hR hw body
section CROWS
variable {p : Program} {l : Launch} {e : Env} {R : Room} {s : State} {m : MethodId} {args : Array Value} {below : List Frame} {meth : Method} {c : Code} {H : Heap} {locs : List Loc} {Q : State → Prop}
variable {pc : Nat} {ls : Array Slot} {rest st0 : List Value} {ws ws' Ts : List Cond} {cc bytes : ByteArray} {maxL nL index n sz : Nat} {ret : Option FieldType} {own : String} {G : cG} {S : CS} {D D2 : CD} {y : MethodName} {rm : Room} {As av : List Value}
theorem c_get {C ref : String} {T : u_T} {N ci a : Nat} {fs : List Value} (hC : cC own p s m args meth c Ts cc nL ret G S sz) (hin : ∀ w ∈ u_ws C T N, w ∈ Ts) (hP : va_P G.1 vwCl (cW G S D) H) (hm : a ∈ S.1) (hE : cE G S D a = .inr (ci, fs)) (hc : vwCl[ci]? = some (C, T, N)) (k : Nat) (hk : k < N) (hlink : (Cond.fieldLink own index ref (T k).2.1 (T k).2.2.1).before args s = true) (hsame : (T k).1 = ref) {v : Value} (hv : fs[k]? = some v) (hdg : decode cc pc = .ok (.getfield index, 3))
    (kk : W p l e R s m args below meth c H locs 0 0 Q (F0 m (pc + 3) ls (v :: rest))) : W p l e R s m args below meth c H locs 0 0 Q (F0 m pc ls (.ref a :: rest)) := by
  obtain ⟨hx, hb, hr, hts, hown, hlocks, hml, hK, hD, hsz, hN⟩ := hC
  obtain ⟨q0, hq⟩ := cget hm hE
  exact va_get (D := G.1) (ci := ci) (C := C) (T := T) (N := N) hx hb hts hin hown hK hP q0 hq hc k hk hlink (fun x h => by rw [hsame] at h; exact h) hv hdg kk
theorem c_getN {C ref nm ds : String} {T : u_T} {N ci a : Nat} {fs : List Value} (hC : cC own p s m args meth c Ts cc nL ret G S sz) (hin : ∀ w ∈ u_ws C T N, w ∈ Ts) (hP : va_P G.1 vwCl (cW G S D) H) (hm : a ∈ S.1) (hE : cE G S D a = .inr (ci, fs)) (hc : vwCl[ci]? = some (C, T, N)) (k : Nat) (hk : k < N) (hq : (own, index, ref, nm, ds, "SegmentMap") ∈ cNL) (hT : T k = (ref, nm, ds, (T k).2.2.2)) {v : Value} (hv : fs[k]? = some v) (hdg : decode cc pc = .ok (.getfield index, 3))
    (kk : W p l e R s m args below meth c H locs 0 0 Q (F0 m (pc + 3) ls (v :: rest))) : W p l e R s m args below meth c H locs 0 0 Q (F0 m pc ls (.ref a :: rest)) := by
  obtain ⟨hx, hb, hr, hts, hown, hlocks, hml, hK, hD, hsz, hN⟩ := hC
  obtain ⟨q0, hq0⟩ := cget hm hE
  have h1 : (T k).1 = ref := by rw [hT]
  have h2 : (T k).2.1 = nm := by rw [hT]
  have h3 : (T k).2.2.1 = ds := by rw [hT]
  refine va_getN (D := G.1) (ci := ci) (C := C) (T := T) (N := N) (host := "SegmentMap") (ref := ref) hx hb hts hin hown hK hP q0 hq0 hc k hk ?_ (fun x h => by rw [h1] at h; exact h) hv hdg kk
  rw [h2, h3]
  exact (hN _ hq).use rfl
theorem c_putI {C ref : String} {T : u_T} {N ci a : Nat} {fs : List Value} (hC : cC own p s m args meth c Ts cc nL ret G S sz) (hin : ∀ w ∈ u_ws C T N, w ∈ Ts) (ty0 : Nat → FieldType) (hty : ∀ k, k < N → parseFieldDescriptor (T k).2.2.1 = some (ty0 k)) (hnm : ∀ a, a < N → ∀ b, b < N → a ≠ b → (T a).2.1 ≠ (T b).2.1) (hP : va_P G.1 vwCl (cW G S D) H) (hS : va_S (cA G S sz) s.heap H locs) (hm : a ∈ S.1) (hE : cE G S D a = .inr (ci, fs)) (hc : vwCl[ci]? = some (C, T, N)) (k : Nat) (hk : k < N) (hlink : (Cond.fieldLink own index ref (T k).2.1 (T k).2.2.1).before args s = true) (hsame : (T k).1 = ref) (hfin : (T k).2.2.2 = false) (hd : parseFieldDescriptor (T k).2.2.1 = some .int) {v : Int32} (hl : k < fs.length) (hD2 : D2 = cpF D a k v) (hset : .inr (ci, fs.set k (.int v)) = cE G S (cpF D a k v) a) (hdg : decode cc pc = .ok (.putfield index, 3))
    (kk : ∀ (H1 : Heap) (locs1 : List Loc), va_P G.1 vwCl (cW G S D2) H1 → va_S (cA G S sz) s.heap H1 locs1 → W p l e R s m args below meth c H1 locs1 0 0 Q (F0 m (pc + 3) ls rest)) : W p l e R s m args below meth c H locs 0 0 Q (F0 m pc ls (.int v :: .ref a :: rest)) := by
  obtain ⟨hx, hb, hr, hts, hown, hlocks, hml, hK, hD, hsz, hN⟩ := hC
  subst hD2
  obtain ⟨q0, hq⟩ := cget hm hE
  have hw := cset (D2 := cpF D a k v) (hD D) hm hE hq hset (fun b hb => cE_ext (by simp [cpF, va_up, hb]) (by simp [cpF, va_up, hb]) rfl rfl)
  exact va_put (D := G.1) (ci := ci) (ty := .int) (C := C) (T := T) (N := N) hx hb hts hin ty0 hty hnm hown hK hP (hD D) hS q0 hq hc k hk hlink (fun x h => by rw [hsame] at h; exact h) hfin hd rfl rfl hl hdg (fun H1 locs1 hP1 _ hS1 => kk H1 locs1 (by rw [← hw]; exact hP1) hS1)
theorem c_putL {C ref : String} {T : u_T} {N ci a : Nat} {fs : List Value} (hC : cC own p s m args meth c Ts cc nL ret G S sz) (hin : ∀ w ∈ u_ws C T N, w ∈ Ts) (ty0 : Nat → FieldType) (hty : ∀ k, k < N → parseFieldDescriptor (T k).2.2.1 = some (ty0 k)) (hnm : ∀ a, a < N → ∀ b, b < N → a ≠ b → (T a).2.1 ≠ (T b).2.1) (hP : va_P G.1 vwCl (cW G S D) H) (hS : va_S (cA G S sz) s.heap H locs) (hm : a ∈ S.1) (hE : cE G S D a = .inr (ci, fs)) (hc : vwCl[ci]? = some (C, T, N)) (k : Nat) (hk : k < N) (hlink : (Cond.fieldLink own index ref (T k).2.1 (T k).2.2.1).before args s = true) (hsame : (T k).1 = ref) (hfin : (T k).2.2.2 = false) (hd : parseFieldDescriptor (T k).2.2.1 = some .long) {v : Int64} (hl : k < fs.length) (hD2 : D2 = cpG D a k v) (hset : .inr (ci, fs.set k (.long v)) = cE G S (cpG D a k v) a) (hdg : decode cc pc = .ok (.putfield index, 3))
    (kk : ∀ (H1 : Heap) (locs1 : List Loc), va_P G.1 vwCl (cW G S D2) H1 → va_S (cA G S sz) s.heap H1 locs1 → W p l e R s m args below meth c H1 locs1 0 0 Q (F0 m (pc + 3) ls rest)) : W p l e R s m args below meth c H locs 0 0 Q (F0 m pc ls (.long v :: .ref a :: rest)) := by
  obtain ⟨hx, hb, hr, hts, hown, hlocks, hml, hK, hD, hsz, hN⟩ := hC
  subst hD2
  obtain ⟨q0, hq⟩ := cget hm hE
  have hw := cset (D2 := cpG D a k v) (hD D) hm hE hq hset (fun b hb => cE_ext (by simp [cpG, va_up, hb]) (by simp [cpG, va_up, hb]) rfl rfl)
  exact va_put (D := G.1) (ci := ci) (ty := .long) (C := C) (T := T) (N := N) hx hb hts hin ty0 hty hnm hown hK hP (hD D) hS q0 hq hc k hk hlink (fun x h => by rw [hsame] at h; exact h) hfin hd rfl rfl hl hdg (fun H1 locs1 hP1 _ hS1 => kk H1 locs1 (by rw [← hw]; exact hP1) hS1)
theorem c_ild {a : Nat} (hC : cC own p s m args meth c Ts cc nL ret G S sz) (hP : va_P G.1 vwCl (cW G S D) H) (hm : a ∈ S.1) (hk : S.2.1 a = 8) {i t : Int32} (hin : vp_in i (S.2.2.2 a)) (ht : t = D.2.2.1 a i.toNatClampNeg) (hdg : decode cc pc = .ok (.iaload, 1))
    (kk : W p l e R s m args below meth c H locs 0 0 Q (F0 m (pc + 1) ls (.int t :: rest))) : W p l e R s m args below meth c H locs 0 0 Q (F0 m pc ls (.int i :: .ref a :: rest)) := by
  obtain ⟨hx, hb, hr, hts, hown, hlocks, hml, hK, hD, hsz, hN⟩ := hC
  subst ht
  obtain ⟨q0, hq⟩ := cget hm (cE_8 hk)
  exact va_iald hx hb hK hP q0 0 hq rfl hin hdg kk
theorem c_ald9 {a b : Nat} (hC : cC own p s m args meth c Ts cc nL ret G S sz) (hP : va_P G.1 vwCl (cW G S D) H) (hm : a ∈ S.1) (hk : S.2.1 a = 9) {i : Int32} (hin : vp_in i (S.2.2.2 a)) (ht : D.2.2.2 a i.toNatClampNeg = some b) (hdg : decode cc pc = .ok (.aaload, 1))
    (kk : W p l e R s m args below meth c H locs 0 0 Q (F0 m (pc + 1) ls (.ref b :: rest))) : W p l e R s m args below meth c H locs 0 0 Q (F0 m pc ls (.int i :: .ref a :: rest)) := by
  obtain ⟨hx, hb, hr, hts, hown, hlocks, hml, hK, hD, hsz, hN⟩ := hC
  obtain ⟨q0, hq⟩ := cget hm (cE_9 hk)
  exact va_aldq hx hb hK hP q0 1 (C := "SegmentMap$Point") hq rfl hin hdg (by rw [ht]; exact kk)
theorem c_ald10 {a b : Nat} (hC : cC own p s m args meth c Ts cc nL ret G S sz) (hP : va_P G.1 vwCl (cW G S D) H) (hm : a ∈ S.1) (hk : S.2.1 a = 10) {i : Int32} (hin : vp_in i (S.2.2.2 a)) (ht : D.2.2.2 a i.toNatClampNeg = some b) (hdg : decode cc pc = .ok (.aaload, 1))
    (kk : W p l e R s m args below meth c H locs 0 0 Q (F0 m (pc + 1) ls (.ref b :: rest))) : W p l e R s m args below meth c H locs 0 0 Q (F0 m pc ls (.int i :: .ref a :: rest)) := by
  obtain ⟨hx, hb, hr, hts, hown, hlocks, hml, hK, hD, hsz, hN⟩ := hC
  obtain ⟨q0, hq⟩ := cget hm (cE_10 hk)
  exact va_aldq hx hb hK hP q0 2 (C := "java/lang/Object") hq rfl hin hdg (by rw [ht]; exact kk)
theorem c_alen {a : Nat} (hC : cC own p s m args meth c Ts cc nL ret G S sz) (hP : va_P G.1 vwCl (cW G S D) H) (hm : a ∈ S.1) (hk : 8 ≤ S.2.1 a) (hk2 : S.2.1 a ≤ 10) (hdg : decode cc pc = .ok (.arraylength, 1))
    (kk : W p l e R s m args below meth c H locs 0 0 Q (F0 m (pc + 1) ls (.int (Int32.ofNat (S.2.2.2 a)) :: rest))) : W p l e R s m args below meth c H locs 0 0 Q (F0 m pc ls (.ref a :: rest)) := by
  obtain ⟨hx, hb, hr, hts, hown, hlocks, hml, hK, hD, hsz, hN⟩ := hC
  rcases (show S.2.1 a = 8 ∨ S.2.1 a = 9 ∨ S.2.1 a = 10 by omega) with h | h | h
  · obtain ⟨q0, hq⟩ := cget (G := G) (D := D) hm (cE_8 h)
    exact va_alen hx hb hK hP q0 0 hq (ty := .int) rfl rfl hdg kk
  · obtain ⟨q0, hq⟩ := cget (G := G) (D := D) hm (cE_9 h)
    exact va_alen hx hb hK hP q0 1 hq (ty := .object "SegmentMap$Point") rfl rfl hdg kk
  · obtain ⟨q0, hq⟩ := cget (G := G) (D := D) hm (cE_10 h)
    exact va_alen hx hb hK hP q0 2 hq (ty := .object "java/lang/Object") rfl rfl hdg kk
theorem c_ist {a : Nat} (hC : cC own p s m args meth c Ts cc nL ret G S sz) (hP : va_P G.1 vwCl (cW G S D) H) (hS : va_S (cA G S sz) s.heap H locs) (hm : a ∈ S.1) (hk : S.2.1 a = 8) {i v : Int32} (hin : vp_in i (S.2.2.2 a)) (hD2 : D2 = cpA D a (upd (D.2.2.1 a) i.toNatClampNeg v)) (hdg : decode cc pc = .ok (.iastore, 1))
    (kk : ∀ (H1 : Heap) (locs1 : List Loc), va_P G.1 vwCl (cW G S D2) H1 → va_S (cA G S sz) s.heap H1 locs1 → W p l e R s m args below meth c H1 locs1 0 0 Q (F0 m (pc + 1) ls rest)) : W p l e R s m args below meth c H locs 0 0 Q (F0 m pc ls (.int v :: .int i :: .ref a :: rest)) := by
  obtain ⟨hx, hb, hr, hts, hown, hlocks, hml, hK, hD, hsz, hN⟩ := hC
  subst hD2
  obtain ⟨q0, hq⟩ := cget (G := G) (D := D) hm (cE_8 hk)
  have hw := cset (D2 := cpA D a (upd (D.2.2.1 a) i.toNatClampNeg v)) (hD D) hm (cE_8 hk) hq (y := .inl (ccI G, S.2.2.2 a, .inl (upd (D.2.2.1 a) i.toNatClampNeg v))) (by rw [cE_8 hk]; simp [cpA, va_up]) (fun b hb => cE_ext rfl rfl (by simp [cpA, va_up, hb]) rfl)
  exact va_iast hx hb hK hP (hD D) hS q0 0 hq rfl hin hdg (fun H1 locs1 hP1 _ hS1 => kk H1 locs1 (by rw [← hw]; exact hP1) hS1)
theorem c_past {a v : Nat} (hC : cC own p s m args meth c Ts cc nL ret G S sz) (hP : va_P G.1 vwCl (cW G S D) H) (hS : va_S (cA G S sz) s.heap H locs) (hm : a ∈ S.1) (hk : S.2.1 a = 9) (hv : v ∈ S.1) (hkv : S.2.1 v = 2) {i : Int32} (hin : vp_in i (S.2.2.2 a)) (hD2 : D2 = cpR D a (va_up (D.2.2.2 a) i.toNatClampNeg (some v))) (hdg : decode cc pc = .ok (.aastore, 1))
    (kk : ∀ (H1 : Heap) (locs1 : List Loc), va_P G.1 vwCl (cW G S D2) H1 → va_S (cA G S sz) s.heap H1 locs1 → W p l e R s m args below meth c H1 locs1 0 0 Q (F0 m (pc + 1) ls rest)) : W p l e R s m args below meth c H locs 0 0 Q (F0 m pc ls (.ref v :: .int i :: .ref a :: rest)) := by
  obtain ⟨hx, hb, hr, hts, hown, hlocks, hml, hK, hD, hsz, hN⟩ := hC
  subst hD2
  obtain ⟨q0, hq⟩ := cget (G := G) (D := D) hm (cE_9 hk)
  obtain ⟨q1, hq1⟩ := cget (G := G) (D := D) hv (cE_2 hkv)
  have hw := cset (D2 := cpR D a (va_up (D.2.2.2 a) i.toNatClampNeg (some v))) (hD D) hm (cE_9 hk) hq (y := .inl (ccP G, S.2.2.2 a, .inr (.inr (.inr (.inr (va_up (D.2.2.2 a) i.toNatClampNeg (some v))))))) (by rw [cE_9 hk]; simp [cpR, va_up]) (fun b hb => cE_ext rfl rfl rfl (by simp [cpR, va_up, hb]))
  exact va_astq hx hb hK hP (hD D) hS q0 1 q1 3 (r := (RX2, TX2, 4)) hq rfl hq1 rfl hin hdg (fun H1 locs1 hP1 _ hS1 => kk H1 locs1 (by rw [← hw]; exact hP1) hS1)
theorem c_rec {C : String} {T : u_T} {N ci a : Nat} {fs : List Value} (hC : cC own p s m args meth c Ts cc nL ret G S sz) (hP : va_P G.1 vwCl (cW G S D) H) (hm : a ∈ S.1) (hE : cE G S D a = .inr (ci, fs)) (hc : vwCl[ci]? = some (C, T, N)) : ∃ cell : Cell, H[a]? = some cell ∧ cell.vm.isStatics = false ∧ s.vm.findClass C = some cell.cls := by
  obtain ⟨hx, hb, hr, hts, hown, hlocks, hml, hK, hD, hsz, hN⟩ := hC
  obtain ⟨q0, hq⟩ := cget hm hE
  exact va_recv hK hP hc hq
theorem c_cast {C : String} {T : u_T} {N ci a : Nat} {fs : List Value} (hC : cC own p s m args meth c Ts cc nL ret G S sz) (hP : va_P G.1 vwCl (cW G S D) H) (hm : a ∈ S.1) (hE : cE G S D a = .inr (ci, fs)) (hc : vwCl[ci]? = some (C, T, N)) (hlink : (Cond.classLink own index C).before args s = true) (hdg : decode cc pc = .ok (.checkcast index, 3))
    (kk : W p l e R s m args below meth c H locs 0 0 Q (F0 m (pc + 3) ls (.ref a :: rest))) : W p l e R s m args below meth c H locs 0 0 Q (F0 m pc ls (.ref a :: rest)) := by
  have hrr := c_rec hC hP hm hE hc
  obtain ⟨hx, hb, hr, hts, hown, hlocks, hml, hK, hD, hsz, hN⟩ := hC
  exact va_castS hx hb hown hlink (hK.1 ci _ hc).2 hrr hdg kk
theorem c_iret (hC : cC own p s m args meth c Ts cc nL (some .int) G S sz) (hP : va_P G.1 vwCl (cW G S D) H) (hS : va_S (cA G S sz) s.heap H locs) {v r : Int32} (hv : v = r) (hdg : decode cc pc = .ok (.ireturn, 1)) : W p l e R s m args below meth c H locs 0 0 (MQ below (va_Qi (fun x (_ : Unit) => x = r) (fun _ t => cIs G S D t) (cA G S sz)) args s 0 0 (cA G S sz)) (F0 m pc ls [.int v]) := by
  obtain ⟨hx, hb, hr, hts, hown, hlocks, hml, hK, hD, hsz, hN⟩ := hC
  exact W.iret (v := v) hx hb hr (fun t ht hW => ⟨⟨v, (), rfl, hv, by rw [ht]; exact hP, va_K.moved hW.alike hK⟩, hS.F ht⟩) hS.2.2 hdg hlocks
theorem c_lret (hC : cC own p s m args meth c Ts cc nL (some .long) G S sz) (hP : va_P G.1 vwCl (cW G S D) H) (hS : va_S (cA G S sz) s.heap H locs) {v r : Int64} (hv : v = r) (hdg : decode cc pc = .ok (.lreturn, 1)) : W p l e R s m args below meth c H locs 0 0 (MQ below (va_Ql (fun x (_ : Unit) => x = r) (fun _ t => cIs G S D t) (cA G S sz)) args s 0 0 (cA G S sz)) (F0 m pc ls [.long v]) := by
  obtain ⟨hx, hb, hr, hts, hown, hlocks, hml, hK, hD, hsz, hN⟩ := hC
  exact W.lret (v := v) hx hb hr (fun t ht hW => ⟨⟨v, (), rfl, hv, by rw [ht]; exact hP, va_K.moved hW.alike hK⟩, hS.F ht⟩) hS.2.2 hdg hlocks
theorem c_zret (hC : cC own p s m args meth c Ts cc nL (some .boolean) G S sz) (hP : va_P G.1 vwCl (cW G S D) H) (hS : va_S (cA G S sz) s.heap H locs) {v r : Int32} (hz : v = 0 ∨ v = 1) (hv : v = r) (hdg : decode cc pc = .ok (.ireturn, 1)) : W p l e R s m args below meth c H locs 0 0 (MQ below (va_Qi (fun x (_ : Unit) => x = r) (fun _ t => cIs G S D t) (cA G S sz)) args s 0 0 (cA G S sz)) (F0 m pc ls [.int v]) := by
  obtain ⟨hx, hb, hr, hts, hown, hlocks, hml, hK, hD, hsz, hN⟩ := hC
  exact W.zret (v := v) hx hb hr (by rcases hz with rfl | rfl <;> rfl) (fun t ht hW => ⟨⟨v, (), rfl, hv, by rw [ht]; exact hP, va_K.moved hW.alike hK⟩, hS.F ht⟩) hS.2.2 hdg hlocks
theorem c_vret (hC : cC own p s m args meth c Ts cc nL none G S sz) (hP : va_P G.1 vwCl (cW G S D) H) (hS : va_S (cA G S sz) s.heap H locs) (hdg : decode cc pc = .ok (.return_, 1)) : W p l e R s m args below meth c H locs 0 0 (MQ below (va_Qv (fun (_ : Unit) => True) (fun _ t => cIs G S D t) (cA G S sz)) args s 0 0 (cA G S sz)) (F0 m pc ls []) := by
  obtain ⟨hx, hb, hr, hts, hown, hlocks, hml, hK, hD, hsz, hN⟩ := hC
  exact W.vret hx hb hr (fun t ht hW => ⟨⟨(), rfl, trivial, by rw [ht]; exact hP, va_K.moved hW.alike hK⟩, hS.F ht⟩) hS.2.2 hdg hlocks
theorem c_aret {rt : FieldType} (hC : cC own p s m args meth c Ts cc nL (some rt) G S sz) (hrt : ∃ n, rt = .object n) (hP : va_P G.1 vwCl (cW G S D) H) (hS : va_S (cA G S sz) s.heap H locs) {v r : Nat} (hv : v = r) (hdg : decode cc pc = .ok (.areturn, 1)) : W p l e R s m args below meth c H locs 0 0 (MQ below (va_Qr (fun (_ : Unit) => True) (fun _ a t => a = r ∧ cIs G S D t) (cA G S sz)) args s 0 0 (cA G S sz)) (F0 m pc ls [.ref v]) := by
  obtain ⟨hx, hb, hr, hts, hown, hlocks, hml, hK, hD, hsz, hN⟩ := hC
  exact W.aret (v := .ref v) hx hb hr (Or.inl hrt) (Or.inr ⟨v, rfl⟩) (fun t ht hW => ⟨⟨(), v, rfl, trivial, hv, by rw [ht]; exact hP, va_K.moved hW.alike hK⟩, hS.F ht⟩) hS.2.2 hdg hlocks
theorem c_pre (hC : cC own p s m args meth c Ts cc nL ret G S sz) (hP : va_P G.1 vwCl (cW G S D) H) (U : State) (hU : U.heap = H) (hW : s.WarmedH U.vm) : cPc G H.size S D av av.toArray U := by
  obtain ⟨hx, hb, hr, hts, hown, hlocks, hml, hK, hD, hsz, hN⟩ := hC
  exact ⟨rfl, by rw [hU], by rw [hU]; exact hP, va_K.moved hW.alike hK, (hD D).weaken (fun _ _ _ _ => trivial), fun q hq => (hN q hq).warmF hW⟩
theorem c_fix (hC : cC own p s m args meth c Ts cc nL ret G S sz) : CallFix p m c cc nL s args Ts own := by
  obtain ⟨hx, hb, hr, hts, hown, hlocks, hml, hK, hD, hsz, hN⟩ := hC
  exact ⟨hx, hb, hml, hown, hts⟩
theorem c_sub (hC : cC own p s m args meth c Ts cc nL ret G S sz) (hS : va_S (cA G S sz) s.heap H locs) : ∀ q, cA G S H.size q → cA G S sz q := by
  obtain ⟨hx, hb, hr, hts, hown, hlocks, hml, hK, hD, hsz, hN⟩ := hC
  exact fun q h => cA_le (by rw [← hsz]; exact hS.1) h
theorem c_VI {r : Int32} {C : String} {T : u_T} {N ci a : Nat} {fs : List Value} (hC : cC own p s m args meth c Ts cc nL ret G S sz) (hP : va_P G.1 vwCl (cW G S D) H) (hS : va_S (cA G S sz) s.heap H locs) (hm : a ∈ S.1) (hE : cE G S D a = .inr (ci, fs)) (hc : vwCl[ci]? = some (C, T, N)) {ret' : Option FieldType} (hM : cMI l y ws rm G S (.ref a :: As) D D2 r) (cw : CallW R s args own C index y bytes maxL ret' ws rm 0 0 n) (hn : As.length = n) (hsize : ls.size = nL) (hst : st0 = As.reverse ++ .ref a :: rest) (hr8 : (rest.map fun v => v.category).sum ≤ 8) (hdg : decode cc pc = .ok (.invokevirtual index, 3))
    (kk : ∀ (H1 : Heap) (locs1 : List Loc), va_P G.1 vwCl (cW G S D2) H1 → va_S (cA G S sz) s.heap H1 locs1 → W p l e R s m args below meth c H1 locs1 0 0 Q (F0 m (pc + 3) ls (.int r :: rest))) : W p l e R s m args below meth c H locs 0 0 Q (F0 m pc ls st0) := by
  refine va_calli (va_runV (As := As) (rest := rest) (g := F0 m pc ls st0) (c_fix hC) (hM H.size) cw ⟨cBlind, c_rec hC hP hm hE hc, fun U hU hW => c_pre (av := .ref a :: As) hC hP U hU hW⟩ rfl hn hsize hst (lv_room hr8) hdg ⟨Nat.zero_le _, Nat.zero_le _⟩) hS (fun q _ h => c_sub hC hS q h) (c_sub hC hS) (fun r1 u t H1 locs1 ht hvm hw hB hz1 hk1 hS1 => ?_)
  cases hw
  exact kk H1 locs1 (by rw [← ht]; exact hB.1) hS1
theorem c_SI {r : Int32} (hC : cC own p s m args meth c Ts cc nL ret G S sz) (hP : va_P G.1 vwCl (cW G S D) H) (hS : va_S (cA G S sz) s.heap H locs) {ret' : Option FieldType} (hM : cMI l y ws rm G S As D D2 r) (cw : CallB R s args own index y bytes maxL ret' ws rm 0 0 n ∧ (Cond.static y).before args s = true) (hn : As.length = n) (hsize : ls.size = nL) (hst : st0 = As.reverse ++ rest) (hr8 : (rest.map fun v => v.category).sum ≤ 8) (hdg : decode cc pc = .ok (.invokestatic index, 3))
    (kk : ∀ (H1 : Heap) (locs1 : List Loc), va_P G.1 vwCl (cW G S D2) H1 → va_S (cA G S sz) s.heap H1 locs1 → W p l e R s m args below meth c H1 locs1 0 0 Q (F0 m (pc + 3) ls (.int r :: rest))) : W p l e R s m args below meth c H locs 0 0 Q (F0 m pc ls st0) := by
  refine va_calli (va_runS (As := As) (rest := rest) (g := F0 m pc ls st0) (c_fix hC) (hM H.size) cw ⟨cBlind, fun U hU hW => c_pre (av := As) hC hP U hU hW⟩ rfl hn hsize hst (lv_room hr8) hdg ⟨Nat.zero_le _, Nat.zero_le _⟩) hS (fun q _ h => c_sub hC hS q h) (c_sub hC hS) (fun r1 u t H1 locs1 ht hvm hw hB hz1 hk1 hS1 => ?_)
  cases hw
  exact kk H1 locs1 (by rw [← ht]; exact hB.1) hS1
theorem c_VL {r : Int64} {C : String} {T : u_T} {N ci a : Nat} {fs : List Value} (hC : cC own p s m args meth c Ts cc nL ret G S sz) (hP : va_P G.1 vwCl (cW G S D) H) (hS : va_S (cA G S sz) s.heap H locs) (hm : a ∈ S.1) (hE : cE G S D a = .inr (ci, fs)) (hc : vwCl[ci]? = some (C, T, N)) {ret' : Option FieldType} (hM : cML l y ws rm G S (.ref a :: As) D D2 r) (cw : CallW R s args own C index y bytes maxL ret' ws rm 0 0 n) (hn : As.length = n) (hsize : ls.size = nL) (hst : st0 = As.reverse ++ .ref a :: rest) (hr8 : (rest.map fun v => v.category).sum ≤ 8) (hdg : decode cc pc = .ok (.invokevirtual index, 3))
    (kk : ∀ (H1 : Heap) (locs1 : List Loc), va_P G.1 vwCl (cW G S D2) H1 → va_S (cA G S sz) s.heap H1 locs1 → W p l e R s m args below meth c H1 locs1 0 0 Q (F0 m (pc + 3) ls (.long r :: rest))) : W p l e R s m args below meth c H locs 0 0 Q (F0 m pc ls st0) := by
  refine va_calll (va_runV (As := As) (rest := rest) (g := F0 m pc ls st0) (c_fix hC) (hM H.size) cw ⟨cBlind, c_rec hC hP hm hE hc, fun U hU hW => c_pre (av := .ref a :: As) hC hP U hU hW⟩ rfl hn hsize hst (lv_room hr8) hdg ⟨Nat.zero_le _, Nat.zero_le _⟩) hS (fun q _ h => c_sub hC hS q h) (c_sub hC hS) (fun r1 u t H1 locs1 ht hvm hw hB hz1 hk1 hS1 => ?_)
  cases hw
  exact kk H1 locs1 (by rw [← ht]; exact hB.1) hS1
theorem c_SL {r : Int64} (hC : cC own p s m args meth c Ts cc nL ret G S sz) (hP : va_P G.1 vwCl (cW G S D) H) (hS : va_S (cA G S sz) s.heap H locs) {ret' : Option FieldType} (hM : cML l y ws rm G S As D D2 r) (cw : CallB R s args own index y bytes maxL ret' ws rm 0 0 n ∧ (Cond.static y).before args s = true) (hn : As.length = n) (hsize : ls.size = nL) (hst : st0 = As.reverse ++ rest) (hr8 : (rest.map fun v => v.category).sum ≤ 8) (hdg : decode cc pc = .ok (.invokestatic index, 3))
    (kk : ∀ (H1 : Heap) (locs1 : List Loc), va_P G.1 vwCl (cW G S D2) H1 → va_S (cA G S sz) s.heap H1 locs1 → W p l e R s m args below meth c H1 locs1 0 0 Q (F0 m (pc + 3) ls (.long r :: rest))) : W p l e R s m args below meth c H locs 0 0 Q (F0 m pc ls st0) := by
  refine va_calll (va_runS (As := As) (rest := rest) (g := F0 m pc ls st0) (c_fix hC) (hM H.size) cw ⟨cBlind, fun U hU hW => c_pre (av := As) hC hP U hU hW⟩ rfl hn hsize hst (lv_room hr8) hdg ⟨Nat.zero_le _, Nat.zero_le _⟩) hS (fun q _ h => c_sub hC hS q h) (c_sub hC hS) (fun r1 u t H1 locs1 ht hvm hw hB hz1 hk1 hS1 => ?_)
  cases hw
  exact kk H1 locs1 (by rw [← ht]; exact hB.1) hS1
theorem c_VV {C : String} {T : u_T} {N ci a : Nat} {fs : List Value} (hC : cC own p s m args meth c Ts cc nL ret G S sz) (hP : va_P G.1 vwCl (cW G S D) H) (hS : va_S (cA G S sz) s.heap H locs) (hm : a ∈ S.1) (hE : cE G S D a = .inr (ci, fs)) (hc : vwCl[ci]? = some (C, T, N)) {ret' : Option FieldType} (hM : cMV l y ws rm G S (.ref a :: As) D D2) (cw : CallW R s args own C index y bytes maxL ret' ws rm 0 0 n) (hn : As.length = n) (hsize : ls.size = nL) (hst : st0 = As.reverse ++ .ref a :: rest) (hr8 : (rest.map fun v => v.category).sum ≤ 8) (hdg : decode cc pc = .ok (.invokevirtual index, 3))
    (kk : ∀ (H1 : Heap) (locs1 : List Loc), va_P G.1 vwCl (cW G S D2) H1 → va_S (cA G S sz) s.heap H1 locs1 → W p l e R s m args below meth c H1 locs1 0 0 Q (F0 m (pc + 3) ls rest)) : W p l e R s m args below meth c H locs 0 0 Q (F0 m pc ls st0) := by
  refine va_callv (va_runV (As := As) (rest := rest) (g := F0 m pc ls st0) (c_fix hC) (hM H.size) cw ⟨cBlind, c_rec hC hP hm hE hc, fun U hU hW => c_pre (av := .ref a :: As) hC hP U hU hW⟩ rfl hn hsize hst (lv_room hr8) hdg ⟨Nat.zero_le _, Nat.zero_le _⟩) hS (fun q _ h => c_sub hC hS q h) (c_sub hC hS) (fun u t H1 locs1 ht hvm hw hB hz1 hk1 hS1 => ?_)
  exact kk H1 locs1 (by rw [← ht]; exact hB.1) hS1
theorem c_SV (hC : cC own p s m args meth c Ts cc nL ret G S sz) (hP : va_P G.1 vwCl (cW G S D) H) (hS : va_S (cA G S sz) s.heap H locs) {ret' : Option FieldType} (hM : cMV l y ws rm G S As D D2) (cw : CallB R s args own index y bytes maxL ret' ws rm 0 0 n ∧ (Cond.static y).before args s = true) (hn : As.length = n) (hsize : ls.size = nL) (hst : st0 = As.reverse ++ rest) (hr8 : (rest.map fun v => v.category).sum ≤ 8) (hdg : decode cc pc = .ok (.invokestatic index, 3))
    (kk : ∀ (H1 : Heap) (locs1 : List Loc), va_P G.1 vwCl (cW G S D2) H1 → va_S (cA G S sz) s.heap H1 locs1 → W p l e R s m args below meth c H1 locs1 0 0 Q (F0 m (pc + 3) ls rest)) : W p l e R s m args below meth c H locs 0 0 Q (F0 m pc ls st0) := by
  refine va_callv (va_runS (As := As) (rest := rest) (g := F0 m pc ls st0) (c_fix hC) (hM H.size) cw ⟨cBlind, fun U hU hW => c_pre (av := As) hC hP U hU hW⟩ rfl hn hsize hst (lv_room hr8) hdg ⟨Nat.zero_le _, Nat.zero_le _⟩) hS (fun q _ h => c_sub hC hS q h) (c_sub hC hS) (fun u t H1 locs1 ht hvm hw hB hz1 hk1 hS1 => ?_)
  exact kk H1 locs1 (by rw [← ht]; exact hB.1) hS1
theorem c_VA {r : Nat} {C : String} {T : u_T} {N ci a : Nat} {fs : List Value} (hC : cC own p s m args meth c Ts cc nL ret G S sz) (hP : va_P G.1 vwCl (cW G S D) H) (hS : va_S (cA G S sz) s.heap H locs) (hm : a ∈ S.1) (hE : cE G S D a = .inr (ci, fs)) (hc : vwCl[ci]? = some (C, T, N)) {ret' : Option FieldType} (hM : cMA l y ws rm G S (.ref a :: As) D D2 r) (cw : CallW R s args own C index y bytes maxL ret' ws rm 0 0 n) (hn : As.length = n) (hsize : ls.size = nL) (hst : st0 = As.reverse ++ .ref a :: rest) (hr8 : (rest.map fun v => v.category).sum ≤ 8) (hdg : decode cc pc = .ok (.invokevirtual index, 3))
    (kk : ∀ (H1 : Heap) (locs1 : List Loc), va_P G.1 vwCl (cW G S D2) H1 → va_S (cA G S sz) s.heap H1 locs1 → W p l e R s m args below meth c H1 locs1 0 0 Q (F0 m (pc + 3) ls (.ref r :: rest))) : W p l e R s m args below meth c H locs 0 0 Q (F0 m pc ls st0) := by
  refine va_callr (va_runV (As := As) (rest := rest) (g := F0 m pc ls st0) (c_fix hC) (hM H.size) cw ⟨cBlind, c_rec hC hP hm hE hc, fun U hU hW => c_pre (av := .ref a :: As) hC hP U hU hW⟩ rfl hn hsize hst (lv_room hr8) hdg ⟨Nat.zero_le _, Nat.zero_le _⟩) hS (fun q _ h => c_sub hC hS q h) (c_sub hC hS) (fun u r1 t H1 locs1 ht hvm hw hB hz1 hk1 hS1 => ?_)
  obtain ⟨rfl, hB⟩ := hB
  exact kk H1 locs1 (by rw [← ht]; exact hB.1) hS1
theorem c_SA {r : Nat} (hC : cC own p s m args meth c Ts cc nL ret G S sz) (hP : va_P G.1 vwCl (cW G S D) H) (hS : va_S (cA G S sz) s.heap H locs) {ret' : Option FieldType} (hM : cMA l y ws rm G S As D D2 r) (cw : CallB R s args own index y bytes maxL ret' ws rm 0 0 n ∧ (Cond.static y).before args s = true) (hn : As.length = n) (hsize : ls.size = nL) (hst : st0 = As.reverse ++ rest) (hr8 : (rest.map fun v => v.category).sum ≤ 8) (hdg : decode cc pc = .ok (.invokestatic index, 3))
    (kk : ∀ (H1 : Heap) (locs1 : List Loc), va_P G.1 vwCl (cW G S D2) H1 → va_S (cA G S sz) s.heap H1 locs1 → W p l e R s m args below meth c H1 locs1 0 0 Q (F0 m (pc + 3) ls (.ref r :: rest))) : W p l e R s m args below meth c H locs 0 0 Q (F0 m pc ls st0) := by
  refine va_callr (va_runS (As := As) (rest := rest) (g := F0 m pc ls st0) (c_fix hC) (hM H.size) cw ⟨cBlind, fun U hU hW => c_pre (av := As) hC hP U hU hW⟩ rfl hn hsize hst (lv_room hr8) hdg ⟨Nat.zero_le _, Nat.zero_le _⟩) hS (fun q _ h => c_sub hC hS q h) (c_sub hC hS) (fun u r1 t H1 locs1 ht hvm hw hB hz1 hk1 hS1 => ?_)
  obtain ⟨rfl, hB⟩ := hB
  exact kk H1 locs1 (by rw [← ht]; exact hB.1) hS1
end CROWS
/-! looks, for the class's world -/
section COPT
variable {α : Type}
def ckK (S : CS) (a k : Nat) (g : Option α) : Option α := if a ∈ S.1 ∧ S.2.1 a = k then g else none
theorem ckK_el {S : CS} {a k : Nat} {g : Option α} {r : α} (h : ckK S a k g = some r) : (a ∈ S.1 ∧ S.2.1 a = k) ∧ g = some r := by
  unfold ckK at h; split at h
  · next hn => exact ⟨hn, h⟩
  · cases h
def rdA (n : Nat) (f : Nat → Option Nat) (i : Int32) (g : Nat → Option α) : Option α := if i < 0 ∨ n ≤ i.toNatClampNeg then none else (f i.toNatClampNeg).bind g
theorem rdA_el {n : Nat} {f : Nat → Option Nat} {i : Int32} {g : Nat → Option α} {r : α} (h : rdA n f i g = some r) : vp_in i n ∧ ∃ t : Nat, f i.toNatClampNeg = some t ∧ g t = some r := by
  unfold rdA at h; split at h
  · cases h
  · next hn =>
    cases hf : f i.toNatClampNeg with
    | none => rw [hf] at h; cases h
    | some t => rw [hf] at h; exact ⟨hn, t, rfl, h⟩
def ciW (S : CS) (D : CD) (a : Nat) (i v : Int32) (g : CD → Option α) : Option α := if i < 0 ∨ S.2.2.2 a ≤ i.toNatClampNeg then none else g (cpA D a (upd (D.2.2.1 a) i.toNatClampNeg v))
theorem ciW_el {S : CS} {D : CD} {a : Nat} {i v : Int32} {g : CD → Option α} {r : α} (h : ciW S D a i v g = some r) : vp_in i (S.2.2.2 a) ∧ ∃ D2 : CD, D2 = cpA D a (upd (D.2.2.1 a) i.toNatClampNeg v) ∧ g D2 = some r := by
  unfold ciW at h; split at h
  · cases h
  · next hn => exact ⟨hn, _, rfl, h⟩
def crW (S : CS) (D : CD) (a : Nat) (i : Int32) (v : Nat) (g : CD → Option α) : Option α := if i < 0 ∨ S.2.2.2 a ≤ i.toNatClampNeg then none else g (cpR D a (va_up (D.2.2.2 a) i.toNatClampNeg (some v)))
theorem crW_el {S : CS} {D : CD} {a : Nat} {i : Int32} {v : Nat} {g : CD → Option α} {r : α} (h : crW S D a i v g = some r) : vp_in i (S.2.2.2 a) ∧ ∃ D2 : CD, D2 = cpR D a (va_up (D.2.2.2 a) i.toNatClampNeg (some v)) ∧ g D2 = some r := by
  unfold crW at h; split at h
  · cases h
  · next hn => exact ⟨hn, _, rfl, h⟩
def cfW (D : CD) (a k : Nat) (v : Int32) (g : CD → Option α) : Option α := g (cpF D a k v)
theorem cfW_el {D : CD} {a k : Nat} {v : Int32} {g : CD → Option α} {r : α} (h : cfW D a k v g = some r) : ∃ D2 : CD, D2 = cpF D a k v ∧ g D2 = some r := ⟨_, rfl, h⟩
def cgW (D : CD) (a k : Nat) (v : Int64) (g : CD → Option α) : Option α := g (cpG D a k v)
theorem cgW_el {D : CD} {a k : Nat} {v : Int64} {g : CD → Option α} {r : α} (h : cgW D a k v g = some r) : ∃ D2 : CD, D2 = cpG D a k v ∧ g D2 = some r := ⟨_, rfl, h⟩
end COPT
theorem cset_0_5 (G : cG) {S : CS} {D : CD} {a : Nat} (h : S.2.1 a = 0) (v : Int32) : .inr (1, (cX0 S D a).set 5 (.int v)) = cE G S (cpF D a 5 v) a := by rw [cE_0 h]; simp [cX0, cpF, va_up]
theorem cset_1_2 (G : cG) {S : CS} {D : CD} {a : Nat} (h : S.2.1 a = 1) (v : Int32) : .inr (2, (cX1 S D a).set 2 (.int v)) = cE G S (cpF D a 2 v) a := by rw [cE_1 h]; simp [cX1, cpF, va_up]
theorem cset_5_6 (G : cG) {S : CS} {D : CD} {a : Nat} (h : S.2.1 a = 5) (v : Int32) : .inr (6, (cX5 S D a).set 6 (.int v)) = cE G S (cpF D a 6 v) a := by rw [cE_5 h]; simp [cX5, cpF, va_up]
theorem cset_6_7 (G : cG) {S : CS} {D : CD} {a : Nat} (h : S.2.1 a = 6) (v : Int32) : .inr (7, (cX6 S D a).set 7 (.int v)) = cE G S (cpF D a 7 v) a := by rw [cE_6 h]; simp [cX6, cpF, va_up]
theorem cset_2_0 (G : cG) {S : CS} {D : CD} {a : Nat} (h : S.2.1 a = 2) (v : Int64) : .inr (3, (cX2 S D a).set 0 (.long v)) = cE G S (cpG D a 0 v) a := by rw [cE_2 h]; simp [cX2, cpG, va_up]
theorem cset_2_1 (G : cG) {S : CS} {D : CD} {a : Nat} (h : S.2.1 a = 2) (v : Int64) : .inr (3, (cX2 S D a).set 1 (.long v)) = cE G S (cpG D a 1 v) a := by rw [cE_2 h]; simp [cX2, cpG, va_up]
theorem cset_2_2 (G : cG) {S : CS} {D : CD} {a : Nat} (h : S.2.1 a = 2) (v : Int64) : .inr (3, (cX2 S D a).set 2 (.long v)) = cE G S (cpG D a 2 v) a := by rw [cE_2 h]; simp [cX2, cpG, va_up]
theorem cset_2_3 (G : cG) {S : CS} {D : CD} {a : Nat} (h : S.2.1 a = 2) (v : Int64) : .inr (3, (cX2 S D a).set 3 (.long v)) = cE G S (cpG D a 3 v) a := by rw [cE_2 h]; simp [cX2, cpG, va_up]
