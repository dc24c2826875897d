/-! Pools beside each other; calls that make the pool grow; the law's add and of where nothing is thrown, and add that overlaps. -/
theorem va_P.l {D : va_G} {cl : List vw_C} {w1 w2 : va_W} {H : Heap} (h : va_P D cl (w1 ++ w2) H) : va_P D cl w1 H := fun k q hq => h k q (by rw [List.getElem?_append_left (List.getElem?_eq_some_iff.mp hq).1]; exact hq)
theorem va_P.r {D : va_G} {cl : List vw_C} {w1 w2 : va_W} {H : Heap} (h : va_P D cl (w1 ++ w2) H) : va_P D cl w2 H := fun k q hq => h (w1.length + k) q (by rw [List.getElem?_append_right (Nat.le_add_right _ _), Nat.add_sub_cancel_left]; exact hq)
theorem va_D.one {A : Nat → Prop} {o : Nat} {e : va_E} (h : A o) : va_D A [(o, e)] := by
  refine ⟨fun i j p q h1 h2 _ => ?_, fun i q h1 => ?_⟩
  · have h3 : i < 1 := (List.getElem?_eq_some_iff.mp h1).1
    have h4 : j < 1 := (List.getElem?_eq_some_iff.mp h2).1
    omega
  · have h3 : i < 1 := (List.getElem?_eq_some_iff.mp h1).1
    rw [Nat.lt_one_iff.mp h3] at h1
    cases h1
    exact h
theorem va_D.app2 {A : Nat → Prop} {w1 w2 : va_W} (h1 : va_D A w1) (h2 : va_D A w2) (hd : ∀ (i j : Nat) (p q : Nat × va_E), w1[i]? = some p → w2[j]? = some q → p.1 ≠ q.1) : va_D A (w1 ++ w2) := by
  refine ⟨fun i j p q hp hq e => ?_, fun k q hq => ?_⟩
  · by_cases hi : i < w1.length
    · rw [List.getElem?_append_left hi] at hp
      by_cases hj : j < w1.length
      · rw [List.getElem?_append_left hj] at hq
        exact h1.1 i j p q hp hq e
      · rw [List.getElem?_append_right (Nat.not_lt.mp hj)] at hq
        exact absurd e (hd _ _ _ _ hp hq)
    · rw [List.getElem?_append_right (Nat.not_lt.mp hi)] at hp
      by_cases hj : j < w1.length
      · rw [List.getElem?_append_left hj] at hq
        exact absurd e.symm (hd _ _ _ _ hq hp)
      · rw [List.getElem?_append_right (Nat.not_lt.mp hj)] at hq
        have := h2.1 _ _ p q hp hq e
        omega
  · by_cases hk : k < w1.length
    · rw [List.getElem?_append_left hk] at hq
      exact h1.2 k q hq
    · rw [List.getElem?_append_right (Nat.not_lt.mp hk)] at hq
      exact h2.2 _ q hq
theorem cW_mem {G : cG} {S : CS} {D : CD} {k : Nat} {x : Nat × va_E} (h : (cW G S D)[k]? = some x) : x.1 ∈ S.1 := by
  obtain ⟨e', h'⟩ := cfst (D2 := cD0) (q := x.1) (e := x.2) h
  rcases cA_mem.mp (show cA G S (x.1 + 1) x.1 from Or.inl ⟨k, e', h'⟩) with h1 | h1
  · exact h1
  · exact absurd h1 (Nat.not_succ_le_self _)

theorem cC_to {own : String} {p : Program} {s : State} {m : MethodId} {args : Array Value} {meth : Method} {c : Code} {Ts : List Cond} {cc : ByteArray} {nL : Nat} {ret : Option FieldType} {G : cG} {S S2 : CS} {sz : Nat} (hC : cC own p s m args meth c Ts cc nL ret G S sz) (hD : ∀ D : CD, va_D (fun _ => True) (cW G S2 D)) : cC own p s m args meth c Ts cc nL ret G S2 sz := by
  obtain ⟨h1, h2, h3, h4, h5, h6, h7, h8, -, h10, h11⟩ := hC
  refine ⟨h1, h2, h3, h4, h5, h6, h7, h8, fun D => ?_, h10, h11⟩
  rw [← cA_eq G S2 D]
  exact (hD D).self
theorem cA_gr {G : cG} {S S2 : CS} {sz : Nat} (h : cGr G S S2 sz) : cA G S2 sz = cA G S sz := by
  funext q
  refine propext ⟨fun w => ?_, fun w => ?_⟩
  · rcases cA_mem.mp w with w | w
    · exact cA_mem.mpr (h.2.1 q w)
    · exact cA_mem.mpr (Or.inr w)
  · rcases cA_mem.mp w with w | w
    · exact cA_mem.mpr (Or.inl (h.1 q w))
    · exact cA_mem.mpr (Or.inr w)
theorem cGr.self {G : cG} {S : CS} {sz : Nat} (h : ∀ D : CD, va_D (fun _ => True) (cW G S D)) : cGr G S S sz := ⟨fun _ h => h, fun _ h => Or.inl h, h⟩
theorem dis_gm {G : cG} {S : CS} {gA mA : Nat} (h1 : gA ∉ S.1) (h2 : mA ∉ S.1) (h3 : gA ≠ mA) (hD : ∀ D : CD, va_D (fun _ => True) (cW G S D)) : ∀ D : CD, va_D (fun _ => True) (cW G (sGM S gA mA) D) := by
  intro D
  rw [cW_gm (D2 := D) h1 h2 h3 rfl rfl (fun _ _ => rfl) rfl]
  refine va_D.app2 ?_ (hD D) (fun i j x y hx hy e => ?_)
  · show va_D _ ([(gA, _)] ++ [(mA, _)])
    refine va_D.app2 (va_D.one trivial) (va_D.one trivial) (fun i j x y hx hy e => ?_)
    have hi : i < 1 := (List.getElem?_eq_some_iff.mp hx).1
    have hj : j < 1 := (List.getElem?_eq_some_iff.mp hy).1
    rw [Nat.lt_one_iff.mp hi] at hx
    rw [Nat.lt_one_iff.mp hj] at hy
    cases hx; cases hy
    exact h3 e
  · have hm := cW_mem hy
    have hi : i < 2 := (List.getElem?_eq_some_iff.mp hx).1
    rcases (show i = 0 ∨ i = 1 by omega) with z | z
    · subst z; cases hx; exact h1 (by rw [show gA = y.1 from e]; exact hm)
    · subst z; cases hx; exact h2 (by rw [show mA = y.1 from e]; exact hm)
/-- the pool without the rows -/
theorem dis_sub {G : cG} {S : CS} {gA mA : Nat} (h1 : gA ∉ S.1) (h2 : mA ∉ S.1) (h3 : gA ≠ mA) {A : Nat → Prop} {D : CD} (hD : va_D A (cW G (sGM S gA mA) D)) : va_D A (cW G S D) := by
  rw [cW_gm (D2 := D) h1 h2 h3 rfl rfl (fun _ _ => rfl) rfl] at hD
  refine ⟨fun i j x y hx hy e => ?_, fun k x hx => ?_⟩
  · have := hD.1 (2 + i) (2 + j) x y (by rw [List.getElem?_append_right (by exact Nat.le_add_right 2 i)]; rw [show (rGM G gA mA (D.2.2.1 gA) (D.2.2.1 mA)).length = 2 from rfl, Nat.add_sub_cancel_left]; exact hx) (by rw [List.getElem?_append_right (by exact Nat.le_add_right 2 j)]; rw [show (rGM G gA mA (D.2.2.1 gA) (D.2.2.1 mA)).length = 2 from rfl, Nat.add_sub_cancel_left]; exact hy) e
    omega
  · exact hD.2 (2 + k) x (by rw [List.getElem?_append_right (by exact Nat.le_add_right 2 k)]; rw [show (rGM G gA mA (D.2.2.1 gA) (D.2.2.1 mA)).length = 2 from rfl, Nat.add_sub_cancel_left]; exact hx)
/-- the rows stay where the pool beside them grows -/
theorem grow_gm {G : cG} {S S2 : CS} {D D2 : CD} {gA mA sz : Nat} {H H1 : Heap} (h1 : gA ∉ S.1) (h2 : mA ∉ S.1) (h3 : gA ≠ mA) (hP : va_P G.1 vwCl (cW G (sGM S gA mA) D) H) (hG : cGr G S S2 H.size) (hk : ∀ q : Nat, q < H.size → ¬ cA G S H.size q → H1[q]? = H[q]?) (hP2 : va_P G.1 vwCl (cW G S2 D2) H1) :
    gA ∉ S2.1 ∧ mA ∉ S2.1 ∧ va_P G.1 vwCl (cW G (sGM S2 gA mA) (dGM D2 gA mA (D.2.2.1 gA) (D.2.2.1 mA))) H1 ∧ gA < H.size ∧ mA < H.size := by
  rw [cW_gm (D2 := D) h1 h2 h3 rfl rfl (fun _ _ => rfl) rfl] at hP
  have hr := hP.l
  have lg : gA < H.size := (hr 0 _ rfl).lt
  have lm : mA < H.size := (hr 1 _ rfl).lt
  have g2 : gA ∉ S2.1 := fun w => by
    rcases hG.2.1 _ w with w | w
    · exact h1 w
    · omega
  have m2 : mA ∉ S2.1 := fun w => by
    rcases hG.2.1 _ w with w | w
    · exact h2 w
    · omega
  refine ⟨g2, m2, ?_, lg, lm⟩
  rw [cW_dgm _ _ g2 m2 h3]
  refine va_P.app (hr.kept (fun i x hx => ?_)) hP2
  have hi : i < 2 := (List.getElem?_eq_some_iff.mp hx).1
  rcases (show i = 0 ∨ i = 1 by omega) with z | z
  · subst z; cases hx
    exact hk gA lg (fun w => (cA_mem.mp w).elim h1 (fun w => by omega))
  · subst z; cases hx
    exact hk mA lm (fun w => (cA_mem.mp w).elim h2 (fun w => by omega))
theorem cGr_gm {G : cG} {S S2 : CS} {gA mA sz n : Nat} (g2 : gA ∉ S2.1) (m2 : mA ∉ S2.1) (h3 : gA ≠ mA) (hsz : sz ≤ n) (hG : cGr G S S2 n) : cGr G (sGM S gA mA) (sGM S2 gA mA) sz := by
  refine ⟨fun q hq => ?_, fun q hq => ?_, dis_gm g2 m2 h3 hG.2.2⟩
  · rcases List.mem_cons.mp hq with w | w
    · rw [w]; exact List.mem_cons_self
    · rcases List.mem_cons.mp w with w | w
      · rw [w]; exact List.mem_cons_of_mem _ List.mem_cons_self
      · exact List.mem_cons_of_mem _ (List.mem_cons_of_mem _ (hG.1 q w))
  · rcases List.mem_cons.mp hq with w | w
    · exact Or.inl (by rw [w]; exact List.mem_cons_self)
    · rcases List.mem_cons.mp w with w | w
      · exact Or.inl (by rw [w]; exact List.mem_cons_of_mem _ List.mem_cons_self)
      · rcases hG.2.1 q w with w | w
        · exact Or.inl (List.mem_cons_of_mem _ (List.mem_cons_of_mem _ w))
        · exact Or.inr (by omega)
theorem apGM_gr {G : cG} {S S2 : CS} {z : Nat × Nat} {gA mA : Nat} (h : apGM S z gA mA) (g2 : gA ∉ S2.1) (m2 : mA ∉ S2.1) : apGM S2 z gA mA := ⟨g2, m2, h.2.2.1, h.2.2.2.1, h.2.2.2.2⟩
/-- a method of the law that answers r and leaves a pool of which Rl holds; the pool without the law's rows -/
def xKI (l : Launch) (y : MethodName) (ws : List Cond) (rm : Room) (G : cG) (S : CS) (z : Nat × Nat) (av : List Value) (D : CD) (mc ms : Nat) (r : Int32) (Rl : CS → CD → Prop) : Prop := ∀ sz : Nat, vx_Met l y ws rm (va_Pc av (lPre G S D z sz)) (va_Qi (fun x (u : CS × CD) => x = r ∧ Rl u.1 u.2 ∧ cGr G S u.1 sz) (fun u t => cIs G u.1 u.2 t) (cA G S sz)) wX mc ms (cA G S sz)
/-- the same with the rows -/
def lKI (l : Launch) (y : MethodName) (ws : List Cond) (rm : Room) (G : cG) (S : CS) (gA mA : Nat) (z : Nat × Nat) (av : List Value) (D : CD) (mc ms : Nat) (r : Int32) (Rl : CS → CD → Prop) : Prop := ∀ sz : Nat, Met l y ws rm (va_Pc av (lPre G (sGM S gA mA) D z sz)) (va_Qi (fun x (u : CS × CD) => x = r ∧ Rl u.1 u.2 ∧ cGr G (sGM S gA mA) (sGM u.1 gA mA) sz) (fun u t => cIs G (sGM u.1 gA mA) u.2 t) (cA G (sGM S gA mA) sz)) mc ms (cA G (sGM S gA mA) sz)
theorem kBodyX {l : Launch} {y : MethodName} {ws ws' : List Cond} {rm : Room} {cc : ByteArray} {maxL : Nat} {ret : Option FieldType} {hh : List (Nat × Nat × Nat × Nat)} {G : cG} {S : CS} {D : CD} {z : Nat × Nat} {av : List Value} {r : Int32} {mc ms : Nat} {Rl : CS → CD → Prop} (hy : plainName y.cls = true) (hR : y.cls = RL) (hw : ws = Cond.codeWith y cc maxL ret hh :: ws')
    (body : ∀ (sz : Nat) (p : Program) (e : Env) (s : State) (m : MethodId) (below : List Frame) (meth : Method) (c : Code), cC RL p s m av.toArray meth c ws cc maxL ret G S sz → lPre G S D z sz s → W p l e (headSpec ws rm).room s m av.toArray below meth c s.heap [] 0 0 (MQ below (va_Qi (fun x (u : CS × CD) => x = r ∧ Rl u.1 u.2 ∧ cGr G S u.1 sz) (fun u t => cIs G u.1 u.2 t) (cA G S sz)) av.toArray s mc ms (cA G S sz)) (entryFrame m av.toArray maxL)) : xKI l y ws rm G S z av D mc ms r Rl := by
  intro sz
  refine vx_ofWH (cc := cc) (maxL := maxL) (ret := ret) (hh := hh) hy hw ?_
  intro p e s m args below meth c s₁ B hml hv
  obtain ⟨rfl, hv⟩ := hv
  have hv0 := hv
  obtain ⟨⟨⟨hsz, hP, hK, hD0, hN⟩, -⟩, -⟩ := hv
  have hown : s.vm.findClass RL = some m.cls := by rw [← hR]; exact findClass_of_methodNamed B.named
  refine vx_ret (body sz p e s m below meth c ⟨B.exec, B.bytes, B.returns, atoms_spec (ws := ws) B.pre, hown, B.notSynchronized, hml, hK, fun D2 => ?_, hsz, hN⟩ hv0)
  rw [← cA_eq G S D2]
  exact (cD_any D2 hD0).self
theorem kBody {l : Launch} {y : MethodName} {ws ws' : List Cond} {rm : Room} {cc : ByteArray} {maxL : Nat} {ret : Option FieldType} {G : cG} {S : CS} {gA mA : Nat} {D : CD} {z : Nat × Nat} {av : List Value} {r : Int32} {mc ms : Nat} {Rl : CS → CD → Prop} (hy : plainName y.cls = true) (hR : y.cls = RL) (hw : ws = Cond.code y cc maxL ret :: ws')
    (body : ∀ (sz : Nat) (p : Program) (e : Env) (s : State) (m : MethodId) (below : List Frame) (meth : Method) (c : Code), cC RL p s m av.toArray meth c ws cc maxL ret G (sGM S gA mA) sz → lPre G (sGM S gA mA) D z sz s → W p l e (headSpec ws rm).room s m av.toArray below meth c s.heap [] 0 0 (MQ below (va_Qi (fun x (u : CS × CD) => x = r ∧ Rl u.1 u.2 ∧ cGr G (sGM S gA mA) (sGM u.1 gA mA) sz) (fun u t => cIs G (sGM u.1 gA mA) u.2 t) (cA G (sGM S gA mA) sz)) av.toArray s mc ms (cA G (sGM S gA mA) sz)) (entryFrame m av.toArray maxL)) : lKI l y ws rm G S gA mA z av D mc ms r Rl := by
  intro sz
  refine Met.ofW (cc := cc) (maxL := maxL) (ret := ret) hy hw ?_
  intro p e s m args below meth c s₁ B hml hv
  obtain ⟨rfl, hv⟩ := hv
  have hv0 := hv
  obtain ⟨⟨⟨hsz, hP, hK, hD0, hN⟩, -⟩, -⟩ := hv
  have hown : s.vm.findClass RL = some m.cls := by rw [← hR]; exact findClass_of_methodNamed B.named
  refine body sz p e s m below meth c ⟨B.exec, B.bytes, B.returns, atoms_spec (ws := ws) B.pre, hown, B.notSynchronized, hml, hK, fun D2 => ?_, hsz, hN⟩ hv0
  rw [← cA_eq G (sGM S gA mA) D2]
  exact (cD_any D2 hD0).self
section KROWS
variable {p : Program} {l : Launch} {e : Env} {R : Room} {s : State} {m : MethodId} {args : Array Value} {below : List Frame} {meth : Method} {c : Code} {H : Heap} {locs : List Loc} {Q : State → Prop}
variable {pc : Nat} {ls : Array Slot} {rest st0 : List Value} {ws ws' Ts : List Cond} {cc bytes : ByteArray} {maxL nL index n sz mc ms ce sl : Nat} {ret : Option FieldType} {own : String} {G : cG} {S S2 : CS} {D D0 D2 : CD} {y : MethodName} {rm : Room} {As av : List Value} {z : Nat × Nat} {gA mA : Nat} {r : Int32} {Rl : CS → CD → Prop}
/-- the class's add or remove, called out of a wrapper -/
theorem g_VK {a : Nat} (hC : cC RL p s m args meth c Ts cc nL ret G S sz) (hv : lPre G S D z sz s) (hm : a ∈ S.1) (hk : S.2.1 a = 6) (hM : cMKi l y ws rm G S z (.ref a :: As) D mc ms r (fun _ => Rl)) {ret' : Option FieldType} (cw : CallW R s args RL RX6 index y bytes maxL ret' ws rm mc ms n) (hn : As.length = n) (hsize : ls.size = nL) (hst : st0 = As.reverse ++ .ref a :: rest) (hr8 : (rest.map fun v => v.category).sum ≤ 8) (hR : 0 + mc ≤ R.cells ∧ 0 + ms ≤ R.slots) (hdg : decode cc pc = .ok (.invokevirtual index, 3))
    (kk : ∀ (S2 : CS) (D2 : CD) (H1 : Heap) (locs1 : List Loc), Rl S2 D2 → cGr G S S2 sz → va_P G.1 vwCl (cW G S2 D2) H1 → va_S (cA G S sz) s.heap H1 locs1 → W p l e R s m args below meth c H1 locs1 (0 + mc) (0 + ms) Q (F0 m (pc + 3) ls (.int r :: rest))) : W p l e R s m args below meth c s.heap [] 0 0 Q (F0 m pc ls st0) := by
  have hS0 : va_S (cA G S sz) s.heap s.heap [] := va_S.rf
  have hsz : s.heap.size = sz := hv.1.1.1
  refine va_calli (va_runV (As := As) (rest := rest) (g := F0 m pc ls st0) (c_fix hC) (hM sz) cw ⟨zBlind, c_rec hC hv.1.1.2.1 hm (cE_6 hk) rfl, fun U hU hW => ?_⟩ rfl hn hsize hst (lv_room hr8) hdg hR) hS0 (fun q _ h => h) (fun q h => h) (fun r1 u t H1 locs1 ht hvm hw hB hz1 hk1 hS1 => ?_)
  · have h := l_pre (av := .ref a :: As) hC (lPr_of hv) hv.1.1.2.1 hS0 U hU hW
    rw [hsz] at h
    exact ⟨h.1, h.2.1.1, h.2.1.2.1⟩
  · obtain ⟨rfl, hR1, hG1⟩ := hw
    exact kk u.1 u.2 H1 locs1 hR1 hG1 (by rw [← ht]; exact hB.1) hS1
theorem g_iretK (hC : cC own p s m args meth c Ts cc nL (some .int) G S sz) (hP : va_P G.1 vwCl (cW G S2 D2) H) (hS : va_S (cA G S sz) s.heap H locs) {v : Int32} (hv : v = r) (hRl : Rl S2 D2) (hG : cGr G S S2 sz) (hce : ce ≤ mc) (hsl : sl ≤ ms) (hdg : decode cc pc = .ok (.ireturn, 1)) : W p l e R s m args below meth c H locs ce sl (MQ below (va_Qi (fun x (u : CS × CD) => x = r ∧ Rl u.1 u.2 ∧ cGr G S u.1 sz) (fun u t => cIs G u.1 u.2 t) (cA G S sz)) args s mc ms (cA G S sz)) (F0 m pc ls [.int v]) := by
  obtain ⟨hx, hb, hr, hts, hown, hlocks, hml, hK, hD, hsz, hN⟩ := hC
  refine W.widen hce hsl ?_
  exact W.iret (v := v) hx hb hr (fun t ht hW => ⟨⟨v, (S2, D2), rfl, ⟨hv, hRl, hG⟩, by rw [ht]; exact hP, va_K.moved hW.alike hK⟩, hS.F ht⟩) hS.2.2 hdg hlocks
theorem g_zretK (hC : cC own p s m args meth c Ts cc nL (some .boolean) G (sGM S gA mA) sz) (hP : va_P G.1 vwCl (cW G (sGM S2 gA mA) D2) H) (hS : va_S (cA G (sGM S gA mA) sz) s.heap H locs) {v : Int32} (hz : v = 0 ∨ v = 1) (hv : v = r) (hRl : Rl S2 D2) (hG : cGr G (sGM S gA mA) (sGM S2 gA mA) sz) (hce : ce ≤ mc) (hsl : sl ≤ ms) (hdg : decode cc pc = .ok (.ireturn, 1)) : W p l e R s m args below meth c H locs ce sl (MQ below (va_Qi (fun x (u : CS × CD) => x = r ∧ Rl u.1 u.2 ∧ cGr G (sGM S gA mA) (sGM u.1 gA mA) sz) (fun u t => cIs G (sGM u.1 gA mA) u.2 t) (cA G (sGM S gA mA) sz)) args s mc ms (cA G (sGM S gA mA) sz)) (F0 m pc ls [.int v]) := by
  obtain ⟨hx, hb, hr, hts, hown, hlocks, hml, hK, hD, hsz, hN⟩ := hC
  refine W.widen hce hsl ?_
  exact W.zret (v := v) hx hb hr (by rcases hz with rfl | rfl <;> rfl) (fun t ht hW => ⟨⟨v, (S2, D2), rfl, ⟨hv, hRl, hG⟩, by rw [ht]; exact hP, va_K.moved hW.alike hK⟩, hS.F ht⟩) hS.2.2 hdg hlocks
theorem lPre_sub (hC : cC own p s m args meth c Ts cc nL ret G (sGM S gA mA) sz) (hgm : gA ∉ S.1 ∧ mA ∉ S.1 ∧ gA ≠ mA) (hv : lPr z (cA G (sGM S gA mA) sz) s) (hP : va_P G.1 vwCl (cW G (sGM S gA mA) D) H) (hS : va_S (cA G (sGM S gA mA) sz) s.heap H locs) (U : State) (hU : U.heap = H) (hW : s.WarmedH U.vm) : va_Pc av (lPre G S D z H.size) av.toArray U := by
  have hsz : s.heap.size = sz := hC.2.2.2.2.2.2.2.2.2.1
  have hsub : ∀ q, cA G S H.size q → cA G (sGM S gA mA) sz q := fun q h => by
    rcases cA_mem.mp h with h | h
    · exact cA_mem.mpr (Or.inl (List.mem_cons_of_mem _ (List.mem_cons_of_mem _ h)))
    · refine cA_mem.mpr (Or.inr ?_)
      have := hS.1
      omega
  have h1 : cPc G H.size (sGM S gA mA) D av av.toArray U := c_pre hC hP U hU hW
  obtain ⟨k1, k2, k3, k4, k5, k6⟩ := h1
  refine ⟨k1, ⟨⟨k2, ?_, k4, dis_sub hgm.1 hgm.2.1 hgm.2.2 k5, k6⟩, ?_, ?_⟩, va_Nc.moved hW.alike hv.2.2.1, va_Nc.moved hW.alike hv.2.2.2⟩
  · rw [cW_gm (D2 := D) hgm.1 hgm.2.1 hgm.2.2 rfl rfl (fun _ _ => rfl) rfl] at k3
    exact k3.r
  · rw [hU]; exact hv.1.next hW hsub (fun a ha hn => hS.2.1 a ha hn)
  · rw [hU]; exact hv.2.1.next hW hsub (fun a ha hn => hS.2.1 a ha hn)
/-- the law's add or of, called where the law's rows stand beside the pool -/
theorem g_SK (hC : cC own p s m args meth c Ts cc nL ret G (sGM S gA mA) sz) (hgm : gA ∉ S.1 ∧ mA ∉ S.1 ∧ gA ≠ mA) (hv : lPr z (cA G (sGM S gA mA) sz) s) (hP : va_P G.1 vwCl (cW G (sGM S gA mA) D) H) (hS : va_S (cA G (sGM S gA mA) sz) s.heap H locs) {ret' : Option FieldType} {hh : List (Nat × Nat × Nat × Nat)} (hM : xKI l y ws rm G S z As D mc ms r Rl) (cw : vx_CSW R s args own index y bytes maxL ret' hh ws rm mc ms n) (hn : As.length = n) (hsize : ls.size = nL) (hst : st0 = As.reverse ++ rest) (hr8 : (rest.map fun v => v.category).sum ≤ 8) (hdg : decode cc pc = .ok (.invokestatic index, 3)) (hR : ce + mc ≤ R.cells ∧ sl + ms ≤ R.slots)
    (kk : ∀ (S2 : CS) (D2 : CD) (H1 : Heap) (locs1 : List Loc), Rl S2 D2 → gA ∉ S2.1 → mA ∉ S2.1 → cGr G (sGM S gA mA) (sGM S2 gA mA) sz → va_P G.1 vwCl (cW G (sGM S2 gA mA) (dGM D2 gA mA (D.2.2.1 gA) (D.2.2.1 mA))) H1 → va_S (cA G (sGM S gA mA) sz) s.heap H1 locs1 → W p l e R s m args below meth c H1 locs1 (ce + mc) (sl + ms) Q (F0 m (pc + 3) ls (.int r :: rest))) : W p l e R s m args below meth c H locs ce sl Q (F0 m pc ls st0) := by
  have hsz : s.heap.size = sz := hC.2.2.2.2.2.2.2.2.2.1
  have hsub : ∀ q, cA G S H.size q → cA G (sGM S gA mA) sz q := fun q h => by
    rcases cA_mem.mp h with h | h
    · exact cA_mem.mpr (Or.inl (List.mem_cons_of_mem _ (List.mem_cons_of_mem _ h)))
    · exact cA_mem.mpr (Or.inr (by have := hS.1; omega))
  refine vx_calli (vx_runSX (As := As) (rest := rest) (g := F0 m pc ls st0) (c_fix hC) (hM H.size) cw ⟨lBlind, fun U hU hW => lPre_sub (av := As) hC hgm hv hP hS U hU hW⟩ rfl hn hsize hst (lv_room hr8) hdg hR) hS (fun q _ h => hsub q h) hsub (fun q _ h => h.elim) (fun E ce9 q9 u t H1 locs1 ht hvm hpx hB hz1 hk1 hS1 h1 h2 h3 => hpx.elim) (fun r1 u t H1 locs1 ht hvm hw hB hz1 hk1 hS1 => ?_)
  obtain ⟨rfl, hR1, hG1⟩ := hw
  obtain ⟨g2, m2, hP2, -, -⟩ := grow_gm (sz := sz) hgm.1 hgm.2.1 hgm.2.2 hP hG1 hk1 (D2 := u.2) (by rw [← ht]; exact hB.1)
  exact kk u.1 u.2 H1 locs1 hR1 g2 m2 (cGr_gm g2 m2 hgm.2.2 (by have := hS.1; omega) hG1) hP2 hS1
/-- a method of the law that makes the pool grow, called out of the law -/
theorem g_SL2 (hC : cC own p s m args meth c Ts cc nL ret G (sGM S gA mA) sz) (hv : lPr z (cA G (sGM S gA mA) sz) s) (hP : va_P G.1 vwCl (cW G (sGM S gA mA) D) H) (hS : va_S (cA G (sGM S gA mA) sz) s.heap H locs) {ret' : Option FieldType} (hM : lKI l y ws rm G S gA mA z As D mc ms r Rl) (cw : CallB R s args own index y bytes maxL ret' ws rm mc ms n ∧ (Cond.static y).before args s = true) (hn : As.length = n) (hsize : ls.size = nL) (hst : st0 = As.reverse ++ rest) (hr8 : (rest.map fun v => v.category).sum ≤ 8) (hdg : decode cc pc = .ok (.invokestatic index, 3)) (hR : ce + mc ≤ R.cells ∧ sl + ms ≤ R.slots)
    (kk : ∀ (S2 : CS) (D2 : CD) (H1 : Heap) (locs1 : List Loc), Rl S2 D2 → cGr G (sGM S gA mA) (sGM S2 gA mA) sz → va_P G.1 vwCl (cW G (sGM S2 gA mA) D2) H1 → va_S (cA G (sGM S gA mA) sz) s.heap H1 locs1 → W p l e R s m args below meth c H1 locs1 (ce + mc) (sl + ms) Q (F0 m (pc + 3) ls (.int r :: rest))) : W p l e R s m args below meth c H locs ce sl Q (F0 m pc ls st0) := by
  refine va_calli (va_runS (As := As) (rest := rest) (g := F0 m pc ls st0) (c_fix hC) (hM H.size) cw ⟨lBlind, fun U hU hW => l_pre (av := As) hC hv hP hS U hU hW⟩ rfl hn hsize hst (lv_room hr8) hdg hR) hS (fun q _ h => c_sub hC hS q h) (c_sub hC hS) (fun r1 u t H1 locs1 ht hvm hw hB hz1 hk1 hS1 => ?_)
  obtain ⟨rfl, hR1, hG1⟩ := hw
  refine kk u.1 u.2 H1 locs1 hR1 ⟨hG1.1, fun q hq => ?_, hG1.2.2⟩ (by rw [← ht]; exact hB.1) hS1
  rcases hG1.2.1 q hq with w | w
  · exact Or.inl w
  · exact Or.inr (by have h1 := hS.1; have h2 : s.heap.size = sz := hC.2.2.2.2.2.2.2.2.2.1; omega)
end KROWS

/-- add, where nothing is thrown -/
theorem x_add (l : Launch) (G : cG) (S : CS) (z : Nat × Nat) (D : CD) (a : Nat) (x1 x2 x3 x4 r : Int32) (Rl : CS → CD → Prop) (hm : a ∈ S.1) (hk : S.2.1 a = 6) (hM : cMKi l yX6_add wX6_add ({ frames := 9, cells := 2, slots := 21, locals := 300 }) G S z [.ref a, .int x1, .int x2, .int x3, .int x4] D 2 21 r (fun _ => Rl)) : xKI l yL_add wL_add ({ frames := 10, cells := 2, slots := 21, locals := 400 }) G S z [.ref a, .int x1, .int x2, .int x3, .int x4] D 2 21 r Rl := by
  refine kBodyX (cc := cL_add) (maxL := 6) (ret := some .int) (by decide) rfl rfl ?_
  intro sz p e s m below meth c hC hv
  have hx := hC.1
  have hb := hC.2.1
  have hts := hC.2.2.2.1
  refine g_entry (Nat.le_of_ble_eq_true rfl) (fun ls hl => ?_)
  have hl : lv_has ls 6 [(0, .ref a), (1, .int x1), (2, .int x2), (3, .int x3), (4, .int x4)] := hl
  refine lv_aload_n hx hb dL_add_0 rfl (lv_at hl 0 rfl) ?_
  refine lv_iload_n hx hb dL_add_1 rfl (lv_at hl 1 rfl) ?_
  refine lv_iload_n hx hb dL_add_2 rfl (lv_at hl 2 rfl) ?_
  refine lv_iload_n hx hb dL_add_3 rfl (lv_at hl 3 rfl) ?_
  refine lv_iload hx hb dL_add_4 (lv_at hl 4 rfl) ?_
  refine g_VK (As := [.int x1, .int x2, .int x3, .int x4]) (rest := []) hC hv hm hk hM (cwV 4 hts (gVA wa_144 wa_145 wa_146 (hWCA _ wc_66) wa_69 (fun w h => h)) rfl rfl rfl (by decide +kernel) ⟨Nat.le_of_ble_eq_true rfl, Nat.le_of_ble_eq_true rfl⟩) rfl hl.1 rfl (Nat.le_of_ble_eq_true rfl) ⟨Nat.le_of_ble_eq_true rfl, Nat.le_of_ble_eq_true rfl⟩ dL_add_6 (fun S2 D2 H1 locs1 hRl hG hP hS => ?_)
  exact g_iretK hC hP hS rfl hRl hG (Nat.le_of_ble_eq_true rfl) (Nat.le_of_ble_eq_true rfl) dL_add_9
/-- add of what overlaps -/
theorem x_addO (l : Launch) (G : cG) (S : CS) (z : Nat × Nat) (D : CD) (a : Nat) (x1 x2 x3 x4 : Int32) (hm : a ∈ S.1) (hk : S.2.1 a = 6) (hM : wThr l yX6_add wX6_add ({ frames := 9, cells := 2, slots := 12, locals := 300 }) G S D D [.ref a, .int x1, .int x2, .int x3, .int x4] 2 12 "java/lang/IllegalStateException") : lXI l yL_add wL_add ({ frames := 10, cells := 2, slots := 12, locals := 400 }) G S z [.ref a, .int x1, .int x2, .int x3, .int x4] D D (-603) 2 12 := by
  refine lBodyX (cc := cL_add) (maxL := 6) (ret := some .int) (by decide) rfl rfl ?_
  intro sz p e s m below meth c hC htab hv
  have hx := hC.1
  have hb := hC.2.1
  have hts := hC.2.2.2.1
  refine g_entry (Nat.le_of_ble_eq_true rfl) (fun ls hl => ?_)
  have hl : lv_has ls 6 [(0, .ref a), (1, .int x1), (2, .int x2), (3, .int x3), (4, .int x4)] := hl
  refine lv_aload_n hx hb dL_add_0 rfl (lv_at hl 0 rfl) ?_
  refine lv_iload_n hx hb dL_add_1 rfl (lv_at hl 1 rfl) ?_
  refine lv_iload_n hx hb dL_add_2 rfl (lv_at hl 2 rfl) ?_
  refine lv_iload_n hx hb dL_add_3 rfl (lv_at hl 3 rfl) ?_
  refine lv_iload hx hb dL_add_4 (lv_at hl 4 rfl) ?_
  refine g_VT (As := [.int x1, .int x2, .int x3, .int x4]) (rest := []) hC hv hm hk hM (cwV 4 hts (gVA wa_144 wa_145 wa_146 (hWCA _ wc_66) wa_69 (fun w h => h)) rfl rfl rfl (by decide +kernel) ⟨Nat.le_of_ble_eq_true rfl, Nat.le_of_ble_eq_true rfl⟩) rfl hl.1 rfl (Nat.le_of_ble_eq_true rfl) ⟨Nat.le_of_ble_eq_true rfl, Nat.le_of_ble_eq_true rfl⟩ dL_add_6 (fun ce9 q9 H1 locs1 hP hS hce hvm hcl => ?_)
  refine vx_catch (own := RL) (name := "java/lang/IllegalStateException") (E := "java/lang/IllegalStateException") (ce := ce9) hC.2.2.2.2.1 [⟨0, 9, 10, 15⟩] ⟨0, 9, 16, 17⟩ [] (by rw [htab]; rfl) (fun w hw => by rw [List.mem_singleton.mp hw]; exact Or.inr ⟨by decide, _, hts _ (List.mem_cons_of_mem _ wa_142), hv.2.1⟩) (by decide) (by decide) (hts _ (List.mem_cons_of_mem _ wa_143)) (va_Nw.use rfl (hv.1.2.2.2.2.1 "java/lang/IllegalStateException" (by decide +kernel))) hce hvm hcl ?_
  refine lv_astore (lv' := [(5, .ref q9), (0, .ref a), (1, .int x1), (2, .int x2), (3, .int x3), (4, .int x4)]) hx hb dL_add_16 hl (by decide) rfl (fun ls hl => ?_)
  refine lv_sipush (v := (-603)) hx hb dL_add_18 (by decide) ?_
  exact g_iret hC hP hS rfl (Nat.le_of_ble_eq_true rfl) (Nat.le_of_ble_eq_true rfl) dL_add_21
/-- of that removes -/
theorem x_rem (l : Launch) (G : cG) (S : CS) (z : Nat × Nat) (D : CD) (a : Nat) (x r : Int32) (Rl : CS → CD → Prop) (hm : a ∈ S.1) (hk : S.2.1 a = 6) (hM : cMKi l yX6_remove wX6_remove ({ frames := 8, cells := 0, slots := 0, locals := 200 }) G S z [.ref a, .int x] D 0 0 r (fun _ => Rl)) : xKI l yL_of wL_of ({ frames := 10, cells := 0, slots := 0, locals := 400 }) G S z [.ref a, .int 0, .int x] D 0 0 r Rl := by
  refine kBodyX (cc := cL_of) (maxL := 4) (ret := some .int) (by decide) rfl rfl ?_
  intro sz p e s m below meth c hC hv
  have hx := hC.1
  have hb := hC.2.1
  have hts := hC.2.2.2.1
  refine g_entry (Nat.le_of_ble_eq_true rfl) (fun ls hl => ?_)
  have hl : lv_has ls 4 [(0, .ref a), (1, .int 0), (2, .int x)] := hl
  refine lv_iload_n hx hb dL_of_0 rfl (lv_at hl 1 rfl) ?_
  refine lv_if_ne (tgt := 12) hx hb dL_of_1 (by decide) (fun u => absurd rfl u) (fun u => ?_)
  refine lv_aload_n hx hb dL_of_4 rfl (lv_at hl 0 rfl) ?_
  refine lv_iload_n hx hb dL_of_5 rfl (lv_at hl 2 rfl) ?_
  refine g_VK (As := [.int x]) (rest := []) hC hv hm hk hM (cwV 1 hts (gVA wa_149 wa_150 wa_151 (hWCA _ wc_66) wa_124 (fun w h => h)) rfl rfl rfl (by decide +kernel) ⟨Nat.le_of_ble_eq_true rfl, Nat.le_of_ble_eq_true rfl⟩) rfl hl.1 rfl (Nat.le_of_ble_eq_true rfl) ⟨Nat.le_of_ble_eq_true rfl, Nat.le_of_ble_eq_true rfl⟩ dL_of_6 (fun S2 D2 H1 locs1 hRl hG hP hS => ?_)
  refine lv_goto (tgt := 166) hx hb dL_of_9 (by decide) ?_
  exact g_iretK hC hP hS rfl hRl hG (Nat.le_of_ble_eq_true rfl) (Nat.le_of_ble_eq_true rfl) dL_of_166

