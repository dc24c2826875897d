/-! The law's own world: the class's pool, the reference's object and rows, a row of one long; calls out of the law. -/
def mAt_ (Gm : mG) (q : Nat) : Prop := ∃ (k : Nat) (e : va_E), (mW Gm mM0)[k]? = some (q, e)
def lF_ (G : cG) (Gm : mG) (cJ : ClassId) (z : Nat × Nat) (s : State) : Prop := Gm.1 = G.1 ∧ va_K G.1 vwCl (cTy G) s ∧ va_K Gm.1 vwCl (mTy Gm) s ∧ va_K G.1 vwCl [(cJ, .long)] s ∧ cN s ∧ zP z (fun q => s.heap.size ≤ q) s s.heap ∧ xP (fun q => s.heap.size ≤ q) s s.heap ∧ wNc s
def lI_ (G : cG) (Gm : mG) (o : Nat) (cJ : ClassId) (s : State) (S : CS) (D : CD) (M : MS) (f : Nat → Int64) (H : Heap) : Prop :=
  va_P G.1 vwCl (cW G S D) H ∧ va_P Gm.1 vwCl (mW Gm M) H ∧ va_P G.1 vwCl (oW o cJ f) H ∧ (∀ D : CD, va_D (fun q => s.heap.size ≤ q) (cW G S D)) ∧ (∀ M : MS, va_D (fun q => s.heap.size ≤ q) (mW Gm M)) ∧ s.heap.size ≤ o ∧ o ∉ S.1 ∧ ∀ q : Nat, mAt_ Gm q → q ∉ S.1 ∧ q ≠ o
theorem mAt_.of {Gm : mG} {M : MS} {k : Nat} {x : Nat × va_E} (h : (mW Gm M)[k]? = some x) : mAt_ Gm x.1 := by
  obtain ⟨e', h'⟩ := mfst (M2 := mM0) (q := x.1) (e := x.2) h
  exact ⟨k, e', h'⟩
theorem mAt_.lt {Gm : mG} {M : MS} {D : va_G} {cl : List vw_C} {H : Heap} (hP : va_P D cl (mW Gm M) H) {q : Nat} (h : mAt_ Gm q) : q < H.size := by
  obtain ⟨k, e, h⟩ := h
  obtain ⟨e', h'⟩ := mfst (M2 := M) h
  exact (hP k _ h').lt
theorem cGr.self {G : cG} {S : CS} {sz : Nat} (h : ∀ D : CD, va_D (fun _ => True) (cW G S D)) : cGr G S S sz := ⟨fun _ h => h, fun _ h => Or.inl h, h⟩
theorem lI_.all {G : cG} {Gm : mG} {o : Nat} {cJ : ClassId} {s : State} {S : CS} {D : CD} {M : MS} {f : Nat → Int64} {H : Heap} (h : lI_ G Gm o cJ s S D M f H) : ∀ D : CD, va_D (fun _ => True) (cW G S D) := fun D => (h.2.2.2.1 D).weaken (fun _ _ _ _ => trivial)
section LROWS
variable {p : Program} {l : Launch} {e : Env} {R : Room} {s : State} {m : MethodId} {args : Array Value} {below : List Frame} {meth : Method} {c : Code} {H : Heap} {locs : List Loc} {Q : State → Prop}
variable {pc : Nat} {ls : Array Slot} {rest st0 : List Value} {ws ws' : List Cond} {cc bytes : ByteArray} {maxL nL index n ce sl : Nat} {G : cG} {Gm : mG} {S : CS} {D D2 : CD} {y : MethodName} {rm : Room} {As av : List Value} {z : Nat × Nat} {o a0 : Nat} {cJ : ClassId} {f : Nat → Int64} {M M2 : MS}
theorem lI_.sub (hI : lI_ G Gm o cJ s S D M f H) (hS : va_S (fun q => s.heap.size ≤ q) s.heap H locs) : ∀ q, cA G S H.size q → s.heap.size ≤ q := fun q h => by
  rcases cA_mem.mp h with h | h
  · obtain ⟨k, hk⟩ := cget (G := G) (D := D) h rfl
    exact (hI.2.2.2.1 D).2 k _ hk
  · exact Nat.le_trans hS.1 h
theorem lI_.subm (hI : lI_ G Gm o cJ s S D M f H) (hS : va_S (fun q => s.heap.size ≤ q) s.heap H locs) : ∀ q, mA Gm H.size q → s.heap.size ≤ q := fun q h => by
  rcases h with ⟨k, e, h⟩ | h
  · exact (hI.2.2.2.2.1 mM0).2 k _ h
  · exact Nat.le_trans hS.1 h
/-- the class's pool grew or changed, the long too -/
theorem lI_.grow (hI : lI_ G Gm o cJ s S D M f H) (hS : va_S (fun q => s.heap.size ≤ q) s.heap H locs) {S2 : CS} {H1 : Heap} {f2 : Nat → Int64} (hG : cGr G S S2 H.size) (hk : ∀ q : Nat, q < H.size → ¬ wA G S o H.size q → H1[q]? = H[q]?) (hP : va_P G.1 vwCl (cW G S2 D2) H1) (hO : va_P G.1 vwCl (oW o cJ f2) H1) : lI_ G Gm o cJ s S2 D2 M f2 H1 := by
  have hI0 := hI
  obtain ⟨i1, i2, i3, i4, i5, i6, i7, i8⟩ := hI
  refine ⟨hP, i2.kept (fun k x hx => ?_), hO, fun D => ⟨(hG.2.2 D).1, fun k q hq => ?_⟩, i5, i6, fun h => ?_, fun q hq => ⟨fun h => ?_, (i8 q hq).2⟩⟩
  · have h0 := mAt_.of hx
    refine hk x.1 (i2 k x hx).lt (fun h => ?_)
    rcases h with h | h
    · rcases cA_mem.mp h with h | h
      · exact (i8 _ h0).1 h
      · exact absurd (mAt_.lt i2 h0) (Nat.not_lt.mpr h)
    · exact (i8 _ h0).2 h
  · rcases hG.2.1 _ (cW_mem hq) with h | h
    · exact hI0.sub hS _ (cA_mem.mpr (Or.inl h))
    · exact Nat.le_trans hS.1 h
  · rcases hG.2.1 _ h with h | h
    · exact i7 h
    · exact absurd (i3 0 _ rfl).lt (Nat.not_lt.mpr h)
  · rcases hG.2.1 _ h with h | h
    · exact (i8 q hq).1 h
    · exact absurd (mAt_.lt i2 hq) (Nat.not_lt.mpr h)
theorem l_wrap (Fx : CallFix p m c cc nL s args WA RL) (hF : lF_ G Gm cJ z s) (hI : lI_ G Gm o cJ s S D M f H) (hS : va_S (fun q => s.heap.size ≤ q) s.heap H locs) {k : Int32} {P : Nat → CS → CD → Int64 → Prop} (hW : wCon l y ws G S D z o cJ f av k P) (hP : ∀ S2 D2 v, P H.size S2 D2 v → cGr G S S2 H.size) {hh : List (Nat × Nat × Nat × Nat)} (cw : vx_CSW R s args RL index y bytes maxL (some .int) hh ws wRm 2 21 n) (hn : av.length = n) (hsize : ls.size = nL) (hst : st0 = av.reverse ++ rest) (hr8 : (rest.map fun v => v.category).sum ≤ 8) (hR : ce + 2 ≤ R.cells ∧ sl + 21 ≤ R.slots) (hdg : decode cc pc = .ok (.invokestatic index, 3))
    (kk : ∀ (S2 : CS) (D2 : CD) (f2 : Nat → Int64) (H1 : Heap) (locs1 : List Loc), P H.size S2 D2 (f2 0) → lI_ G Gm o cJ s S2 D2 M f2 H1 → va_S (fun q => s.heap.size ≤ q) s.heap H1 locs1 → W p l e R s m args below meth c H1 locs1 (ce + 2) (sl + 21) Q (F0 m (pc + 3) ls (.int k :: rest))) : W p l e R s m args below meth c H locs ce sl Q (F0 m pc ls st0) := by
  obtain ⟨hg, hKc, hKm, hKo, hN, hz, hx, hnc⟩ := hF
  have hI0 := hI
  obtain ⟨i1, i2, i3, i4, i5, i6, i7, i8⟩ := hI
  have hsub := hI0.sub hS
  have hsw : ∀ q, wA G S o H.size q → s.heap.size ≤ q := fun q h => h.elim (hsub q) (fun h => by rw [h]; exact i6)
  refine vx_calli (vx_runSX (As := av) (rest := rest) (g := F0 m pc ls st0) Fx (hW H.size) cw ⟨wBlind, fun U hU hWm => ⟨rfl, ⟨⟨by rw [hU], by rw [hU]; exact i1, va_K.moved hWm.alike hKc, (i4 D).weaken (fun _ _ _ _ => trivial), fun q hq => (hN q hq).warmF hWm⟩, by rw [hU]; exact hz.next hWm hsub (fun a ha hn => hS.2.1 a ha hn), by rw [hU]; exact hx.next hWm hsub (fun a ha hn => hS.2.1 a ha hn)⟩, by rw [hU]; exact i3, va_K.moved hWm.alike hKo, i7, va_Nc.moved hWm.alike hnc.1, va_Nc.moved hWm.alike hnc.2⟩⟩ rfl hn hsize hst (lv_room hr8) hdg hR) hS (fun q _ h => hsw q h) (fun q h => hsw q h) (fun q _ h => h.elim) (fun E ce9 q9 u t H1 locs1 ht hvm hpx hB hz1 hk1 hS1 h1 h2 h3 => hpx.elim) (fun r u t H1 locs1 ht hvm hw hB hz1 hk1 hS1 => ?_)
  obtain ⟨rfl, hw⟩ := hw
  obtain ⟨S2, D2, f2⟩ := u
  exact kk S2 D2 f2 H1 locs1 hw (hI0.grow hS (hP _ _ _ hw) hk1 (by rw [← ht]; exact hB.1.1) (by rw [← ht]; exact hB.2)) hS1
theorem l_mod {r : Int32} (Fx : CallFix p m c cc nL s args WA RL) (hF : lF_ G Gm cJ z s) (hI : lI_ G Gm o cJ s S D M f H) (hS : va_S (fun q => s.heap.size ≤ q) s.heap H locs) (hM : mMI l y ws rm Gm (.ref (mO Gm) :: As) M M2 r) {ret' : Option FieldType} (cw : CallW R s args RL RX7 index y bytes maxL ret' ws rm 0 0 n) (hn : As.length = n) (hsize : ls.size = nL) (hst : st0 = As.reverse ++ .ref (mO Gm) :: rest) (hr8 : (rest.map fun v => v.category).sum ≤ 8) (hR : ce + 0 ≤ R.cells ∧ sl + 0 ≤ R.slots) (hdg : decode cc pc = .ok (.invokevirtual index, 3))
    (kk : ∀ (H1 : Heap) (locs1 : List Loc), lI_ G Gm o cJ s S D M2 f H1 → va_S (fun q => s.heap.size ≤ q) s.heap H1 locs1 → W p l e R s m args below meth c H1 locs1 ce sl Q (F0 m (pc + 3) ls (.int r :: rest))) : W p l e R s m args below meth c H locs ce sl Q (F0 m pc ls st0) := by
  obtain ⟨hg, hKc, hKm, hKo, hN, hz, hx, hnc⟩ := hF
  have hI0 := hI
  obtain ⟨i1, i2, i3, i4, i5, i6, i7, i8⟩ := hI
  have hsub := hI0.subm hS
  refine va_calli (va_runV (As := As) (rest := rest) (g := F0 m pc ls st0) Fx (hM H.size) cw ⟨mBlind, va_recv hKm i2 (ci := 8) (q0 := 0) rfl rfl, fun U hU hWm => ⟨rfl, by rw [hU], by rw [hU]; exact i2, va_K.moved hWm.alike hKm, (i5 M).weaken (fun _ _ _ _ => trivial)⟩⟩ rfl hn hsize hst (lv_room hr8) hdg hR) hS (fun q _ h => hsub q h) hsub (fun r1 u t H1 locs1 ht hvm hw hB hz1 hk1 hS1 => ?_)
  cases hw
  have hno : ∀ q : Nat, q < H.size → ¬ mAt_ Gm q → H1[q]? = H[q]? := fun q hq hn => hk1 q hq (fun h => h.elim hn (fun h => absurd hq (Nat.not_lt.mpr h)))
  refine kk H1 locs1 ⟨i1.kept (fun k x hx => hno x.1 (i1 k x hx).lt (fun h => (i8 _ h).1 (cW_mem hx))), by rw [← ht]; exact hB.1, i3.kept (fun k x hx => hno x.1 (i3 k x hx).lt (fun h => (i8 _ h).2 ?_)), i4, i5, i6, i7, i8⟩ hS1
  have hk : k < 1 := (List.getElem?_eq_some_iff.mp hx).1
  rw [Nat.lt_one_iff.mp hk] at hx
  cases hx
  rfl
theorem l_cls {r : Int32} (Fx : CallFix p m c cc nL s args WA RL) (hF : lF_ G Gm cJ z s) (hI : lI_ G Gm o cJ s S D M f H) (hS : va_S (fun q => s.heap.size ≤ q) s.heap H locs) (hm : a0 ∈ S.1) (hk : S.2.1 a0 = 6) (hM : cMI l y ws rm G S (.ref a0 :: As) D D2 r) {ret' : Option FieldType} (cw : CallW R s args RL RX6 index y bytes maxL ret' ws rm 0 0 n) (hn : As.length = n) (hsize : ls.size = nL) (hst : st0 = As.reverse ++ .ref a0 :: rest) (hr8 : (rest.map fun v => v.category).sum ≤ 8) (hR : ce + 0 ≤ R.cells ∧ sl + 0 ≤ R.slots) (hdg : decode cc pc = .ok (.invokevirtual index, 3))
    (kk : ∀ (H1 : Heap) (locs1 : List Loc), lI_ G Gm o cJ s S D2 M f H1 → va_S (fun q => s.heap.size ≤ q) s.heap H1 locs1 → W p l e R s m args below meth c H1 locs1 ce sl Q (F0 m (pc + 3) ls (.int r :: rest))) : W p l e R s m args below meth c H locs ce sl Q (F0 m pc ls st0) := by
  obtain ⟨hg, hKc, hKm, hKo, hN, hz, hx, hnc⟩ := hF
  have hI0 := hI
  obtain ⟨i1, i2, i3, i4, i5, i6, i7, i8⟩ := hI
  have hsub := hI0.sub hS
  obtain ⟨q0, hq0⟩ := cget (G := G) (D := D) hm (cE_6 hk)
  refine va_calli (va_runV (As := As) (rest := rest) (g := F0 m pc ls st0) Fx (hM H.size) cw ⟨cBlind, va_recv hKc i1 (ci := 7) (q0 := q0) rfl hq0, fun U hU hWm => ⟨rfl, by rw [hU], by rw [hU]; exact i1, va_K.moved hWm.alike hKc, (i4 D).weaken (fun _ _ _ _ => trivial), fun q hq => (hN q hq).warmF hWm⟩⟩ rfl hn hsize hst (lv_room hr8) hdg hR) hS (fun q _ h => hsub q h) hsub (fun r1 u t H1 locs1 ht hvm hw hB hz1 hk1 hS1 => ?_)
  cases hw
  exact kk H1 locs1 (hI0.grow hS (cGr.self hI0.all) (fun q h1 h2 => hk1 q h1 (fun h => h2 (Or.inl h))) (by rw [← ht]; exact hB.1) (oW_keep (S := S) i3 hk1 i7)) hS1
end LROWS
/-- the map between two calls, in the class's pool and in the reference's rows -/
def jP_ (S : CS) (D : CD) (z : Nat × Nat) (a0 : Nat) (M : MS) : Prop := ∃ (n : Nat) (g : Nat → Sg) (root : Nat → Nat) (r : Nat → Option Nat) (c : Nat) (lo ou : Nat → Nat), gOk n g ∧ n ≤ 12 ∧ mPic M n g root r c lo ou ∧ cAll S D z a0 n g root (fun s => (r s).getD 0) c lo ou
/-- what a call of the class through its wrapper and the same call of the reference come to: the wrapper answers what the reference says that was thrown; where nothing was, the same answer -/
def lRes (l : Launch) (G : cG) (Gm : mG) (S : CS) (D : CD) (z : Nat × Nat) (a0 o : Nat) (cJ : ClassId) (f : Nat → Int64) (M : MS) (yL : MethodName) (wL : List Cond) (yM : MethodName) (wM : List Cond) (rmM : Room) (avL avM : List Value) (enc : Int32 → Int64) : Prop :=
  ∃ (k b : Int32) (P : Nat → CS → CD → Int64 → Prop) (M2 : MS), wCon l yL wL G S D z o cJ f avL k P ∧ mMI l yM wM rmM Gm avM M M2 b ∧ M2.1 23 = k ∧ ∀ sz S2 D2 v, P sz S2 D2 v → cGr G S S2 sz ∧ jP_ S2 D2 z a0 M2 ∧ (k = 0 → v = enc b)
theorem gSW {own : String} {idx n : Nat} {y : MethodName} {b : ByteArray} {ret : Option FieldType} {hh : List (Nat × Nat × Nat × Nat)} (h1 : Cond.methodLink own idx y ∈ WA) (h2 : Cond.static y ∈ WA) (h4 : Cond.initialized y.cls ∈ WA) (h5 : Cond.codeWith y b n ret hh ∈ WA) : GoodIn WA (va_wsS own idx y (Cond.codeWith y b n ret hh :: WA)) := by
  intro w hw
  have h : w ∈ WA := by
    unfold va_wsS at hw
    rcases List.mem_append.mp hw with h | h
    · simp only [List.mem_cons, List.not_mem_nil, or_false] at h
      rcases h with rfl | rfl | rfl <;> assumption
    · rcases List.mem_cons.mp h with rfl | h
      · exact h5
      · exact h
  exact ⟨h, WA_good w h⟩
theorem gVW {own C : String} {idx n : Nat} {y : MethodName} {b : ByteArray} {ret : Option FieldType} {ws : List Cond} (h1 : Cond.methodLink own idx y ∈ WA) (h2 : Cond.instanceMethod y ∈ WA) (h3 : Cond.selects C y y ∈ WA) (h4 : Cond.initialized C ∈ WA) (h5 : Cond.code y b n ret ∈ WA) (h6 : ∀ w ∈ ws, w ∈ WA) : GoodIn WA (wsV own idx C y (Cond.code y b n ret :: ws)) := by
  intro w hw
  have h : w ∈ WA := by
    unfold wsV at hw
    rcases List.mem_append.mp hw with h | h
    · simp only [List.mem_cons, List.not_mem_nil, or_false] at h
      rcases h with rfl | rfl | rfl | rfl <;> assumption
    · rcases List.mem_cons.mp h with rfl | h
      · exact h5
      · exact h6 w h
  exact ⟨h, WA_good w h⟩
theorem lg_cmp_self (x : Int64) : lg_cmp x x = 0 := by
  unfold lg_cmp
  rw [if_neg (Int64.lt_irrefl), if_pos rfl]
