/-! ArrayList.add -/
section URW
variable {p : Program} {l : Launch} {e : Env} {R : Room} {s : State} {m : MethodId} {args : Array Value} {below : List Frame} {meth : Method} {c : Code} {H : Heap} {locs : List Loc} {Q : State → Prop}
variable {pc : Nat} {ls : Array Slot} {rest st0 : List Value} {ws ws' Ts : List Cond} {cc bytes : ByteArray} {maxL nL index n sz h ce sl : Nat} {ret : Option FieldType} {own : String} {G : cG} {S S2 : CS} {D D2 : CD} {y : MethodName} {rm : Room} {As av : List Value}

theorem n_getU {C ref : String} {T : u_T} {N ci a : Nat} {fs : List Value} (hC : cC own p s m args meth c Ts cc nL ret G S sz) (hin : ∀ w ∈ u_ws C T N, w ∈ Ts) (hP : va_P G.1 vwCl (cW G S D) H) (hm : a ∈ S.1) (hE : cE G S D a = .inr (ci, fs)) (hc : vwCl[ci]? = some (C, T, N)) (k : Nat) (hk : k < N) (hlink : (Cond.fieldLink own index ref (T k).2.1 (T k).2.2.1).before args s = true) (hsame : ∀ x, s.fieldFound? (T k).1 (T k).2.1 (T k).2.2.1 = some x → s.fieldFound? ref (T k).2.1 (T k).2.2.1 = some x) {v : Value} (hv : fs[k]? = some v) (hdg : decode cc pc = .ok (.getfield index, 3))
    (kk : W p l e R s m args below meth c H locs ce sl Q (F0 m (pc + 3) ls (v :: rest))) : W p l e R s m args below meth c H locs ce sl Q (F0 m pc ls (.ref a :: rest)) := by
  obtain ⟨hx, hb, hr, hts, hown, hlocks, hml, hK, hD, hsz, hN⟩ := hC
  obtain ⟨q0, hq⟩ := cget hm hE
  exact va_get (D := G.1) (ci := ci) (C := C) (T := T) (N := N) hx hb hts hin hown hK hP q0 hq hc k hk hlink hsame hv hdg kk
theorem n_putU {C ref : String} {T : u_T} {N ci a : Nat} {fs : List Value} (hC : cC own p s m args meth c Ts cc nL ret G S sz) (hin : ∀ w ∈ u_ws C T N, w ∈ Ts) (ty0 : Nat → FieldType) (hty : ∀ k, k < N → parseFieldDescriptor (T k).2.2.1 = some (ty0 k)) (hnm : ∀ a, a < N → ∀ b, b < N → a ≠ b → (T a).2.1 ≠ (T b).2.1) (hP : va_P G.1 vwCl (cW G S D) H) (hS : va_S (cA G S sz) s.heap H locs) (hz : H.size = h) (hm : a ∈ S.1) (hE : cE G S D a = .inr (ci, fs)) (hc : vwCl[ci]? = some (C, T, N)) (k : Nat) (hk : k < N) (hlink : (Cond.fieldLink own index ref (T k).2.1 (T k).2.2.1).before args s = true) (hsame : ∀ x, s.fieldFound? (T k).1 (T k).2.1 (T k).2.2.1 = some x → s.fieldFound? ref (T k).2.1 (T k).2.2.1 = some x) (hfin : (T k).2.2.2 = false ∨ ((T k).2.2.2 = true ∧ meth.name = "<init>" ∧ (T k).1 = own)) {ty : FieldType} {v : Value} (hd : parseFieldDescriptor (T k).2.2.1 = some ty) (hn : narrow ty v = v) (hfit : fits ty v = true) (hl : k < fs.length) (h0 : S2.1 = S.1) (h1 : .inr (ci, fs.set k v) = cE G S2 D2 a) (h2 : ∀ b, b ≠ a → cE G S D b = cE G S2 D2 b) (hdg : decode cc pc = .ok (.putfield index, 3))
    (kk : ∀ (H1 : Heap) (locs1 : List Loc), va_P G.1 vwCl (cW G S2 D2) H1 → H1.size = h → va_S (cA G S2 sz) s.heap H1 locs1 → cC own p s m args meth c Ts cc nL ret G S2 sz → W p l e R s m args below meth c H1 locs1 ce sl Q (F0 m (pc + 3) ls rest)) : W p l e R s m args below meth c H locs ce sl Q (F0 m pc ls (v :: .ref a :: rest)) := by
  have hC0 := hC
  obtain ⟨hx, hb, hr, hts, hown, hlocks, hml, hK, hD, hsz, hN⟩ := hC
  obtain ⟨q0, hq⟩ := cget hm hE
  have hw := cset2 (S2 := S2) (D2 := D2) (hD D) hm hE hq h0 h1 h2
  have hap := va_apart (own := own) hts hin ty0 hty hnm hK hc
  have hPk := hP
  obtain ⟨r, g1, cell, q1, q2, q3, q4⟩ := hP q0 _ hq
  have hr' : r = (C, T, N) := Option.some.inj (g1.symm.trans hc)
  subst hr'
  obtain ⟨hSl, hfc, kC, hkC, hkind⟩ := hK.1 ci _ hc
  obtain ⟨cf, kf, fi, f, hi, hsl⟩ := hSl k hk
  have hst := (u_facts hfc hkC (u_lays hts hin hk) hi).1
  have hA : cA G S sz a := cA_mem.mpr (Or.inl hm)
  have fin : ∀ H' : Heap, H'[a]? = some (cell.setSlot f.slot v) → H'.size = H.size → (∀ q, q ≠ a → H'[q]? = H[q]?) → W p l e R s m args below meth c H' (locs ++ [⟨a, f.slot⟩]) ce sl Q { method := m, pc := pc + 3, locals := ls, stack := rest, locked := none } := by
    intro H' e1 e2 e3
    rw [hsl] at e1 ⊢
    have hP1 := hPk.set (hD D) hq (show va_at G.1 vwCl (a, .inr (ci, fs.set k v)) H' from ⟨_, hc, t_OB.to (V := updV (vp_V fs) k v) ⟨_, e1, q2, q3, t_set q4 hap hk v⟩ (fun j _ => vp_updV_set hl v j)⟩) e3
    have hD1 := (hD D).set (e := .inr (ci, fs.set k v)) hq
    rw [hw] at hP1 hD1
    refine kk H' _ hP1 (e2.trans hz) ?_ (cC_S hC0 ⟨_, hD1⟩)
    exact va_S.mono (hS.put e2 e3 hA) (cA_mono (fun q hq => Or.inl (by rw [h0]; exact hq)))
  have hlay := hts _ (hin _ (u_in_lay hk))
  unfold u_lay at hlay
  rcases hfin with hfin | ⟨hfin, hin2, hdecl⟩
  · rw [if_neg (by rw [hfin]; decide)] at hlay
    have h6 := u_store hfc hkC hkind hlay hi hd hn hfit
    exact W.putK hx hb (f := f) ⟨hown, hlink, ⟨_, _, _, hsame _ hi⟩, hst⟩ (by rw [q2]; exact h6) q1 q3 (by rw [hsl]; exact k2_hasslot (q4 k hk)) rfl rfl hdg fin
  · rw [if_pos hfin] at hlay
    have hcf : m.cls = cf := by
      obtain ⟨_, _, c', _, _, _, -, -, hf', -, -, -, hown2, -⟩ := Cond.laysFinal_spec hlay
      have e1 : c' = cf := by have := hi.symm.trans hf'; simp at this; exact this.1.symm
      rw [hdecl] at hown2
      rw [← e1]; exact Option.some.inj (hown.symm.trans hown2)
    have h6 := u_fits hfc hkC hkind (Or.inr hlay) hi hd hn hfit
    exact W.putFinK hx hb hown hlink (hsame _ hi) hst hcf hin2 (by rw [q2]; exact h6) q1 q3 (by rw [hsl]; exact k2_hasslot (q4 k hk)) rfl rfl hdg fin
end URW
/-- a list of n Segments, n below 12, in its row arr -/
def rLs (S : CS) (D : CD) (z : Nat × Nat) (a0 arr n : Nat) : Prop := S.2.2.1 a0 1 = some arr ∧ D.1 a0 2 = nI n ∧ ((arr = z.1 ∧ n = 0) ∨ (arr ∈ S.1 ∧ S.2.1 arr = 10 ∧ (S.2.2.2 arr = 10 ∨ S.2.2.2 arr = 15) ∧ n ≤ S.2.2.2 arr ∧ ∀ i, i < n → ∀ y, D.2.2.2 arr i = some y → y ∈ S.1 ∧ S.2.1 y = 4))
/-- the row behind an add: r -/
def rRw (S : CS) (a0 arr n b r : Nat) (S2 : CS) : Prop := (r = arr ∧ S2 = S ∧ arr ∈ S.1 ∧ S.2.1 arr = 10 ∧ (S.2.2.2 arr = 10 ∨ S.2.2.2 arr = 15) ∧ n + 1 ≤ S.2.2.2 arr) ∨ (b ≤ r ∧ ∃ L, (L = 10 ∨ L = 15) ∧ n + 1 ≤ L ∧ S2 = sRef (sAdd S r 10 L) a0 1 r)
def rAd (S : CS) (D : CD) (a0 arr n v b : Nat) (S2 : CS) (D2 : CD) : Prop := ∃ r, rRw S a0 arr n b r S2 ∧ (∀ x, x ≠ r → x ≠ a0 → D2.1 x = D.1 x ∧ D2.2.1 x = D.2.1 x ∧ D2.2.2.1 x = D.2.2.1 x ∧ D2.2.2.2 x = D.2.2.2 x) ∧ D2.1 a0 2 = nI (n + 1) ∧ (∀ i, i < n → D2.2.2.2 r i = D.2.2.2 arr i) ∧ D2.2.2.2 r n = some v
theorem rRw_at {S S2 : CS} {a0 arr n b r : Nat} (h : rRw S a0 arr n b r S2) (ha : a0 < b) : r ∈ S2.1 ∧ S2.2.1 r = 10 ∧ n + 1 ≤ S2.2.2.2 r ∧ S2.2.2.2 r ≤ 15 := by
  rcases h with ⟨rfl, rfl, h1, h2, h3, h4⟩ | ⟨hb, L, hL, hn, rfl⟩
  · exact ⟨h1, h2, h4, by omega⟩
  · exact ⟨List.mem_append_right _ (List.mem_singleton.mpr rfl), va_up_self _ _ _, by
      show n + 1 ≤ va_up S.2.2.2 r L r
      rw [va_up_self]; exact hn, by
      show va_up S.2.2.2 r L r ≤ 15
      rw [va_up_self]; omega⟩
theorem rRw_old {S S2 : CS} {a0 arr n b r : Nat} (h : rRw S a0 arr n b r S2) {x : Nat} (hx : x ∈ S.1) (hb : x < b) : x ∈ S2.1 ∧ S2.2.1 x = S.2.1 x := by
  rcases h with ⟨rfl, rfl, h1, h2, h3, h4⟩ | ⟨hbr, L, hL, hn, rfl⟩
  · exact ⟨hx, rfl⟩
  · exact ⟨List.mem_append_left _ hx, va_up_ne _ _ (by omega)⟩
theorem dJx4a65c_add_72be8_0 : decode cJx4a65c_add_72be8 0 = .ok (.iload_n 3, 1) := by decide +kernel
theorem dJx4a65c_add_72be8_1 : decode cJx4a65c_add_72be8 1 = .ok (.aload_n 2, 1) := by decide +kernel
theorem dJx4a65c_add_72be8_2 : decode cJx4a65c_add_72be8 2 = .ok (.arraylength, 1) := by decide +kernel
theorem dJx4a65c_add_72be8_3 : decode cJx4a65c_add_72be8 3 = .ok (.if_icmp .ne 8, 3) := by decide +kernel
theorem dJx4a65c_add_72be8_6 : decode cJx4a65c_add_72be8 6 = .ok (.aload_n 0, 1) := by decide +kernel
theorem dJx4a65c_add_72be8_7 : decode cJx4a65c_add_72be8 7 = .ok (.invokevirtual 129, 3) := by decide +kernel
theorem dJx4a65c_add_72be8_10 : decode cJx4a65c_add_72be8 10 = .ok (.astore_n 2, 1) := by decide +kernel
theorem dJx4a65c_add_72be8_11 : decode cJx4a65c_add_72be8 11 = .ok (.aload_n 2, 1) := by decide +kernel
theorem dJx4a65c_add_72be8_12 : decode cJx4a65c_add_72be8 12 = .ok (.iload_n 3, 1) := by decide +kernel
theorem dJx4a65c_add_72be8_13 : decode cJx4a65c_add_72be8 13 = .ok (.aload_n 1, 1) := by decide +kernel
theorem dJx4a65c_add_72be8_14 : decode cJx4a65c_add_72be8 14 = .ok (.aastore, 1) := by decide +kernel
theorem dJx4a65c_add_72be8_15 : decode cJx4a65c_add_72be8 15 = .ok (.aload_n 0, 1) := by decide +kernel
theorem dJx4a65c_add_72be8_16 : decode cJx4a65c_add_72be8 16 = .ok (.iload_n 3, 1) := by decide +kernel
theorem dJx4a65c_add_72be8_17 : decode cJx4a65c_add_72be8 17 = .ok (.iconst 1, 1) := by decide +kernel
theorem dJx4a65c_add_72be8_18 : decode cJx4a65c_add_72be8 18 = .ok (.iadd, 1) := by decide +kernel
theorem dJx4a65c_add_72be8_19 : decode cJx4a65c_add_72be8 19 = .ok (.putfield 48, 3) := by decide +kernel
theorem dJx4a65c_add_72be8_22 : decode cJx4a65c_add_72be8 22 = .ok (.return_, 1) := by decide +kernel
def wJx4a65c_add_72be8 : List Cond := Cond.code yJx4a65c_add_72be8 cJx4a65c_add_72be8 4 none :: WA
set_option maxRecDepth 100000 in
set_option maxHeartbeats 4000000 in
theorem i_Jx4a65c_add_72be8 (l : Launch) (G : cG) (S : CS) (z : Nat × Nat) (D : CD) (a0 v : Nat) (hm0 : a0 ∈ S.1) (hk0 : S.2.1 a0 = 7) (hmv : v ∈ S.1) (hkv : S.2.1 v = 4) (arr n : Nat) (hn12 : n < 12) (hF : rLs S D z a0 arr n) : cMKv l yJx4a65c_add_72be8 wJx4a65c_add_72be8 ({ frames := 6, cells := 1, slots := 15, locals := 200 }) G S z [.ref a0, .ref v, .ref arr, .int (nI n)] D 1 15 (fun b S2 D2 => rAd S D a0 arr n v b S2 D2) := by
  refine cBodyKz (cc := cJx4a65c_add_72be8) (maxL := 4) (ret := none) (own := RJx4a65c) (by decide) rfl rfl ?_
  intro sz p e s m below meth c hC hP hZ hname
  have hC0 := hC
  obtain ⟨hx, hb, -, hts, hown, -, hml, -, -, hz, -⟩ := hC0
  have hS : va_S (cA G S sz) s.heap s.heap [] := va_S.rf
  have hlt : a0 < sz := by rw [← hz]; exact cW_lt hP hm0
  have hltv : v < sz := by rw [← hz]; exact cW_lt hP hmv
  have hin_Jx4a65c : ∀ w ∈ wsJx4a65c0, w ∈ wJx4a65c_add_72be8 := fun w h => List.mem_cons_of_mem _ (hWCA _ (hWC7 w h))
  have T : ∀ (S2 : CS) (D2 : CD) (H : Heap) (locs : List Loc) (ls : Array Slot) (r ce sl : Nat), ce ≤ 1 → sl ≤ 15 → rRw S a0 arr n sz r S2 → (∀ x, x ≠ r → D2.1 x = D.1 x ∧ D2.2.1 x = D.2.1 x ∧ D2.2.2.1 x = D.2.2.1 x ∧ D2.2.2.2 x = D.2.2.2 x) → r ≠ a0 → D2.1 r = D2.1 r → (∀ i, i < n → D2.2.2.2 r i = D.2.2.2 arr i) → gr0 S S2 sz → va_P G.1 vwCl (cW G S2 D2) H → va_S (cA G S2 sz) s.heap H locs → cC RJx4a65c p s m ([.ref a0, .ref v, .ref arr, .int (nI n)] : List Value).toArray meth c wJx4a65c_add_72be8 cJx4a65c_add_72be8 4 none G S2 sz → lv_has ls 4 [(2, .ref r), (0, .ref a0), (1, .ref v), (3, .int (nI n))] → W p l e (headSpec wJx4a65c_add_72be8 ({ frames := 6, cells := 1, slots := 15, locals := 200 })).room s m ([.ref a0, .ref v, .ref arr, .int (nI n)] : List Value).toArray below meth c H locs ce sl (MQ below (va_Qv (fun (u : CS × CD) => (fun b S2 D2 => rAd S D a0 arr n v b S2 D2) sz u.1 u.2 ∧ cGr G S u.1 sz) (fun u t => cIs G u.1 u.2 t) (cA G S sz)) ([.ref a0, .ref v, .ref arr, .int (nI n)] : List Value).toArray s 1 15 (cA G S sz)) (F0 m 11 ls []) := by
    intro S2 D2 H locs ls r ce sl hce hsl hRw hD hra _ hel hG hP hS hC hl
    obtain ⟨q1, q2, q3, q4⟩ := rRw_at hRw hlt
    obtain ⟨v1, v2⟩ := rRw_old hRw hmv hltv
    obtain ⟨b1, b2⟩ := rRw_old hRw hm0 hlt
    have hin : vp_in (nI n) (S2.2.2.2 r) := vp_in_nI (by omega) (by omega)
    refine lv_aload_n hx hb dJx4a65c_add_72be8_11 rfl (lv_at hl 0 rfl) ?_
    refine lv_iload_n hx hb dJx4a65c_add_72be8_12 rfl (lv_at hl 3 rfl) ?_
    refine lv_aload_n hx hb dJx4a65c_add_72be8_13 rfl (lv_at hl 2 rfl) ?_
    refine n_ast (E := "java/lang/Object") (C := RX4) (T := TX4) (N := 6) (ci := 5) (t0 := 2) (kd := 10) (a := r) (v := v) (i := nI n) (h := H.size) hC hP hS rfl rfl (fun S D a h => cE_10 h) q1 q2 v1 (cE_4 (v2.trans hkv)) rfl (fun comp c0 g1 g2 => vb_asgC hZ.2.2.1 comp c0 g1 g2) hin dJx4a65c_add_72be8_14 (fun H locs hP hz hS => ?_)
    rw [nI_clamp (by omega)] at hP
    refine lv_aload_n hx hb dJx4a65c_add_72be8_15 rfl (lv_at hl 1 rfl) ?_
    refine lv_iload_n hx hb dJx4a65c_add_72be8_16 rfl (lv_at hl 3 rfl) ?_
    refine lv_iconst (v := 1) hx hb dJx4a65c_add_72be8_17 (by decide) ?_
    refine lv_iadd hx hb dJx4a65c_add_72be8_18 ?_
    rw [show nI n + 1 = nI (n + 1) from nI_add n 1]
    refine n_put (C := RJx4a65c) (T := TJx4a65c) (N := 3) (ref := "java/util/ArrayList") (ci := 0) (h := H.size) (S2 := S2) (D2 := cpF (cpR D2 r (va_up (D2.2.2.2 r) n (some v))) a0 2 (nI (n + 1))) hC hin_Jx4a65c tyJx4a65c tyJx4a65c_ok nmJx4a65c hP hS rfl b1 (cE_7 (b2.trans hk0)) rfl 2 (by decide) (hts _ (List.mem_cons_of_mem _ (hWCA _ wc_1))) rfl (Or.inl rfl) (ty := .int) (by decide +kernel) rfl rfl (Nat.le_of_ble_eq_true rfl) rfl (csi_7_2 G (b2.trans hk0) _) (cne_F G) dJx4a65c_add_72be8_19 (fun H locs hP hz hS hC => ?_)
    refine n_vretw (S0 := S) (Rl := (fun b S2 D2 => rAd S D a0 arr n v b S2 D2)) hC hP hS ⟨r, hRw, fun x hx hxa => ?_, ?_, fun i hi => ?_, ?_⟩ hG dJx4a65c_add_72be8_22 hce hsl
    · obtain ⟨h1, h2, h3, h4⟩ := hD x hx
      exact ⟨(va_up_ne _ _ hxa).trans h1, h2, h3, (va_up_ne _ _ hx).trans h4⟩
    · show va_up D2.1 a0 (va_up (D2.1 a0) 2 (nI (n + 1))) a0 2 = _
      rw [va_up_self, va_up_self]
    · show va_up D2.2.2.2 r (va_up (D2.2.2.2 r) n (some v)) r i = _
      rw [va_up_self, va_up_ne _ _ (Nat.ne_of_lt hi)]
      exact hel i hi
    · show va_up D2.2.2.2 r (va_up (D2.2.2.2 r) n (some v)) r n = _
      rw [va_up_self, va_up_self]
  refine m_entry (Nat.le_of_ble_eq_true rfl) (fun ls hl => ?_)
  have hl : lv_has ls 4 [(0, .ref a0), (1, .ref v), (2, .ref arr), (3, .int (nI n))] := hl
  obtain ⟨hr1, hr2, hr3⟩ := hF
  refine lv_iload_n hx hb dJx4a65c_add_72be8_0 rfl (lv_at hl 3 rfl) ?_
  refine lv_aload_n hx hb dJx4a65c_add_72be8_1 rfl (lv_at hl 2 rfl) ?_
  rcases hr3 with ⟨hz1, hn0⟩ | ⟨r1, r2, r3, r4, r5⟩
  · refine va_tlen hx hb (by rw [hz1]; exact hZ.2.1) hS (v := 0) (by decide) dJx4a65c_add_72be8_2 ?_
    refine lv_icmp_ne (tgt := 11) hx hb dJx4a65c_add_72be8_3 (by decide) (fun u => absurd (by rw [hn0]; rfl) u) (fun _ => ?_)
    have hfu : rFu S D z a0 arr n := ⟨hr1, hr2, Or.inl ⟨hz1, hn0⟩⟩
    refine lv_aload_n hx hb dJx4a65c_add_72be8_6 rfl (lv_at hl 0 rfl) ?_
    refine a_rV (S0 := S) (As := []) (rest := []) hC hP hS hZ gr0.rfl hm0 (cE_7 hk0) (C := RJx4a65c) (T := TJx4a65c) (N := 3) rfl (i_Jx4a65c_grow_d5877 l G S z D a0 hm0 hk0 arr n hfu) (cwV 0 hts (gVA wa_85 wa_86 wa_87 (hWCA _ wc_7) wa_88 (fun w h => h)) rfl rfl rfl (by decide +kernel) ⟨Nat.le_of_ble_eq_true rfl, Nat.le_of_ble_eq_true rfl⟩) rfl hl.1 rfl (Nat.le_of_ble_eq_true rfl) ⟨Nat.le_of_ble_eq_true rfl, Nat.le_of_ble_eq_true rfl⟩ dJx4a65c_add_72be8_7 (fun b r S2 D2 H locs hb2 hRl hG hP hS hC => ?_)
    obtain ⟨hbr, L, hL, hnL, hS2, hD2, hel⟩ := hRl
    have hsr : sz ≤ r := Nat.le_trans hb2 hbr
    refine lv_astore_n (lv' := [(2, .ref r), (0, .ref a0), (1, .ref v), (3, .int (nI n))]) hx hb dJx4a65c_add_72be8_10 rfl hl (by decide) rfl (fun ls hl => ?_)
    exact T S2 D2 H locs ls r 1 15 (Nat.le_refl _) (Nat.le_refl _) (Or.inr ⟨hsr, L, hL, hnL, hS2⟩) hD2 (Nat.ne_of_gt (Nat.lt_of_lt_of_le hlt hsr)) rfl hel hG hP hS hC hl
  · refine n_alen hC hP r1 (by rw [r2]; decide) (by rw [r2]; decide) dJx4a65c_add_72be8_2 ?_
    refine lv_icmp_ne (tgt := 11) hx hb dJx4a65c_add_72be8_3 (by decide) (fun u => ?_) (fun u => ?_)
    · have hne : n ≠ S.2.2.2 arr := fun w => u (by rw [← w]; rfl)
      refine T S D s.heap [] ls arr 0 0 (Nat.zero_le _) (Nat.zero_le _) (Or.inl ⟨rfl, rfl, r1, r2, r3, by omega⟩) (fun x hx => ⟨rfl, rfl, rfl, rfl⟩) (fun w => by rw [w, hk0] at r2; exact absurd r2 (by decide)) rfl (fun i hi => rfl) gr0.rfl hP hS hC (lv_sub hl [2, 0, 1, 3] rfl)
    · have hnl : n = S.2.2.2 arr := (nI_eq (a := n) (b := S.2.2.2 arr) (by omega) (by omega)).mp u
      have hn10 : n = 10 := by omega
      have hfu : rFu S D z a0 arr n := ⟨hr1, hr2, Or.inr ⟨⟨r1, r2, by omega, fun i hi => r5 i (by omega)⟩, hn10⟩⟩
      refine lv_aload_n hx hb dJx4a65c_add_72be8_6 rfl (lv_at hl 0 rfl) ?_
      refine a_rV (S0 := S) (As := []) (rest := []) hC hP hS hZ gr0.rfl hm0 (cE_7 hk0) (C := RJx4a65c) (T := TJx4a65c) (N := 3) rfl (i_Jx4a65c_grow_d5877 l G S z D a0 hm0 hk0 arr n hfu) (cwV 0 hts (gVA wa_85 wa_86 wa_87 (hWCA _ wc_7) wa_88 (fun w h => h)) rfl rfl rfl (by decide +kernel) ⟨Nat.le_of_ble_eq_true rfl, Nat.le_of_ble_eq_true rfl⟩) rfl hl.1 rfl (Nat.le_of_ble_eq_true rfl) ⟨Nat.le_of_ble_eq_true rfl, Nat.le_of_ble_eq_true rfl⟩ dJx4a65c_add_72be8_7 (fun b r S2 D2 H locs hb2 hRl hG hP hS hC => ?_)
      obtain ⟨hbr, L, hL, hnL, hS2, hD2, hel⟩ := hRl
      have hsr : sz ≤ r := Nat.le_trans hb2 hbr
      refine lv_astore_n (lv' := [(2, .ref r), (0, .ref a0), (1, .ref v), (3, .int (nI n))]) hx hb dJx4a65c_add_72be8_10 rfl hl (by decide) rfl (fun ls hl => ?_)
      exact T S2 D2 H locs ls r 1 15 (Nat.le_refl _) (Nat.le_refl _) (Or.inr ⟨hsr, L, hL, hnL, hS2⟩) hD2 (Nat.ne_of_gt (Nat.lt_of_lt_of_le hlt hsr)) rfl hel hG hP hS hC hl
