/-! ### Sums of whole numbers; what flows through a set of vertices is nothing -/
def zsm (f : Nat → Int) : Nat → Int
  | 0 => 0
  | n + 1 => zsm f n + f n
def zb (b : Bool) : Int := if b then 1 else 0
theorem zb_t : zb true = 1 := rfl
theorem zb_f : zb false = 0 := rfl
theorem zsm_congr {f h : Nat → Int} {n : Nat} (e : ∀ i, i < n → f i = h i) : zsm f n = zsm h n := by
  induction n with
  | zero => rfl
  | succ n ih => rw [zsm, zsm, ih (fun i hi => e i (by omega)), e n (by omega)]
theorem zsm_add (f h : Nat → Int) (n : Nat) : zsm (fun i => f i + h i) n = zsm f n + zsm h n := by
  induction n with
  | zero => rfl
  | succ n ih => rw [zsm, zsm, zsm, ih]; omega
theorem zsm_sub (f h : Nat → Int) (n : Nat) : zsm (fun i => f i - h i) n = zsm f n - zsm h n := by
  induction n with
  | zero => rfl
  | succ n ih => rw [zsm, zsm, zsm, ih]; omega
theorem zsm_0 {f : Nat → Int} {n : Nat} (h : ∀ i, i < n → f i = 0) : zsm f n = 0 := by
  induction n with
  | zero => rfl
  | succ n ih => rw [zsm, ih (fun i hi => h i (by omega)), h n (by omega)]; rfl
theorem zsm_one {f : Nat → Int} {n x : Nat} (hx : x < n) (h : ∀ i, i < n → i ≠ x → f i = 0) : zsm f n = f x := by
  induction n with
  | zero => omega
  | succ n ih =>
    rw [zsm]
    rcases Nat.lt_or_ge x n with z | z
    · rw [ih z (fun i hi hne => h i (by omega) hne), h n (by omega) (by omega)]; omega
    · have e : x = n := by omega
      subst e
      rw [zsm_0 (fun i hi => h i (by omega) (by omega))]; omega
theorem zsm_pair (f : Nat → Int) (n : Nat) : zsm f (2 * n) = zsm (fun e => f (2 * e) + f (2 * e + 1)) n := by
  induction n with
  | zero => rfl
  | succ n ih =>
    rw [show 2 * (n + 1) = 2 * n + 1 + 1 by omega, zsm, zsm, zsm, ih]; omega
theorem zsm_cnt (P : Nat → Bool) (n : Nat) : zsm (fun i => zb (P i)) n = (cnt P n : Int) := by
  induction n with
  | zero => rfl
  | succ n ih =>
    rw [zsm, cnt, ih]
    cases P n
    · simp [zb]
    · simp [zb]
theorem cnt_not (P : Nat → Bool) (n : Nat) : cnt P n + cnt (fun i => !P i) n = n := by
  induction n with
  | zero => rfl
  | succ n ih => rw [cnt, cnt]; cases P n <;> simp <;> omega
theorem cnt_mon2 (P : Nat → Bool) {a b : Nat} (h : a ≤ b) : cnt P a ≤ cnt P b := by
  induction b with
  | zero => have : a = 0 := by omega
            subst this; exact Nat.le_refl _
  | succ b ih =>
    rcases Nat.lt_or_ge b a with z | z
    · have : a = b + 1 := by omega
      subst this; exact Nat.le_refl _
    · have := ih z
      rw [cnt]; omega
theorem cnt_lt_of {P : Nat → Bool} {a b : Nat} (h : a < b) (hp : P a = true) : cnt P a < cnt P b := by
  have := cnt_mon2 P (show a + 1 ≤ b from h)
  rw [cnt, hp] at this
  simp at this
  omega
theorem cnt_per_le {π : Nat → Nat} {N : Nat} (hm : ∀ x, x < N → π x < N) (hi : ∀ x y, x < N → y < N → π x = π y → x = y) (P : Nat → Bool) : cnt (fun x => P (π x)) N ≤ cnt P N := by
  refine pigeon (cnt P N) N (fun x => P (π x)) (fun x => cnt P (π x)) (fun v hv hp => cnt_lt_of (hm v hv) hp) (fun v w hv hw hp hq he => ?_)
  apply hi v w hv hw
  rcases Nat.lt_trichotomy (π v) (π w) with z | z | z
  · have := cnt_lt_of z hp
    have he : cnt P (π v) = cnt P (π w) := he
    omega
  · exact z
  · have := cnt_lt_of z hq
    have he : cnt P (π v) = cnt P (π w) := he
    omega
/-- counting over a one-to-one map -/
theorem cnt_per {π : Nat → Nat} {N : Nat} (hm : ∀ x, x < N → π x < N) (hi : ∀ x y, x < N → y < N → π x = π y → x = y) (P : Nat → Bool) : cnt (fun x => P (π x)) N = cnt P N := by
  have h1 := cnt_per_le hm hi P
  have h2 := cnt_per_le hm hi (fun i => !P i)
  have h3 := cnt_not P N
  have h4 := cnt_not (fun x => P (π x)) N
  omega
section KIR
variable {n : Nat} {g : Nat → Sg} {q : ES} {fc : Nat → Nat}
/-- what an edge carries, for the face y -/
def phi (fc : Nat → Nat) (y e : Nat) : Int := zb (decide (fc (2 * e) = y)) - zb (decide (fc (2 * e + 1) = y))
def xsi (fc : Nat → Nat) (y s : Nat) : Int := zb (decide (fc s = y)) - zb (decide (fc (tw s) = y))
theorem xsi_e (y e : Nat) : xsi fc y (2 * e) = phi fc y e := by
  unfold xsi phi tw
  rw [if_pos (by omega)]
theorem xsi_o (y e : Nat) : xsi fc y (2 * e + 1) = -phi fc y e := by
  unfold xsi phi tw
  rw [if_neg (by omega), show 2 * e + 1 - 1 = 2 * e by omega]; omega
theorem bg_e (e : Nat) : bg q (2 * e) = eF q e := by
  unfold bg; rw [if_pos (by omega), show 2 * e / 2 = e by omega]
theorem bg_o (e : Nat) : bg q (2 * e + 1) = eT q e := by
  unfold bg; rw [if_neg (by omega), show (2 * e + 1) / 2 = e by omega]
theorem kir_s (hk : ∀ s t, s < 2 * q.1 → t < 2 * q.1 → bg q s = bg q t → key n g q s = key n g q t → s = t) (hf : ∀ s, s < 2 * q.1 → fc (nxt n g q s) = fc s) (y : Nat) (Rg : Nat → Bool) :
    zsm (fun s => xsi fc y s * zb (Rg (bg q s))) (2 * q.1) = 0 := by
  have e1 : ∀ s, s < 2 * q.1 → xsi fc y s * zb (Rg (bg q s)) = zb (decide (fc s = y) && Rg (bg q s)) - zb (decide (fc (tw s) = y) && Rg (bg q s)) := by
    intro s _
    unfold xsi
    cases decide (fc s = y) <;> cases decide (fc (tw s) = y) <;> cases Rg (bg q s) <;> rfl
  rw [zsm_congr e1, zsm_sub, zsm_cnt, zsm_cnt]
  have h1 := cnt_per (π := tw) (N := 2 * q.1) (fun x hx => tw_lt hx) (fun x z _ _ h => by rw [← tw_tw x, h, tw_tw]) (fun s => decide (fc s = y) && Rg (bg q (tw s)))
  have h2 := cnt_per (π := nxt n g q) (N := 2 * q.1) (fun x hx => nxt_lt hx) (nxt_inj hk) (fun s => decide (fc s = y) && Rg (bg q s))
  have e2 : cnt (fun x => decide (fc (nxt n g q x) = y) && Rg (bg q (nxt n g q x))) (2 * q.1) = cnt (fun s => decide (fc s = y) && Rg (bg q (tw s))) (2 * q.1) := cnt_congr (fun s hs => by rw [hf s hs, nxt_bg])
  have e3 : cnt (fun x => decide (fc (tw x) = y) && Rg (bg q (tw (tw x)))) (2 * q.1) = cnt (fun s => decide (fc (tw s) = y) && Rg (bg q s)) (2 * q.1) := cnt_congr (fun s hs => by rw [tw_tw])
  have h1 : cnt (fun x => decide (fc (tw x) = y) && Rg (bg q (tw (tw x)))) (2 * q.1) = cnt (fun s => decide (fc s = y) && Rg (bg q (tw s))) (2 * q.1) := h1
  have h2 : cnt (fun x => decide (fc (nxt n g q x) = y) && Rg (bg q (nxt n g q x))) (2 * q.1) = cnt (fun s => decide (fc s = y) && Rg (bg q s)) (2 * q.1) := h2
  omega
theorem kir (hk : ∀ s t, s < 2 * q.1 → t < 2 * q.1 → bg q s = bg q t → key n g q s = key n g q t → s = t) (hf : ∀ s, s < 2 * q.1 → fc (nxt n g q s) = fc s) (y : Nat) (Rg : Nat → Bool) :
    zsm (fun e => phi fc y e * (zb (Rg (eF q e)) - zb (Rg (eT q e)))) q.1 = 0 := by
  rw [← kir_s hk hf y Rg, zsm_pair]
  refine zsm_congr (fun e _ => ?_)
  rw [xsi_e, xsi_o, bg_e, bg_o, Int.mul_sub, Int.neg_mul]; omega
end KIR
