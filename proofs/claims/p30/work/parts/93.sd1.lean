/-! what is sound, 2: the shares come to the price -/
theorem cntR_mn {P9 Q9 : Nat → Bool} : ∀ (n : Nat), (∀ k, k < n → P9 k = true → Q9 k = true) → cntR P9 0 n ≤ cntR Q9 0 n
  | 0, _ => Nat.le_refl _
  | n + 1, h => by
    have h1 := cntR_mn n (fun k hk => h k (by omega))
    have h2 := h n (by omega)
    show cntR P9 0 n + (if P9 (0 + n) = true then 1 else 0) ≤ cntR Q9 0 n + (if Q9 (0 + n) = true then 1 else 0)
    rw [Nat.zero_add]
    by_cases e : P9 n = true
    · rw [if_pos e, if_pos (h2 e)]; omega
    · rw [if_neg e]; split <;> omega
theorem cntR_st {P9 Q9 : Nat → Bool} {k0 : Nat} (hp0 : P9 k0 = false) (hq0 : Q9 k0 = true) : ∀ (n : Nat), (∀ k, k < n → P9 k = true → Q9 k = true) → k0 < n → cntR P9 0 n < cntR Q9 0 n
  | 0, _, h => absurd h (Nat.not_lt_zero _)
  | n + 1, h, hk => by
    have h2 := h n (by omega)
    show cntR P9 0 n + (if P9 (0 + n) = true then 1 else 0) < cntR Q9 0 n + (if Q9 (0 + n) = true then 1 else 0)
    rw [Nat.zero_add]
    by_cases e0 : k0 = n
    · subst e0
      have h1 := cntR_mn k0 (fun k hk => h k (by omega))
      rw [if_neg (by rw [hp0]; decide), if_pos hq0]; omega
    · have h1 := cntR_st hp0 hq0 n (fun k hk => h k (by omega)) (by omega)
      by_cases e : P9 n = true
      · rw [if_pos e, if_pos (h2 e)]; omega
      · rw [if_neg e]; split <;> omega
def pmB (a b c d e n : Nat) : Bool := decide (b = a ∨ c = a ∨ c = b ∨ d = a ∨ d = b ∨ d = c ∨ e = a ∨ e = b ∨ e = c ∨ e = d) || decide ((if a < n then 1 else 0) + (if b < n then 1 else 0) + (if c < n then 1 else 0) + (if d < n then 1 else 0) + (if e < n then 1 else 0) = n)
def pmA : Bool := (List.range 5).all fun a => (List.range 5).all fun b => (List.range 5).all fun c => (List.range 5).all fun d => (List.range 5).all fun e => (List.range 6).all fun n => pmB a b c d e n
theorem pmA_t : pmA = true := by decide +kernel
theorem perm5 (a : Nat) (ha : a < 5) (b : Nat) (hb9 : b < 5) (n1 : b ≠ a) (c : Nat) (hc : c < 5) (n2 : c ≠ a) (n3 : c ≠ b) (d : Nat) (hd : d < 5) (n4 : d ≠ a) (n5 : d ≠ b) (n6 : d ≠ c) (e : Nat) (he : e < 5) (n7 : e ≠ a) (n8 : e ≠ b) (n9 : e ≠ c) (n10 : e ≠ d) (n : Nat) (hn : n < 6) : (if a < n then 1 else 0) + (if b < n then 1 else 0) + (if c < n then 1 else 0) + (if d < n then 1 else 0) + (if e < n then 1 else 0) = n := by
  have h1 := List.all_eq_true.mp pmA_t a (List.mem_range.mpr ha)
  have h2 := List.all_eq_true.mp h1 b (List.mem_range.mpr hb9)
  have h3 := List.all_eq_true.mp h2 c (List.mem_range.mpr hc)
  have h4 := List.all_eq_true.mp h3 d (List.mem_range.mpr hd)
  have h5 := List.all_eq_true.mp h4 e (List.mem_range.mpr he)
  have h6 : pmB a b c d e n = true := List.all_eq_true.mp h5 n (List.mem_range.mpr hn)
  unfold pmB at h6
  rw [decide_eq_false (by omega), Bool.false_or] at h6
  exact of_decide_eq_true h6
section SHR
variable {q : Nat → Int32} {f p m m2 : Nat}
def rkN (q : Nat → Int32) (f p m : Nat) : Nat := cntR (ahdP q f p m) 0 5
theorem ahd_rf : ahdP q f p m m = false := decide_eq_false (by omega)
theorem rk_5 (hm : m < 5) : rkN q f p m < 5 := cnt_lt ahd_rf hm
theorem rk_st (h2 : m2 < 5) (h : ahdP q f p m m2 = true) : rkN q f p m2 < rkN q f p m := by
  refine cntR_st ahd_rf h 5 (fun k _ hk => ?_) h2
  have h3 := of_decide_eq_true h
  have h4 := of_decide_eq_true hk
  exact decide_eq_true (by omega)
theorem rk_ne (h1 : m < 5) (h2 : m2 < 5) (hne : m ≠ m2) : rkN q f p m ≠ rkN q f p m2 := by
  by_cases e : ahdP q f p m m2 = true
  · have := rk_st h2 e; omega
  · have e2 : ahdP q f p m2 m = true := by
      have e3 : ¬ (rstN q f p m < rstN q f p m2 ∨ m2 < m ∧ rstN q f p m2 = rstN q f p m) := fun z => e (decide_eq_true z)
      exact decide_eq_true (by omega)
    have := rk_st h1 e2; omega
def flN (q : Nat → Int32) (f p m : Nat) : Nat := p * byF q f m / szF q f
theorem fl_sum (hF : WFf q f) (h0 : 0 < szF q f) (hfin : swF q f = szF q f) : sumN (flN q f p) 5 ≤ p ∧ p < sumN (flN q f p) 5 + 5 := by
  have hs := hF.sum
  rw [hfin] at hs
  unfold byS at hs
  have hx : p * byF q f 0 + p * byF q f 1 + p * byF q f 2 + p * byF q f 3 + p * byF q f 4 = p * szF q f := by
    rw [← Nat.mul_add, ← Nat.mul_add, ← Nat.mul_add, ← Nat.mul_add, hs]
  have d0 := Nat.div_add_mod (p * byF q f 0) (szF q f)
  have d1 := Nat.div_add_mod (p * byF q f 1) (szF q f)
  have d2 := Nat.div_add_mod (p * byF q f 2) (szF q f)
  have d3 := Nat.div_add_mod (p * byF q f 3) (szF q f)
  have d4 := Nat.div_add_mod (p * byF q f 4) (szF q f)
  have m0 := Nat.mod_lt (p * byF q f 0) h0
  have m1 := Nat.mod_lt (p * byF q f 1) h0
  have m2 := Nat.mod_lt (p * byF q f 2) h0
  have m3 := Nat.mod_lt (p * byF q f 3) h0
  have m4 := Nat.mod_lt (p * byF q f 4) h0
  show 0 + flN q f p 0 + flN q f p 1 + flN q f p 2 + flN q f p 3 + flN q f p 4 ≤ p ∧ p < 0 + flN q f p 0 + flN q f p 1 + flN q f p 2 + flN q f p 3 + flN q f p 4 + 5
  unfold flN
  generalize hw : szF q f = w at *
  generalize p * byF q f 0 / w = f0 at *
  generalize p * byF q f 1 / w = f1 at *
  generalize p * byF q f 2 / w = f2 at *
  generalize p * byF q f 3 / w = f3 at *
  generalize p * byF q f 4 / w = f4 at *
  have e1 : w * (f0 + f1 + f2 + f3 + f4) = w * f0 + w * f1 + w * f2 + w * f3 + w * f4 := by rw [Nat.mul_add, Nat.mul_add, Nat.mul_add, Nat.mul_add]
  have e2 : w * (f0 + f1 + f2 + f3 + f4) ≤ w * p := by rw [e1, Nat.mul_comm w p]; omega
  have e3 : w * p < w * (f0 + f1 + f2 + f3 + f4 + 5) := by rw [Nat.mul_add, e1, Nat.mul_comm w p]; omega
  have e4 := Nat.le_of_mul_le_mul_left e2 h0
  have e5 := Nat.lt_of_mul_lt_mul_left e3
  omega
theorem lef_5 (hF : WFf q f) (h0 : 0 < szF q f) (hfin : swF q f = szF q f) : lefU q f p 5 = nI (p - sumN (flN q f p) 5) := by
  have h1 := (fl_sum (p := p) hF h0 hfin).1
  have h2 : 0 + flN q f p 0 + flN q f p 1 + flN q f p 2 + flN q f p 3 + flN q f p 4 ≤ p := h1
  show nI p - nI (flN q f p 0) - nI (flN q f p 1) - nI (flN q f p 2) - nI (flN q f p 3) - nI (flN q f p 4) = nI (p - (0 + flN q f p 0 + flN q f p 1 + flN q f p 2 + flN q f p 3 + flN q f p 4))
  rw [pk_sub (by omega), pk_sub (by omega), pk_sub (by omega), pk_sub (by omega), pk_sub (by omega)]
  exact congrArg nI (by omega)
theorem shr_val (hF : WFf q f) (hp : p < 10000) (h0 : 0 < szF q f) (hfin : swF q f = szF q f) (hm : m < 5) : shrQ q f p m = nI (flN q f p m + (if rkN q f p m < p - sumN (flN q f p) 5 then 1 else 0)) := by
  have h1 := rk_5 (q := q) (f := f) (p := p) hm
  unfold shrQ
  rw [lef_5 hF h0 hfin]
  show nI (flN q f p m) + (if nI (rkN q f p m) < nI (p - sumN (flN q f p) 5) then nI 1 else nI 0) = _
  by_cases e : rkN q f p m < p - sumN (flN q f p) 5
  · rw [if_pos e, if_pos ((nI_lt2 (by omega) (by omega)).mpr e), nI_add]
  · rw [if_neg e, if_neg (fun z => e ((nI_lt2 (by omega) (by omega)).mp z)), nI_add]
theorem shr_sum (hF : WFf q f) (hp : p < 10000) (h0 : 0 < szF q f) (hfin : swF q f = szF q f) : bx_sum (shrQ q f p) 5 = nI p := by
  rw [sum_nI 5 (fun j hj => shr_val hF hp h0 hfin hj), sumN_plus]
  refine congrArg nI ?_
  have h1 := fl_sum (p := p) hF h0 hfin
  have h2 := perm5 (rkN q f p 0) (rk_5 (by omega)) (rkN q f p 1) (rk_5 (by omega)) (rk_ne (by omega) (by omega) (by omega)) (rkN q f p 2) (rk_5 (by omega)) (rk_ne (by omega) (by omega) (by omega)) (rk_ne (by omega) (by omega) (by omega)) (rkN q f p 3) (rk_5 (by omega)) (rk_ne (by omega) (by omega) (by omega)) (rk_ne (by omega) (by omega) (by omega)) (rk_ne (by omega) (by omega) (by omega)) (rkN q f p 4) (rk_5 (by omega)) (rk_ne (by omega) (by omega) (by omega)) (rk_ne (by omega) (by omega) (by omega)) (rk_ne (by omega) (by omega) (by omega)) (rk_ne (by omega) (by omega) (by omega)) (p - sumN (flN q f p) 5) (by omega)
  show sumN (flN q f p) 5 + (0 + (if rkN q f p 0 < p - sumN (flN q f p) 5 then 1 else 0) + (if rkN q f p 1 < p - sumN (flN q f p) 5 then 1 else 0) + (if rkN q f p 2 < p - sumN (flN q f p) 5 then 1 else 0) + (if rkN q f p 3 < p - sumN (flN q f p) 5 then 1 else 0) + (if rkN q f p 4 < p - sumN (flN q f p) 5 then 1 else 0)) = p
  rw [Nat.zero_add, h2]
  omega
/-- what the members get comes to the price -/
theorem shr_nm (hW : WF q) (hz : WZ q) (hf : f < 3) (hp : p < 10000) (h0 : 0 < szF q f) (hfin : swF q f = szF q f) : bx_sum (shrQ q f p) (nmQ q) = nI p := by
  have hF := hW.fr hf
  rw [← shr_sum hF hp h0 hfin]
  refine (sum_cut5 hW.2.2.1 (fun j h1 h2 => ?_)).symm
  rw [shr0 hF hp h2 h0 hfin ((hz j h1 h2).2 f hf), nI_0]
/-- a finished quilt was sewn by members -/
theorem fin_nm (hW : WF q) (hz : WZ q) (hf : f < 3) (h0 : 0 < szF q f) (hfin : swF q f = szF q f) : 0 < nmQ q := by
  refine Nat.pos_of_ne_zero (fun z => ?_)
  have hs := (hW.fr hf).sum
  unfold byS at hs
  rw [(hz 0 (by omega) (by omega)).2 f hf, (hz 1 (by omega) (by omega)).2 f hf, (hz 2 (by omega) (by omega)).2 f hf, (hz 3 (by omega) (by omega)).2 f hf, (hz 4 (by omega) (by omega)).2 f hf] at hs
  omega
end SHR
