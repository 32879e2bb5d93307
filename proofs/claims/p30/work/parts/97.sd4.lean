/-! what is sound, 5: what the law's methods find -/
theorem clF_lt (q : Nat → Int32) (f k : Nat) : clF q f k < 2147483648 := by
  have h := (q (74 + 264 * f + (8 + k))).toInt_lt
  have e : clF q f k = (q (74 + 264 * f + (8 + k))).toInt.toNat := rfl
  rw [e]
  omega
theorem col_t {P9 : Nat → Bool} {n : Nat} (h : P9 n = true) : cntR P9 0 n + 1 = cntR P9 0 (n + 1) := by
  show _ = cntR P9 0 n + (if P9 (0 + n) = true then 1 else 0)
  rw [Nat.zero_add, if_pos h]
theorem col_f {P9 : Nat → Bool} {n : Nat} (h : P9 n = false) : cntR P9 0 n + 0 = cntR P9 0 (n + 1) := by
  show _ = cntR P9 0 n + (if P9 (0 + n) = true then 1 else 0)
  rw [Nat.zero_add, if_neg (by rw [h]; decide)]
/-- the patches of a colour that are sewn on the first frames -/
def swC (q : Nat → Int32) (c : Nat) : Nat → Nat
  | 0 => 0
  | f + 1 => swC q c f + cntC q f c 0 (swF q f)
theorem swC_le {q : Nat → Int32} {c : Nat} (hq : WF q) : ∀ n, n ≤ 3 → swC q c n ≤ n * 256
  | 0, _ => Nat.zero_le _
  | n + 1, hn => by
    have h1 := swC_le (c := c) hq n (by omega)
    have h2 : cntC q n c 0 (swF q n) ≤ swF q n := cntR_le _ _ _
    have h3 := WF.sw (hq.fr (show n < 3 by omega))
    have h4 := WF.sz (hq.fr (show n < 3 by omega))
    show swC q c n + cntC q n c 0 (swF q n) ≤ (n + 1) * 256
    omega
theorem swC_sum (q : Nat → Int32) (c : Nat) : ∀ n, bx_sum (fun f => nI (cntC q f c 0 (swF q f))) n = nI (swC q c n)
  | 0 => by show (0 : Int32) = nI 0; rw [nI_0]
  | n + 1 => by
    show bx_sum (fun f => nI (cntC q f c 0 (swF q f))) n + nI (cntC q n c 0 (swF q n)) = nI (swC q c n + cntC q n c 0 (swF q n))
    rw [swC_sum q c n, nI_add]
theorem sd_cloth {t : Nat} {q : Nat → Int32} (h : SD t q) (ht : t ≤ 60) (hq : WF q) : ∀ c, c < 6 → coV q c 1 = coV q c 0 + coV q c 2 + coV q c 3 + coV q c 4 ∧ ¬ coV q c 0 < 0 ∧ ¬ coV q c 2 < nI (swC q c 3) := fun c hc => by
  obtain ⟨a1, a2, a3, a4, a5, a6⟩ := h
  obtain ⟨x, y, b1, b2, b3, b4⟩ := a2 c hc
  refine ⟨a1 c hc, ?_, ?_⟩
  · show ¬ q (50 + c) < 0
    rw [b1]
    exact nI_pos (by omega)
  · have h1 := swC_le (c := c) hq 3 (Nat.le_refl _)
    show ¬ clQ q c 3 < nI (swC q c 3)
    rw [clQ_sum, swC_sum, b3, nI_add]
    exact nI_nlt (by omega) (by omega)
theorem sd_mem {t : Nat} {q : Nat → Int32} (h : SD t q) (hq : WF q) (hz : WZ q) : bx_sum (fun j9 => q (10 + j9)) (nmQ q) = abV q 5 ∧ bx_sum (fun j9 => meV q j9 2) (nmQ q) = bx_sum (fun j9 => coV q j9 1) 6 ∧ bx_sum (fun j9 => q (45 + j9)) (nmQ q) = abV q 8 := by
  obtain ⟨a1, a2, a3, a4, a5, a6⟩ := h
  have hn := hq.2.2.1
  refine ⟨?_, ?_, ?_⟩
  · rw [← sum_cut5 hn (fun j h1 h2 => (a6 j h1 h2).1)]
    exact a4
  · have e1 : bx_sum (fun j9 => meV q j9 2) 5 = bx_sum (fun j9 => meV q j9 2) (nmQ q) := sum_cut5 hn (fun j h1 h2 => sum_zero (fun c hc => (hz j h1 h2).1 c hc))
    rw [← e1]
    exact sum_flip (f := fun i j => q (15 + 6 * i + j)) 5 6
  · rw [← sum_cut5 hn (fun j h1 h2 => (a6 j h1 h2).2)]
    exact a5
theorem tn_lt {q : Nat → Int32} (hq : WF q) (h0 : 0 < nmQ q) : tnQ q < nmQ q := by
  have := hq.2.2.2.1
  omega
theorem abV_0 {q : Nat → Int32} (hq : WF q) : abV q 0 = nI (nmQ q) := hq.1
theorem abV_1 {q : Nat → Int32} (hq : WF q) (h0 : 0 < nmQ q) : abV q 1 = nI (tnQ q) := by
  show (if nmQ q = 0 then -9 else q 1) = _
  rw [if_neg (by omega)]
  exact hq.2.1
theorem abV_1n {q : Nat → Int32} (h0 : nmQ q = 0) : abV q 1 = -9 := if_pos h0
theorem wd_sz {q : Nat → Int32} {f : Nat} (hF : WFf q f) (h0 : 0 < wdF q f) : 0 < szF q f := by
  have h1 := hF.wh0
  have h2 : 0 < htF q f := by omega
  exact Nat.mul_pos h0 h2
theorem sz_wd {q : Nat → Int32} {f : Nat} (h0 : wdF q f = 0) : szF q f = 0 := by
  unfold szF
  rw [h0, Nat.zero_mul]
theorem giv_50 {q : Nat → Int32} {m c v : Nat} (hm : m < 5) : givQ q m c (nI (1 + v)) (50 + c) = coV q c 0 + nI 1 + nI v := by
  show upd _ _ _ _ = q (50 + c) + nI 1 + nI v
  rw [upd_s (α := Nat), upd_n (by omega), Int32.add_assoc, nI_add]
/-! shifts and masks -/
theorem sh_amt : ∀ i, i < 32 → (nI i &&& 31).toBitVec.smod 32 = BitVec.ofNat 32 i := by decide +kernel
theorem shr_nI {k i d : Nat} (hk : k < 2147483648) (hi : i < 32) (hd : 2 ^ i = d) : nI k >>> (nI i &&& 31) = nI (k / d) := by
  apply Int32.toBitVec_inj.mp
  rw [Int32.toBitVec_shiftRight, sh_amt i hi]
  have e1 : (nI k).toBitVec = BitVec.ofNat 32 k := rfl
  have e2 : (nI (k / d)).toBitVec = BitVec.ofNat 32 (k / d) := rfl
  have e3 : (BitVec.ofNat 32 i).toNat = i := by rw [BitVec.toNat_ofNat]; exact Nat.mod_eq_of_lt (by omega)
  have e4 : (BitVec.ofNat 32 k).toNat = k := by rw [BitVec.toNat_ofNat]; exact Nat.mod_eq_of_lt (by omega)
  have e5 : (BitVec.ofNat 32 k).msb = false := BitVec.msb_eq_false_iff_two_mul_lt.mpr (by rw [e4]; omega)
  have e6 : k / d ≤ k := Nat.div_le_self k d
  rw [e1, e2, BitVec.sshiftRight_eq', BitVec.sshiftRight_eq_of_msb_false e5, e3]
  apply BitVec.eq_of_toNat_eq
  rw [BitVec.toNat_ushiftRight, e4, Nat.shiftRight_eq_div_pow, hd, BitVec.toNat_ofNat]
  exact (Nat.mod_eq_of_lt (by omega)).symm
theorem and_nI {k j d : Nat} (hk : k < 2147483648) (hj : j < 30) (hd : 2 ^ j = d) (hd2 : d < 2147483648) : nI k &&& nI (d - 1) = nI (k % d) := by
  apply Int32.toBitVec_inj.mp
  rw [Int32.toBitVec_and]
  have e1 : (nI k).toBitVec = BitVec.ofNat 32 k := rfl
  have e2 : (nI (k % d)).toBitVec = BitVec.ofNat 32 (k % d) := rfl
  have e3 : (nI (d - 1)).toBitVec = BitVec.ofNat 32 (d - 1) := rfl
  have e6 : k % d ≤ k := Nat.mod_le k d
  rw [e1, e2, e3]
  apply BitVec.eq_of_toNat_eq
  rw [BitVec.toNat_and, BitVec.toNat_ofNat, BitVec.toNat_ofNat, BitVec.toNat_ofNat, Nat.mod_eq_of_lt (show k < 2 ^ 32 by omega), Nat.mod_eq_of_lt (show d - 1 < 2 ^ 32 by omega), Nat.mod_eq_of_lt (show k % d < 2 ^ 32 by omega), ← hd]
  exact Nat.and_two_pow_sub_one_eq_mod k j
/-! the text that the law types -/
def tcY (a b c d : Nat) : Nat → Nat := fun j => match j with
  | 0 => 91
  | 1 => 50
  | 2 => 40
  | 3 => 97 + a
  | 4 => 97 + b
  | 5 => 41
  | 6 => 60
  | 7 => 40
  | 8 => 51
  | 9 => 97 + c
  | 10 => 97 + d
  | 11 => 41
  | 12 => 93
  | _ => 0
theorem tcY_lt {a b c d : Nat} (ha : a < 6) (hb9 : b < 6) (hc : c < 6) (hd : d < 6) (j : Nat) : tcY a b c d j < 256 := by
  unfold tcY
  split <;> omega
def tyB (a b c d : Nat) : Bool := (match wholeS (tcY a b c d) 12 with
  | .inl e => decide (e = 12)
  | .inr _ => false) && (match wholeS (tcY a b c d) 13 with
  | .inl _ => false
  | .inr b => decide (b.1 * b.2.1 = 8))
def tyA : Bool := (List.range 6).all fun a => (List.range 6).all fun b => (List.range 6).all fun c => (List.range 6).all fun d => tyB a b c d
theorem tyA_t : tyA = true := by decide +kernel
theorem tyB_t {a b c d : Nat} (ha : a < 6) (hb9 : b < 6) (hc : c < 6) (hd : d < 6) : tyB a b c d = true := by
  have h1 := List.all_eq_true.mp tyA_t a (List.mem_range.mpr ha)
  have h2 := List.all_eq_true.mp h1 b (List.mem_range.mpr hb9)
  have h3 := List.all_eq_true.mp h2 c (List.mem_range.mpr hc)
  exact List.all_eq_true.mp h3 d (List.mem_range.mpr hd)
theorem ty_12 {a b c d : Nat} (ha : a < 6) (hb9 : b < 6) (hc : c < 6) (hd : d < 6) : wholeS (tcY a b c d) 12 = .inl 12 := by
  have h := tyB_t ha hb9 hc hd
  unfold tyB at h
  rw [Bool.and_eq_true] at h
  have h1 := h.1
  revert h1
  rcases wholeS (tcY a b c d) 12 with e | b2
  · intro h1
    exact congrArg Sum.inl (of_decide_eq_true h1)
  · intro h1
    cases h1
theorem ty_13 {a b c d : Nat} (ha : a < 6) (hb9 : b < 6) (hc : c < 6) (hd : d < 6) : ∃ bq : PBl, wholeS (tcY a b c d) 13 = .inr bq ∧ bq.1 * bq.2.1 = 8 := by
  have h := tyB_t ha hb9 hc hd
  unfold tyB at h
  rw [Bool.and_eq_true] at h
  have h1 := h.2
  revert h1
  rcases wholeS (tcY a b c d) 13 with e | b2
  · intro h1
    cases h1
  · intro h1
    exact ⟨b2, rfl, of_decide_eq_true h1⟩
def txR (tx : Nat → Int32) (tc : Nat → Nat) : Nat → Nat → Int32
  | 0 => tx
  | n + 1 => upd (txR tx tc n) n (nI (tc n))
theorem txR_at {tx : Nat → Int32} {tc : Nat → Nat} {j : Nat} : ∀ (n : Nat), j < n → txR tx tc n j = nI (tc j)
  | 0, h => absurd h (Nat.not_lt_zero _)
  | n + 1, h => by
    show upd _ _ _ _ = _
    by_cases e : j = n
    · rw [e, upd_s (α := Nat)]
    · rw [upd_n e]
      exact txR_at n (by omega)
theorem txR_ok {tx : Nat → Int32} {a b c d n : Nat} (ha : a < 6) (hb9 : b < 6) (hc : c < 6) (hd : d < 6) : ∀ j, j < n → txR tx (tcY a b c d) n j = nI (tcY a b c d j) ∧ tcY a b c d j < 256 := fun j hj => ⟨txR_at n hj, tcY_lt ha hb9 hc hd j⟩
/-- after an action of the law -/
def AcP (g : GG) (xb lim t : Nat) (H : Heap) : Prop := ∃ q n rm sl sv tx ln, CLS g xb lim q n rm sl sv tx ln H ∧ SD (t + 1) q
