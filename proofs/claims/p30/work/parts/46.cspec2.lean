/-! taking apart, raffling, returning: the class's numbers beside the row -/
theorem incU_cnt {b : Nat} {q : Nat → Int32} {f c : Nat} (hF : WFf q f) (hc : c < 6) : ∀ n, n ≤ 256 → incU b q f n (b + c) = q (b + c) + nI (cntC q f c 0 n)
  | 0, _ => by show q (b + c) = q (b + c) + nI 0; rw [nI_0, Int32.add_zero]
  | n + 1, hn => by
    have ih := incU_cnt (b := b) hF hc n (by omega)
    have e1 : cntC q f c 0 (n + 1) = cntC q f c 0 n + (if clF q f n = c then 1 else 0) := by
      show cntR _ 0 n + (if decide (clF q f (0 + n) = c) = true then 1 else 0) = _
      rw [Nat.zero_add]
      simp only [decide_eq_true_eq]
      rfl
    show upd (incU b q f n) (b + clF q f n) (incU b q f n (b + clF q f n) + nI 1) (b + c) = _
    rw [e1]
    by_cases e : clF q f n = c
    · rw [e, upd_s (α := Nat), ih, if_pos rfl, Int32.add_assoc, nI_add]
    · rw [upd_n (by omega), ih, if_neg e, Nat.add_zero]
def cutZ (z q : Nat → Int32) (f sw : Nat) : Nat → Nat → Int32
  | 0 => z
  | c + 1 => upd (upd (cutZ z q f sw c) (68 + c) (cutZ z q f sw c (68 + c) - nI (cntC q f c 0 sw))) (56 + c) (cutZ z q f sw c (56 + c) + nI (cntC q f c 0 sw))
theorem cutZ_off {z q : Nat → Int32} {f sw j : Nat} (hj : (j < 56 ∨ 62 ≤ j) ∧ (j < 68 ∨ 74 ≤ j)) : ∀ k, k ≤ 6 → cutZ z q f sw k j = z j
  | 0, _ => rfl
  | k + 1, hk => by
    show upd _ _ _ _ = _
    rw [upd_n (by omega), upd_n (by omega)]
    exact cutZ_off hj k (by omega)
theorem cutZ_hi {z q : Nat → Int32} {f sw c : Nat} : ∀ k, k ≤ 6 → cutZ z q f sw k (68 + c) = if c < k then z (68 + c) - nI (cntC q f c 0 sw) else z (68 + c)
  | 0, _ => by rw [if_neg (by omega)]; rfl
  | k + 1, hk => by
    have ih := cutZ_hi (z := z) (q := q) (f := f) (sw := sw) (c := c) k (by omega)
    show upd _ _ _ _ = _
    rw [upd_n (by omega)]
    by_cases e : c = k
    · subst e
      rw [upd_s (α := Nat), ih, if_neg (by omega), if_pos (by omega)]
    · rw [upd_n (by omega), ih]
      by_cases h : c < k
      · rw [if_pos h, if_pos (by omega)]
      · rw [if_neg h, if_neg (by omega)]
theorem cutZ_lo {z q : Nat → Int32} {f sw c : Nat} (hc : c < 6) : ∀ k, k ≤ 6 → cutZ z q f sw k (56 + c) = if c < k then z (56 + c) + nI (cntC q f c 0 sw) else z (56 + c)
  | 0, _ => by rw [if_neg (by omega)]; rfl
  | k + 1, hk => by
    have ih := cutZ_lo (z := z) (q := q) (f := f) (sw := sw) hc k (by omega)
    show upd _ _ _ _ = _
    by_cases e : c = k
    · subst e
      rw [upd_s (α := Nat), ih, if_neg (by omega), if_pos (by omega)]
    · rw [upd_n (by omega), upd_n (by omega), ih]
      by_cases h : c < k
      · rw [if_pos h, if_pos (by omega)]
      · rw [if_neg h, if_neg (by omega)]
theorem i32_self (a : Int32) : a + -a = 0 := by rw [← i32_sub, Int32.sub_self]
theorem emp_off {q : Nat → Int32} {f j : Nat} (h : j < 74 + 264 * f ∨ 74 + 264 * f + 264 ≤ j) : empQ q f 264 j = q j := by
  unfold empQ
  rw [if_neg (by omega)]
/-- the sum over the frames when one becomes empty -/
theorem cl_emp {q q2 : Nat → Int32} {f c : Nat} (hf : f < 3) (hq : WF q) (h0 : swF q2 f = 0) (hs : ∀ f2, f2 < 3 → f2 ≠ f → Same q q2 f2) : bx_sum (fun f => nI (cntC q2 f c 0 (swF q2 f))) 3 = bx_sum (fun f => nI (cntC q f c 0 (swF q f))) 3 + -nI (cntC q f c 0 (swF q f)) := by
  refine sum_add (k := f) hf ?_ (fun j hj hj2 => ?_)
  · show nI (cntC q2 f c 0 (swF q2 f)) = _
    rw [h0, i32_self]
    rfl
  · have h1 := hs j hj hj2
    have h2 := WF.sz (hq.fr hj)
    have h3 := WF.sw (hq.fr hj)
    show nI (cntC q2 j c 0 (swF q2 j)) = nI (cntC q j c 0 (swF q j))
    rw [h1.sw, h1.cnt (by omega)]
theorem put_lo {z : Nat → Int32} {f j : Nat} (h : j < 80) : putZ z f j = z j := by
  unfold putZ
  rw [layR_out (by omega), upd_n (by omega)]
theorem put_S {z : Nat → Int32} {f f2 : Nat} (hf : f < 3) (hf2 : f2 < 3) : putZ z f (80 + f2) = if f2 = f then 0 else z (80 + f2) := by
  unfold putZ
  rw [layR_out (by omega)]
  by_cases e : f2 = f
  · subst e; rw [upd_s (α := Nat), if_pos rfl]; rfl
  · rw [upd_n (by omega), if_neg e]
theorem put_B {z : Nat → Int32} {f f2 m : Nat} (hf : f < 3) (hf2 : f2 < 3) (hm : m < 5) : putZ z f (83 + 5 * f2 + m) = if f2 = f then 0 else z (83 + 5 * f2 + m) := by
  unfold putZ
  by_cases e : f2 = f
  · subst e; rw [layR_in hm, if_pos rfl]
  · rw [layR_out (by omega), upd_n (by omega), if_neg e]
theorem tap_off {q : Nat → Int32} {f j : Nat} (hF : WFf q f) (hj : j < 56 ∨ 62 ≤ j) (h2 : j < 74 + 264 * f ∨ 74 + 264 * f + 264 ≤ j) : tapQ q f j = q j := by
  have h1 := WF.sz hF
  have h3 := WF.sw hF
  unfold tapQ
  rw [emp_off h2, incU_off hF (by omega) (by omega)]
theorem tap_z {q : Nat → Int32} {f : Nat} (hf : f < 3) (hq : WF q) : ∀ j, j < 98 → putZ (cutZ (zOf q) q f (swF q f) 6) f j = zOf (tapQ q f) j := by
  have hF := hq.fr hf
  have h1 := WF.sz hF
  have h3 := WF.sw hF
  have hs : ∀ f2, f2 < 3 → f2 ≠ f → Same q (tapQ q f) f2 := fun f2 hf2 hne j a b => tap_off hF (by omega) (by omega)
  have hsw : swF (tapQ q f) f = 0 := (empQ_wf _ f).2.2
  refine z_ext (fun j hj => ?_) (fun c2 hc2 => ?_) (fun c2 hc2 => ?_) (fun f2 hf2 => ?_) (fun f2 hf2 k hk => ?_)
  · rw [put_lo (by omega), zOf_lo hj]
    by_cases e : j < 56 ∨ 62 ≤ j
    · rw [cutZ_off (by omega) 6 (by omega), zOf_lo hj, tap_off hF e (by omega)]
    · obtain ⟨c, rfl⟩ : ∃ c, j = 56 + c := ⟨j - 56, by omega⟩
      rw [cutZ_lo (by omega) 6 (by omega), if_pos (by omega), zOf_lo hj]
      unfold tapQ
      rw [emp_off (by omega), incU_cnt hF (by omega) _ (by omega)]
  · rw [put_lo (by omega), cutZ_hi 6 (by omega), if_pos hc2, zOf_cQ hc2, zOf_cQ hc2, clQ_sum, clQ_sum, cl_emp hf hq hsw hs, tap_off hF (by omega) (by omega), i32_sub, Int32.add_assoc]
  · rw [put_lo (by omega), cutZ_off (by omega) 6 (by omega), zOf_cG hc2, zOf_cG hc2]
    exact (sum_congr (fun j hj => tap_off hF (by omega) (by omega))).symm
  · rw [put_S hf hf2, zOf_fS hf2]
    by_cases e : f2 = f
    · subst e
      rw [if_pos rfl]
      unfold tapQ
      rw [empQ_at (by omega)]
    · rw [if_neg e, cutZ_off (by omega) 6 (by omega), zOf_fS hf2, hs f2 hf2 e _ (by omega) (by omega)]
  · rw [put_B hf hf2 hk, zOf_fB hf2 hk]
    by_cases e : f2 = f
    · subst e
      rw [if_pos rfl]
      unfold tapQ
      rw [empQ_at (by omega)]
    · rw [if_neg e, cutZ_off (by omega) 6 (by omega), zOf_fB hf2 hk, hs f2 hf2 e _ (by omega) (by omega)]
/-- the patterns when a frame becomes empty -/
theorem PT.emp {g : GG} {D : Nat → Prop} {P : Nat → Option Nat} {q q2 : Nat → Int32} {H : Heap} {f : Nat} (hp : PT g D P q H) (hq : WF q) (h0 : wdF q2 f = 0 ∧ htF q2 f = 0) (hs : ∀ f2, f2 < 3 → f2 ≠ f → Same q q2 f2) : PT g D (va_up P f none) q2 H := fun j hj => by
  by_cases e : j = f
  · subst e
    rw [va_up_s, h0.1, h0.2]
    exact ⟨rfl, rfl⟩
  · have h1 := hs j hj e
    have h2 := WF.sz (hq.fr hj)
    rw [va_up_n e, h1.wd, h1.ht]
    refine (hp j hj).congr (fun k hk => h1.cl ?_)
    have : k < szF q j := hk
    omega
theorem emp_dim (q : Nat → Int32) (f : Nat) : wdF (empQ q f 264) f = 0 ∧ htF (empQ q f 264) f = 0 := by
  exact ⟨qn_nI (n := 0) (empQ_at (by omega)) (by omega), qn_nI (n := 0) (empQ_at (by omega)) (by omega)⟩
/-! raffles -/
def penZ (z sh : Nat → Int32) (nm : Nat) : Nat → Nat → Int32
  | 0 => z
  | k + 1 => if k < nm then upd (penZ z sh nm k) (10 + k) (penZ z sh nm k (10 + k) + sh k) else penZ z sh nm k
theorem penZ_off {z sh : Nat → Int32} {nm j : Nat} : ∀ k, k ≤ 5 → (j < 10 ∨ 10 + k ≤ j) → penZ z sh nm k j = z j
  | 0, _, _ => rfl
  | k + 1, hk, hj => by
    have ih := penZ_off (z := z) (sh := sh) (nm := nm) (j := j) k (by omega) (by omega)
    show (if k < nm then _ else _ : Nat → Int32) j = _
    split
    · rw [upd_n (by omega)]; exact ih
    · exact ih
theorem penZ_in {z sh : Nat → Int32} {nm m : Nat} : ∀ k, k ≤ 5 → m < k → penZ z sh nm k (10 + m) = if m < nm then z (10 + m) + sh m else z (10 + m)
  | 0, _, h => absurd h (Nat.not_lt_zero _)
  | k + 1, hk, hm => by
    show (if k < nm then _ else _ : Nat → Int32) (10 + m) = _
    by_cases e : m = k
    · subst e
      have h1 := penZ_off (z := z) (sh := sh) (nm := nm) (j := 10 + m) m (by omega) (by omega)
      split
      · rw [upd_s (α := Nat), h1]
      · exact h1
    · have ih := penZ_in (z := z) (sh := sh) (nm := nm) (m := m) k (by omega) (by omega)
      by_cases h : k < nm
      · rw [if_pos h, upd_n (by omega)]; exact ih
      · rw [if_neg h]; exact ih
theorem penU_in {q sh : Nat → Int32} {m : Nat} : ∀ n, n ≤ 5 → m < n → penU q sh n (10 + m) = q (10 + m) + sh m
  | 0, _, h => absurd h (Nat.not_lt_zero _)
  | k + 1, hk, hm => by
    show upd _ _ _ _ = _
    by_cases e : m = k
    · subst e
      rw [upd_s (α := Nat), penU_off (by omega)]
    · rw [upd_n (by omega)]
      exact penU_in (q := q) (sh := sh) k (by omega) (by omega)
theorem shr0 {q : Nat → Int32} {f p m : Nat} (hF : WFf q f) (hp : p < 10000) (hm : m < 5) (h0 : 0 < szF q f) (hfin : swF q f = szF q f) (hb : byF q f m = 0) : shrQ q f p m = nI 0 := by
  have hsz := WF.sz hF
  have hsum := hF.sum
  unfold byS at hsum
  have hd : ∀ k, szF q f * (p * byF q f k / szF q f) + p * byF q f k % szF q f = p * byF q f k := fun k => Nat.div_add_mod _ _
  have hr : ∀ k, p * byF q f k % szF q f < szF q f := fun k => Nat.mod_lt _ h0
  have e1 : p * szF q f = p * byF q f 0 + p * byF q f 1 + p * byF q f 2 + p * byF q f 3 + p * byF q f 4 := by
    rw [← hfin, ← hsum, Nat.mul_add, Nat.mul_add, Nat.mul_add, Nat.mul_add]
  have hl : lefU q f p 5 = nI p - nI (p * byF q f 0 / szF q f) - nI (p * byF q f 1 / szF q f) - nI (p * byF q f 2 / szF q f) - nI (p * byF q f 3 / szF q f) - nI (p * byF q f 4 / szF q f) := rfl
  have d0 := hd 0; have d1 := hd 1; have d2 := hd 2; have d3 := hd 3; have d4 := hd 4
  have r0 := hr 0; have r1 := hr 1; have r2 := hr 2; have r3 := hr 3; have r4 := hr 4
  have hcnt : cntR (ahdP q f p m) 0 5 = 0 + (if ahdP q f p m 0 = true then 1 else 0) + (if ahdP q f p m 1 = true then 1 else 0) + (if ahdP q f p m 2 = true then 1 else 0) + (if ahdP q f p m 3 = true then 1 else 0) + (if ahdP q f p m 4 = true then 1 else 0) := rfl
  have hc : ∀ k, p * byF q f k % szF q f ≤ (szF q f - 1) * (if ahdP q f p m k = true then 1 else 0) := fun k => by
    have hk := hr k
    by_cases y : ahdP q f p m k = true
    · rw [if_pos y, Nat.mul_one]; omega
    · rw [if_neg y]
      have y2 : ¬ (rstN q f p m < rstN q f p k ∨ k < m ∧ rstN q f p k = rstN q f p m) := fun z => y (decide_eq_true z)
      have e2 : rstN q f p m = 0 := by unfold rstN; rw [hb, Nat.mul_zero, Nat.zero_mod]
      have e3 : rstN q f p k = p * byF q f k % szF q f := rfl
      omega
  have hi1 : ∀ k, (if ahdP q f p m k = true then 1 else 0) ≤ 1 := fun k => by split <;> omega
  have i0 := hi1 0; have i1 := hi1 1; have i2 := hi1 2; have i3 := hi1 3; have i4 := hi1 4
  have c0 := hc 0; have c1 := hc 1; have c2 := hc 2; have c3 := hc 3; have c4 := hc 4
  unfold shrQ shr1
  rw [hb, Nat.mul_zero, Nat.zero_div, hl, hcnt]
  generalize (if ahdP q f p m 0 = true then 1 else 0) = x0 at *
  generalize (if ahdP q f p m 1 = true then 1 else 0) = x1 at *
  generalize (if ahdP q f p m 2 = true then 1 else 0) = x2 at *
  generalize (if ahdP q f p m 3 = true then 1 else 0) = x3 at *
  generalize (if ahdP q f p m 4 = true then 1 else 0) = x4 at *
  generalize p * byF q f 0 / szF q f = a0 at *
  generalize p * byF q f 1 / szF q f = a1 at *
  generalize p * byF q f 2 / szF q f = a2 at *
  generalize p * byF q f 3 / szF q f = a3 at *
  generalize p * byF q f 4 / szF q f = a4 at *
  generalize p * byF q f 0 % szF q f = b0 at *
  generalize p * byF q f 1 % szF q f = b1 at *
  generalize p * byF q f 2 % szF q f = b2 at *
  generalize p * byF q f 3 % szF q f = b3 at *
  generalize p * byF q f 4 % szF q f = b4 at *
  generalize szF q f = sz at *
  have hD : a0 + a1 + a2 + a3 + a4 ≤ p := by
    have hD2 : sz * (a0 + a1 + a2 + a3 + a4) ≤ sz * p := by
      rw [Nat.mul_add, Nat.mul_add, Nat.mul_add, Nat.mul_add, Nat.mul_comm sz p]
      omega
    exact Nat.le_of_mul_le_mul_left hD2 h0
  have hL : sz * (p - (a0 + a1 + a2 + a3 + a4)) ≤ (sz - 1) * (x0 + x1 + x2 + x3 + x4) := by
    rw [Nat.mul_sub, Nat.mul_add, Nat.mul_add, Nat.mul_add, Nat.mul_add, Nat.mul_add, Nat.mul_add, Nat.mul_add, Nat.mul_add, Nat.mul_comm sz p]
    omega
  have hx : ¬ 0 + x0 + x1 + x2 + x3 + x4 < p - (a0 + a1 + a2 + a3 + a4) := fun z => by
    have z1 : sz * (x0 + x1 + x2 + x3 + x4 + 1) ≤ sz * (p - (a0 + a1 + a2 + a3 + a4)) := Nat.mul_le_mul_left sz (by omega)
    have z2 : (sz - 1) * (x0 + x1 + x2 + x3 + x4) ≤ sz * (x0 + x1 + x2 + x3 + x4) := Nat.mul_le_mul_right _ (by omega)
    rw [Nat.mul_add, Nat.mul_one] at z1
    omega
  rw [pk_sub (by omega), pk_sub (by omega), pk_sub (by omega), pk_sub (by omega), pk_sub (by omega)]
  have hxs : x0 + x1 + x2 + x3 + x4 < 1000000 := by omega
  rw [if_neg (fun z => hx (by have := (nI_ltI (by omega) (by omega)).mp z; omega)), nI_add]
theorem raf_off {q : Nat → Int32} {f p j : Nat} (hq : WF q) (hf : f < 3) (hj : (j < 2 ∨ 5 ≤ j) ∧ (j < 10 ∨ 15 ≤ j) ∧ (j < 68 ∨ 74 ≤ j)) (h2 : j < 74 + 264 * f ∨ 74 + 264 * f + 264 ≤ j) : rafQ q f p j = q j := by
  have h0 : WF (penU q (shrQ q f p) 5) := penU_WF hq (by omega)
  have h1 := WF.sz (hq.fr hf)
  unfold rafQ
  rw [emp_off h2]
  show upd _ _ _ _ = _
  rw [upd_n (by omega), upd_n (by omega), upd_n (by omega), incU_off (h0.fr hf) h1 (by omega), penU_off (by omega)]
theorem raf_z {q : Nat → Int32} {f p : Nat} (hf : f < 3) (hp : p < 10000) (hq : WF q) (hz : WZ q) (h0 : 0 < szF q f) (hfin : swF q f = szF q f) : ∀ j, j < 98 → putZ (upd (upd (upd (penZ (zOf q) (shrQ q f p) (nmQ q) 5) 2 (q 2 + nI 1)) 3 (q 3 + nI (szF q f))) 4 (q 4 + nI p)) f j = zOf (rafQ q f p) j := by
  have hF := hq.fr hf
  have h1 := WF.sz hF
  have hU : WF (penU q (shrQ q f p) 5) := penU_WF hq (by omega)
  have hsU : ∀ f2, f2 < 3 → Same q (penU q (shrQ q f p) 5) f2 := fun f2 hf2 => penU_same (by omega)
  have hs : ∀ f2, f2 < 3 → f2 ≠ f → Same q (rafQ q f p) f2 := fun f2 hf2 hne j a b => raf_off hq hf (by omega) (by omega)
  have hsw : swF (rafQ q f p) f = 0 := (empQ_wf _ f).2.2
  refine z_ext (fun j hj => ?_) (fun c2 hc2 => ?_) (fun c2 hc2 => ?_) (fun f2 hf2 => ?_) (fun f2 hf2 k hk => ?_)
  · rw [put_lo (by omega), zOf_lo hj]
    by_cases e4 : j = 4
    · subst e4
      rw [upd_s (α := Nat)]
      unfold rafQ
      rw [emp_off (by omega)]
      show _ = upd _ _ _ _
      rw [upd_s (α := Nat), upd_n (by omega), upd_n (by omega), incU_off (hU.fr hf) h1 (by omega), penU_off (by omega)]
    · rw [upd_n e4]
      by_cases e3 : j = 3
      · subst e3
        rw [upd_s (α := Nat)]
        unfold rafQ
        rw [emp_off (by omega)]
        show _ = upd _ _ _ _
        rw [upd_n (by omega), upd_s (α := Nat), upd_n (by omega), incU_off (hU.fr hf) h1 (by omega), penU_off (by omega)]
      · rw [upd_n e3]
        by_cases e2 : j = 2
        · subst e2
          rw [upd_s (α := Nat)]
          unfold rafQ
          rw [emp_off (by omega)]
          show _ = upd _ _ _ _
          rw [upd_n (by omega), upd_n (by omega), upd_s (α := Nat), incU_off (hU.fr hf) h1 (by omega), penU_off (by omega)]
        · rw [upd_n e2]
          by_cases e1 : j < 10 ∨ 15 ≤ j
          · rw [penZ_off 5 (by omega) (by omega), zOf_lo hj, raf_off hq hf (by omega) (by omega)]
          · obtain ⟨m, rfl⟩ : ∃ m, j = 10 + m := ⟨j - 10, by omega⟩
            have hr : rafQ q f p (10 + m) = q (10 + m) + shrQ q f p m := by
              unfold rafQ
              rw [emp_off (by omega)]
              show upd _ _ _ _ = _
              rw [upd_n (by omega), upd_n (by omega), upd_n (by omega), incU_off (hU.fr hf) h1 (by omega), penU_in 5 (by omega) (by omega)]
            rw [penZ_in 5 (by omega) (by omega), zOf_lo hj, hr]
            by_cases e : m < nmQ q
            · rw [if_pos e]
            · rw [if_neg e, shr0 hF hp (by omega) h0 hfin ((hz m (by omega) (by omega)).2 f hf), nI_0, Int32.add_zero]
  · have e68 : rafQ q f p (68 + c2) = q (68 + c2) + nI (cntC q f c2 0 (swF q f)) := by
      unfold rafQ
      rw [emp_off (by omega)]
      show upd _ _ _ _ = _
      rw [upd_n (by omega), upd_n (by omega), upd_n (by omega), incU_cnt (hU.fr hf) hc2 _ h1, penU_off (by omega), (hsU f hf).cnt (by omega), hfin]
    rw [put_lo (by omega), upd_n (by omega), upd_n (by omega), upd_n (by omega), penZ_off 5 (by omega) (by omega), zOf_cQ hc2, zOf_cQ hc2, clQ_sum, clQ_sum, cl_emp hf hq hsw hs, e68]
    generalize q (68 + c2) = xa
    generalize bx_sum _ 3 = xb
    generalize nI (cntC q f c2 0 (swF q f)) = xc
    rw [Int32.add_comm xb (-xc), ← Int32.add_assoc, Int32.add_assoc xa xc (-xc), i32_self, Int32.add_zero]
  · rw [put_lo (by omega), upd_n (by omega), upd_n (by omega), upd_n (by omega), penZ_off 5 (by omega) (by omega), zOf_cG hc2, zOf_cG hc2]
    exact (sum_congr (fun j hj => raf_off hq hf (by omega) (by omega))).symm
  · rw [put_S hf hf2, zOf_fS hf2]
    by_cases e : f2 = f
    · subst e
      rw [if_pos rfl]
      unfold rafQ
      rw [empQ_at (by omega)]
    · rw [if_neg e, upd_n (by omega), upd_n (by omega), upd_n (by omega), penZ_off 5 (by omega) (by omega), zOf_fS hf2, hs f2 hf2 e _ (by omega) (by omega)]
  · rw [put_B hf hf2 hk, zOf_fB hf2 hk]
    by_cases e : f2 = f
    · subst e
      rw [if_pos rfl]
      unfold rafQ
      rw [empQ_at (by omega)]
    · rw [if_neg e, upd_n (by omega), upd_n (by omega), upd_n (by omega), penZ_off 5 (by omega) (by omega), zOf_fB hf2 hk, hs f2 hf2 e _ (by omega) (by omega)]
/-! returning -/
def ret1 (q : Nat → Int32) (c : Nat) : Nat → Int32 :=
  let q1 := retI c (q (50 + c)) (gvnQ q c) q (retL q c)
  upd (upd q1 (56 + c) (q1 (56 + c) + q1 (50 + c))) (50 + c) (nI 0)
theorem retO_s (q : Nat → Int32) (c : Nat) : retO q (c + 1) = ret1 (retO q c) c := rfl
theorem retI_off {c : Nat} {st gv : Int32} {q : Nat → Int32} {j : Nat} (hj : (j < 45 ∨ 50 ≤ j) ∧ j ≠ 62 + c ∧ j ≠ 50 + c) : ∀ i, i ≤ 5 → retI c st gv q i j = q j
  | 0, _ => rfl
  | i + 1, hi => by
    show upd _ _ _ _ = _
    rw [upd_n (by omega), upd_n (by omega), upd_n (by omega)]
    exact retI_off hj i (by omega)
def lzR (q qi : Nat → Int32) (c : Nat) : Nat → Int32 := fun j => if j = 50 + c then zOf q j else zOf qi j
theorem lzR_off {q qi : Nat → Int32} {c j : Nat} (h : j ≠ 50 + c) : lzR q qi c j = zOf qi j := if_neg h
theorem lzR_in {q qi : Nat → Int32} {c : Nat} : lzR q qi c (50 + c) = zOf q (50 + c) := if_pos rfl
theorem zOf_mid {q q2 : Nat → Int32} (h : ∀ j, j < 45 ∨ 68 ≤ j → q2 j = q j) (hq : WF q) : ∀ j, 68 ≤ j → j < 98 → zOf q2 j = zOf q j := fun j h1 h2 => by
  have hs : ∀ f, f < 3 → Same q q2 f := fun f hf j a b => h j (by omega)
  by_cases a2 : j < 74
  · obtain ⟨c, rfl⟩ : ∃ c, j = 68 + c := ⟨j - 68, by omega⟩
    rw [zOf_cQ (by omega), zOf_cQ (by omega), cl_same (h _ (by omega)) hq hs]
  · by_cases a3 : j < 80
    · obtain ⟨c, rfl⟩ : ∃ c, j = 74 + c := ⟨j - 74, by omega⟩
      rw [zOf_cG (by omega), zOf_cG (by omega)]
      exact sum_congr (fun i hi => h _ (by omega))
    · by_cases a4 : j < 83
      · obtain ⟨f, rfl⟩ : ∃ f, j = 80 + f := ⟨j - 80, by omega⟩
        rw [zOf_fS (by omega), zOf_fS (by omega), h _ (by omega)]
      · obtain ⟨f, m, rfl, hm⟩ : ∃ f m, j = 83 + 5 * f + m ∧ m < 5 := ⟨(j - 83) / 5, (j - 83) % 5, by omega, by omega⟩
        rw [zOf_fB (by omega) hm, zOf_fB (by omega) hm, h _ (by omega)]
theorem retI_same {c : Nat} {st gv : Int32} {q : Nat → Int32} (hc : c < 6) {i : Nat} (hi : i ≤ 5) : ∀ j, j < 45 ∨ 68 ≤ j → retI c st gv q i j = q j := fun j hj => retI_off (by omega) i hi
theorem ret_step {q : Nat → Int32} {c m : Nat} {st gv : Int32} (hc : c < 6) (hm : m < 5) (hq : WF q) : ∀ j, j < 98 → upd (upd (lzR q (retI c st gv q m) c) (45 + m) (lzR q (retI c st gv q m) c (45 + m) + retN (retI c st gv q m) c st gv m)) (62 + c) (lzR q (retI c st gv q m) c (62 + c) + retN (retI c st gv q m) c st gv m) j = lzR q (retI c st gv q (m + 1)) c j := fun j hj => by
  have h1 := retI_same (st := st) (gv := gv) (q := q) hc (i := m) (by omega)
  have h2 := retI_same (st := st) (gv := gv) (q := q) hc (i := m + 1) (by omega)
  by_cases e50 : j = 50 + c
  · subst e50
    rw [upd_n (by omega), upd_n (by omega), lzR_in, lzR_in]
  · rw [lzR_off (qi := retI c st gv q (m + 1)) e50]
    by_cases e68 : 68 ≤ j
    · rw [upd_n (by omega), upd_n (by omega), lzR_off e50, zOf_mid h1 hq j e68 hj, zOf_mid h2 hq j e68 hj]
    · have h3 : retI c st gv q (m + 1) = upd (upd (upd (retI c st gv q m) (45 + m) (retI c st gv q m (45 + m) + retN (retI c st gv q m) c st gv m)) (62 + c) (upd (retI c st gv q m) (45 + m) (retI c st gv q m (45 + m) + retN (retI c st gv q m) c st gv m) (62 + c) + retN (retI c st gv q m) c st gv m)) (50 + c) (upd (upd (retI c st gv q m) (45 + m) (retI c st gv q m (45 + m) + retN (retI c st gv q m) c st gv m)) (62 + c) (upd (retI c st gv q m) (45 + m) (retI c st gv q m (45 + m) + retN (retI c st gv q m) c st gv m) (62 + c) + retN (retI c st gv q m) c st gv m) (50 + c) - retN (retI c st gv q m) c st gv m) := rfl
      rw [zOf_lo (by omega), h3, upd_n (j := j) (k := 50 + c) e50]
      by_cases e62 : j = 62 + c
      · subst e62
        rw [upd_s (α := Nat), upd_s (α := Nat), lzR_off (by omega), zOf_lo (by omega), upd_n (by omega)]
      · rw [upd_n e62, upd_n e62]
        by_cases e45 : j = 45 + m
        · subst e45
          rw [upd_s (α := Nat), upd_s (α := Nat), lzR_off (by omega), zOf_lo (by omega)]
        · rw [upd_n e45, upd_n e45, lzR_off e50, zOf_lo (by omega)]
theorem retN_0 {qi : Nat → Int32} {c m : Nat} {st gv : Int32} (h : qi (15 + 6 * m + c) = 0) : retN qi c st gv m = 0 := by
  unfold retN
  rw [h, show (0 : Int32).toInt64 = 0 from rfl, Int64.mul_zero, Int64.zero_div]
  rfl
theorem ret_skip {q : Nat → Int32} {c m : Nat} {st gv : Int32} (hc : c < 6) (hm : m < 5) (h0 : q (15 + 6 * m + c) = 0) : ∀ j, retI c st gv q (m + 1) j = retI c st gv q m j := fun j => by
  have hn : retN (retI c st gv q m) c st gv m = 0 := retN_0 (by rw [retI_off (by omega) m (by omega), h0])
  show upd (upd (upd _ _ _) _ _) _ _ j = _
  rw [hn]
  by_cases e50 : j = 50 + c
  · subst e50
    rw [upd_s (α := Nat), Int32.sub_zero, upd_n (by omega), upd_n (by omega)]
  · rw [upd_n e50]
    by_cases e62 : j = 62 + c
    · subst e62
      rw [upd_s (α := Nat), Int32.add_zero, upd_n (by omega)]
    · rw [upd_n e62]
      by_cases e45 : j = 45 + m
      · subst e45
        rw [upd_s (α := Nat), Int32.add_zero]
      · rw [upd_n e45]
theorem ret_left {q : Nat → Int32} {c m : Nat} {st gv : Int32} (hm : m < 5) : retI c st gv q (m + 1) (50 + c) = retI c st gv q m (50 + c) - retN (retI c st gv q m) c st gv m := by
  show upd (upd (upd _ _ _) _ _) _ _ _ = _
  rw [upd_s (α := Nat), upd_n (by omega), upd_n (by omega)]
theorem ret_end {q qi : Nat → Int32} {c : Nat} (hc : c < 6) (hq : WF qi) : ∀ j, j < 98 → upd (upd (lzR q qi c) (56 + c) (lzR q qi c (56 + c) + qi (50 + c))) (50 + c) (nI 0) j = zOf (upd (upd qi (56 + c) (qi (56 + c) + qi (50 + c))) (50 + c) (nI 0)) j := fun j hj => by
  have h2 : ∀ j, j < 45 ∨ 68 ≤ j → upd (upd qi (56 + c) (qi (56 + c) + qi (50 + c))) (50 + c) (nI 0) j = qi j := fun j hj => by rw [upd_n (by omega), upd_n (by omega)]
  by_cases e50 : j = 50 + c
  · subst e50
    rw [upd_s (α := Nat), zOf_lo (by omega), upd_s (α := Nat)]
  · rw [upd_n e50]
    by_cases e56 : j = 56 + c
    · subst e56
      rw [upd_s (α := Nat), lzR_off (by omega), zOf_lo (by omega), zOf_lo (by omega), upd_n (by omega), upd_s (α := Nat)]
    · rw [upd_n e56, lzR_off e50]
      by_cases e68 : 68 ≤ j
      · rw [zOf_mid h2 hq j e68 hj]
      · rw [zOf_lo (by omega), zOf_lo (by omega), upd_n e50, upd_n e56]
theorem retA_eq {c : Nat} {st gv : Int32} {q : Nat → Int32} {a0 : Int32} : ∀ i, i ≤ 5 → q (62 + c) + retA c st gv q a0 i = retI c st gv q i (62 + c) + a0
  | 0, _ => rfl
  | i + 1, hi => by
    have ih := retA_eq (c := c) (st := st) (gv := gv) (q := q) (a0 := a0) i (by omega)
    show q (62 + c) + (retA c st gv q a0 i + _) = upd (upd (upd _ _ _) _ _) _ _ _ + a0
    rw [upd_n (by omega), upd_s (α := Nat), upd_n (by omega), ← Int32.add_assoc, ih, Int32.add_assoc, Int32.add_assoc, Int32.add_comm a0]
theorem ret1_same {q : Nat → Int32} {c j : Nat} (hc : c < 6) (hj : j < 45 ∨ 68 ≤ j) : ret1 q c j = q j := by
  have hl : retL q c ≤ 5 := by unfold retL; split <;> omega
  show upd _ _ _ _ = _
  rw [upd_n (by omega), upd_n (by omega)]
  exact retI_off (by omega) _ hl
theorem retT_sum (q : Nat → Int32) : ∀ c, c ≤ 6 → bx_sum (fun j => retO q c (62 + j)) 6 = bx_sum (fun j => q (62 + j)) 6 + retT q c
  | 0, _ => by show _ = _ + nI 0; rw [nI_0, Int32.add_zero]; rfl
  | c + 1, hc => by
    have ih := retT_sum q c (by omega)
    have hl : retL (retO q c) c ≤ 5 := by unfold retL; split <;> omega
    have e1 : retO q (c + 1) (62 + c) = retO q c (62 + c) + (retT q (c + 1) - retT q c) := by
      have h1 : retT q (c + 1) = retA c (retO q c (50 + c)) (gvnQ (retO q c) c) (retO q c) (retT q c) (retL (retO q c) c) := rfl
      have h2 := retA_eq (c := c) (st := retO q c (50 + c)) (gv := gvnQ (retO q c) c) (q := retO q c) (a0 := retT q c) (retL (retO q c) c) hl
      rw [retO_s]
      have h3 : ret1 (retO q c) c (62 + c) = retI c (retO q c (50 + c)) (gvnQ (retO q c) c) (retO q c) (retL (retO q c) c) (62 + c) := by
        show upd _ _ _ _ = _
        rw [upd_n (by omega), upd_n (by omega)]
      rw [h3, h1, i32_sub, ← Int32.add_assoc, h2, Int32.add_assoc, i32_self, Int32.add_zero]
    have e2 : bx_sum (fun j => retO q (c + 1) (62 + j)) 6 = bx_sum (fun j => retO q c (62 + j)) 6 + (retT q (c + 1) - retT q c) := by
      refine sum_add (k := c) (by omega) e1 (fun j hj hj2 => ?_)
      show retO q (c + 1) (62 + j) = retO q c (62 + j)
      rw [retO_s]
      show upd _ _ _ _ = _
      rw [upd_n (by omega), upd_n (by omega)]
      exact retI_off (by omega) _ hl
    rw [e2, ih, Int32.add_assoc, i32_sub, Int32.add_comm (retT q (c + 1)), ← Int32.add_assoc (retT q c), i32_self, Int32.zero_add]
