/-! what is sound, 4: quilts taken apart, raffled; cloth returned -/
theorem i32_tp (a b s k c d : Int32) : a + (b + (s + -k)) + (c + k) + d = a + (b + s) + c + d := by
  have h : a + (b + (s + -k)) = (a + (b + s)) - k := by rw [i32_sub, ← Int32.add_assoc, ← Int32.add_assoc, ← Int32.add_assoc]
  rw [h, i32_mv]
theorem i32_tr {a b c d : Int32} (h : a + b = c + d) : a = c + (d - b) := by
  have h1 : a + b + -b = a := by rw [Int32.add_assoc, i32_self, Int32.add_zero]
  rw [← h1, h, i32_sub, Int32.add_assoc]
theorem tap_sw (q : Nat → Int32) (f : Nat) : swF (tapQ q f) f = 0 := (empQ_wf _ f).2.2
theorem tap_sz (q : Nat → Int32) (f : Nat) : szF (tapQ q f) f = 0 := (empQ_wf _ f).2.1
theorem sd_tap {t : Nat} {q : Nat → Int32} {f : Nat} (h : SD t q) (hq : WF q) (hf : f < 3) : SD (t + 1) (tapQ q f) := by
  obtain ⟨a1, a2, a3, a4, a5, a6⟩ := h
  have hF := hq.fr hf
  have hz := WF.sz hF
  have hw := WF.sw hF
  have off : ∀ j, j < 74 → (j < 56 ∨ 62 ≤ j) → tapQ q f j = q j := fun j h1 h2 => tap_off hF h2 (by omega)
  have hs : ∀ f2, f2 < 3 → f2 ≠ f → Same q (tapQ q f) f2 := fun f2 _ hne j h1 h2 => tap_off hF (by omega) (by omega)
  have e56 : ∀ c, c < 6 → tapQ q f (56 + c) = q (56 + c) + nI (cntC q f c 0 (swF q f)) := fun c hc => by
    unfold tapQ
    rw [emp_off (by omega), incU_cnt hF hc _ (by omega)]
  have hnm : nmQ (tapQ q f) = nmQ q := qn_eq (off 0 (by omega) (by omega))
  refine ⟨fun c hc => ?_, fun c hc => ?_, fun m2 c2 hm2 hc2 => ?_, ?_, ?_, fun m2 h1 h2 => ?_⟩
  · have eg : gvnQ (tapQ q f) c = gvnQ q c := sum_congr (fun j hj => off _ (by omega) (by omega))
    rw [eg, a1 c hc, clQ_sum, clQ_sum, cl_emp hf hq (tap_sw q f) hs, off (50 + c) (by omega) (by omega), off (68 + c) (by omega) (by omega), off (62 + c) (by omega) (by omega), e56 c hc, i32_tp]
  · obtain ⟨s9, y9, b1, b2, b3, b4⟩ := a2 c hc
    exact ⟨s9, y9, (off _ (by omega) (by omega)).trans b1, by omega, (off _ (by omega) (by omega)).trans b3, by omega⟩
  · obtain ⟨s9, b1, b2⟩ := a3 m2 c2 hm2 hc2
    exact ⟨s9, (off _ (by omega) (by omega)).trans b1, by omega⟩
  · rw [off 4 (by omega) (by omega), ← a4]
    exact sum_congr (fun j hj => off _ (by omega) (by omega))
  · rw [show bx_sum (fun m2 => tapQ q f (45 + m2)) 5 = bx_sum (fun m2 => q (45 + m2)) 5 from sum_congr (fun j hj => off _ (by omega) (by omega)), a5]
    exact (sum_congr (fun j hj => off _ (by omega) (by omega))).symm
  · rw [hnm] at h1
    obtain ⟨b1, b2⟩ := a6 m2 h1 h2
    exact ⟨(off _ (by omega) (by omega)).trans b1, (off _ (by omega) (by omega)).trans b2⟩
/-! raffles -/
section RAF
variable {t : Nat} {q : Nat → Int32} {f p : Nat}
theorem raf_at {j : Nat} (h1 : j < 74) (h2 : j ≠ 2) (h3 : j ≠ 3) (h4 : j ≠ 4) (hf : f < 3) : rafQ q f p j = incU 68 (penU q (shrQ q f p) 5) f (szF q f) j := by
  unfold rafQ
  rw [emp_off (by omega)]
  show upd _ _ _ _ = _
  rw [upd_n h4, upd_n h3, upd_n h2]
theorem raf_68 {c : Nat} (hq : WF q) (hf : f < 3) (hc : c < 6) : rafQ q f p (68 + c) = q (68 + c) + nI (cntC q f c 0 (szF q f)) := by
  have h0 : WF (penU q (shrQ q f p) 5) := penU_WF hq (by omega)
  have hz := WF.sz (hq.fr hf)
  rw [raf_at (by omega) (by omega) (by omega) (by omega) hf, incU_cnt (h0.fr hf) hc _ hz, penU_off (by omega), (penU_same (by omega)).cnt (by omega)]
theorem raf_10 {m : Nat} (hq : WF q) (hf : f < 3) (hm : m < 5) : rafQ q f p (10 + m) = q (10 + m) + shrQ q f p m := by
  have h0 : WF (penU q (shrQ q f p) 5) := penU_WF hq (by omega)
  have hz := WF.sz (hq.fr hf)
  rw [raf_at (by omega) (by omega) (by omega) (by omega) hf, incU_off (h0.fr hf) hz (by omega), penU_in 5 (by omega) hm]
theorem raf_3 (hq : WF q) (hf : f < 3) : rafQ q f p 3 = q 3 + nI (szF q f) := by
  have h0 : WF (penU q (shrQ q f p) 5) := penU_WF hq (by omega)
  have h1 := WF.sz (hq.fr hf)
  unfold rafQ
  rw [emp_off (by omega)]
  show upd _ _ _ _ = _
  rw [upd_n (by omega), upd_s (α := Nat), upd_n (by omega), incU_off (h0.fr hf) h1 (by omega), penU_off (by omega)]
theorem raf_4 (hq : WF q) (hf : f < 3) : rafQ q f p 4 = q 4 + nI p := by
  have h0 : WF (penU q (shrQ q f p) 5) := penU_WF hq (by omega)
  have h1 := WF.sz (hq.fr hf)
  unfold rafQ
  rw [emp_off (by omega)]
  show upd _ _ _ _ = _
  rw [upd_s (α := Nat), upd_n (by omega), upd_n (by omega), incU_off (h0.fr hf) h1 (by omega), penU_off (by omega)]
theorem raf_sz : szF (rafQ q f p) f = 0 ∧ wdF (rafQ q f p) f = 0 := ⟨(empQ_wf _ f).2.1, (emp_dim _ f).1⟩
theorem sd_raf (h : SD t q) (hq : WF q) (hz9 : WZ q) (hf : f < 3) (hp : p < 10000) (h0 : 0 < szF q f) (hfin : swF q f = szF q f) : SD (t + 1) (rafQ q f p) := by
  obtain ⟨a1, a2, a3, a4, a5, a6⟩ := h
  have hF := hq.fr hf
  have hz := WF.sz hF
  have off : ∀ j, j < 74 → (j < 2 ∨ 15 ≤ j) → j < 68 → rafQ q f p j = q j := fun j h1 h2 h3 => raf_off hq hf (by omega) (by omega)
  have hs : ∀ f2, f2 < 3 → f2 ≠ f → Same q (rafQ q f p) f2 := fun f2 _ hne j h1 h2 => raf_off hq hf (by omega) (by omega)
  have hnm : nmQ (rafQ q f p) = nmQ q := qn_eq (off 0 (by omega) (by omega) (by omega))
  refine ⟨fun c hc => ?_, fun c hc => ?_, fun m2 c2 hm2 hc2 => ?_, ?_, ?_, fun m2 h1 h2 => ?_⟩
  · have eg : gvnQ (rafQ q f p) c = gvnQ q c := sum_congr (fun j hj => off _ (by omega) (by omega) (by omega))
    have ec : clQ (rafQ q f p) c 3 = clQ q c 3 := by
      have hw0 : swF (rafQ q f p) f = 0 := (empQ_wf _ f).2.2
      rw [clQ_sum, clQ_sum, cl_emp hf hq hw0 hs, raf_68 hq hf hc, ← hfin, i32_4, i32_self, Int32.add_zero]
    rw [eg, ec, off (50 + c) (by omega) (by omega) (by omega), off (56 + c) (by omega) (by omega) (by omega), off (62 + c) (by omega) (by omega) (by omega)]
    exact a1 c hc
  · obtain ⟨s9, y9, b1, b2, b3, b4⟩ := a2 c hc
    have hle : cntC q f c 0 (szF q f) ≤ szF q f := cntR_le _ _ _
    exact ⟨s9, y9 + cntC q f c 0 (szF q f), (off _ (by omega) (by omega) (by omega)).trans b1, by omega, by rw [raf_68 hq hf hc, b3, nI_add], by omega⟩
  · obtain ⟨s9, b1, b2⟩ := a3 m2 c2 hm2 hc2
    exact ⟨s9, (off _ (by omega) (by omega) (by omega)).trans b1, by omega⟩
  · rw [raf_4 hq hf, ← a4, ← shr_sum hF hp h0 hfin, ← sum_plus]
    exact sum_congr (fun j hj => raf_10 hq hf hj)
  · rw [show bx_sum (fun m2 => rafQ q f p (45 + m2)) 5 = bx_sum (fun m2 => q (45 + m2)) 5 from sum_congr (fun j hj => off _ (by omega) (by omega) (by omega)), a5]
    exact (sum_congr (fun j hj => off _ (by omega) (by omega) (by omega))).symm
  · rw [hnm] at h1
    obtain ⟨b1, b2⟩ := a6 m2 h1 h2
    refine ⟨?_, (off _ (by omega) (by omega) (by omega)).trans b2⟩
    rw [raf_10 hq hf h2, b1, shr0 hF hp h2 h0 hfin ((hz9 m2 h1 h2).2 f hf), nI_0]
    rfl
end RAF
/-! cloth is returned -/
section RETN
variable {t : Nat} {q : Nat → Int32} {c : Nat} {st gv : Int32}
theorem rI_62 {i : Nat} (hi : i < 5) : retI c st gv q (i + 1) (62 + c) = retI c st gv q i (62 + c) + retN (retI c st gv q i) c st gv i := by
  show upd (upd (upd _ _ _) _ _) _ _ _ = _
  rw [upd_n (by omega), upd_s (α := Nat), upd_n (by omega)]
theorem rI_45 {i j : Nat} (hi : i < 5) (hj : j < 5) : retI c st gv q (i + 1) (45 + j) = if j = i then retI c st gv q i (45 + i) + retN (retI c st gv q i) c st gv i else retI c st gv q i (45 + j) := by
  show upd (upd (upd _ _ _) _ _) _ _ _ = _
  rw [upd_n (by omega), upd_n (by omega)]
  by_cases e : j = i
  · subst e
    rw [if_pos rfl, upd_s (α := Nat)]
  · rw [if_neg e, upd_n (by omega)]
theorem rI_c1 : ∀ i, i ≤ 5 → retI c st gv q i (50 + c) + retI c st gv q i (62 + c) = q (50 + c) + q (62 + c)
  | 0, _ => rfl
  | i + 1, hi => by
    rw [ret_left (by omega), rI_62 (by omega), i32_mv]
    exact rI_c1 i (by omega)
theorem rI_c2 : ∀ i, i ≤ 5 → bx_sum (fun m => retI c st gv q i (45 + m)) 5 + q (62 + c) = bx_sum (fun m => q (45 + m)) 5 + retI c st gv q i (62 + c)
  | 0, _ => rfl
  | i + 1, hi => by
    have h1 : bx_sum (fun m => retI c st gv q (i + 1) (45 + m)) 5 = bx_sum (fun m => retI c st gv q i (45 + m)) 5 + retN (retI c st gv q i) c st gv i := by
      refine sum_add (k := i) (by omega) ?_ (fun j hj hne => ?_)
      · rw [rI_45 (by omega) (by omega), if_pos rfl]
      · rw [rI_45 (by omega) hj, if_neg hne]
    rw [h1, rI_62 (by omega), i32_rc, rI_c2 i (by omega), Int32.add_assoc]
theorem rI_c3 {m : Nat} (hc : c < 6) (hm : m < 5) (h0 : q (15 + 6 * m + c) = 0) : ∀ i, i ≤ 5 → retI c st gv q i (45 + m) = q (45 + m)
  | 0, _ => rfl
  | i + 1, hi => by
    by_cases e : i = m
    · subst e
      rw [ret_skip hc hm h0]
      exact rI_c3 hc hm h0 i (by omega)
    · rw [rI_45 (by omega) hm, if_neg (fun z => e z.symm)]
      exact rI_c3 hc hm h0 i (by omega)
theorem retL_5 : retL q c ≤ 5 := by
  unfold retL
  split <;> omega
theorem ret1_50 : ret1 q c (50 + c) = nI 0 := upd_s (α := Nat)
theorem ret1_56 : ret1 q c (56 + c) = q (56 + c) + retI c (q (50 + c)) (gvnQ q c) q (retL q c) (50 + c) := by
  unfold ret1
  show upd (upd _ _ _) _ _ _ = _
  rw [upd_n (by omega), upd_s (α := Nat), retI_off (j := 56 + c) (by omega) _ retL_5]
theorem ret1_62 : ret1 q c (62 + c) = retI c (q (50 + c)) (gvnQ q c) q (retL q c) (62 + c) := by
  unfold ret1
  show upd (upd _ _ _) _ _ _ = _
  rw [upd_n (by omega), upd_n (by omega)]
theorem ret1_45 {m : Nat} (hm : m < 5) : ret1 q c (45 + m) = retI c (q (50 + c)) (gvnQ q c) q (retL q c) (45 + m) := by
  unfold ret1
  show upd (upd _ _ _) _ _ _ = _
  rw [upd_n (by omega), upd_n (by omega)]
theorem ret1_off {j : Nat} (h1 : j < 45 ∨ 50 ≤ j) (h2 : j ≠ 50 + c) (h3 : j ≠ 56 + c) (h4 : j ≠ 62 + c) : ret1 q c j = q j := by
  unfold ret1
  show upd (upd _ _ _) _ _ _ = _
  rw [upd_n h2, upd_n h3, retI_off ⟨h1, h4, h2⟩ _ retL_5]
theorem ret1_WF (hq : WF q) (hc : c < 6) : WF (ret1 q c) := hq.of (ret1_off (by omega) (by omega) (by omega) (by omega)) (ret1_off (by omega) (by omega) (by omega) (by omega)) (fun f hf => Same.wf (fun j h1 h2 => ret1_off (by omega) (by omega) (by omega) (by omega)) (hq.fr hf))
theorem sd_ret1 (h : SD t q) (hq : WF q) (hc : c < 6) (hz9 : ∀ m, nmQ q ≤ m → m < 5 → q (15 + 6 * m + c) = 0) : SD t (ret1 q c) := by
  obtain ⟨a1, a2, a3, a4, a5, a6⟩ := h
  have hnm : nmQ (ret1 q c) = nmQ q := qn_eq (ret1_off (by omega) (by omega) (by omega) (by omega))
  refine ⟨fun c2 hc2 => ?_, fun c2 hc2 => ?_, fun m2 c2 hm2 hc2 => ?_, ?_, ?_, fun m2 h1 h2 => ?_⟩
  · have eg : gvnQ (ret1 q c) c2 = gvnQ q c2 := sum_congr (fun j hj => ret1_off (by omega) (by omega) (by omega) (by omega))
    have ec : clQ (ret1 q c) c2 3 = clQ q c2 3 := cl_same (ret1_off (by omega) (by omega) (by omega) (by omega)) hq (fun f hf j h1 h2 => ret1_off (by omega) (by omega) (by omega) (by omega))
    rw [eg, ec, a1 c2 hc2]
    by_cases e : c2 = c
    · subst e
      have h1 := rI_c1 (c := c2) (q := q) (st := q (50 + c2)) (gv := gvnQ q c2) (retL q c2) retL_5
      rw [ret1_50, ret1_56, ret1_62, nI_0, Int32.zero_add]
      have e1 : ∀ a b x y : Int32, a + (b + x) + y = (x + y) + (a + b) := fun a b x y => by
        rw [← Int32.add_assoc, Int32.add_assoc (a + b), Int32.add_comm]
      rw [e1, h1, i32_4, Int32.add_assoc (q (50 + c2) + clQ q c2 3), Int32.add_comm (q (62 + c2))]
    · rw [ret1_off (j := 50 + c2) (by omega) (by omega) (by omega) (by omega), ret1_off (j := 56 + c2) (by omega) (by omega) (by omega) (by omega), ret1_off (j := 62 + c2) (by omega) (by omega) (by omega) (by omega)]
  · obtain ⟨s9, y9, b1, b2, b3, b4⟩ := a2 c2 hc2
    by_cases e : c2 = c
    · subst e
      exact ⟨0, y9, ret1_50, Nat.zero_le _, (ret1_off (by omega) (by omega) (by omega) (by omega)).trans b3, b4⟩
    · exact ⟨s9, y9, (ret1_off (by omega) (by omega) (by omega) (by omega)).trans b1, b2, (ret1_off (by omega) (by omega) (by omega) (by omega)).trans b3, b4⟩
  · obtain ⟨s9, b1, b2⟩ := a3 m2 c2 hm2 hc2
    exact ⟨s9, (ret1_off (by omega) (by omega) (by omega) (by omega)).trans b1, b2⟩
  · rw [ret1_off (j := 4) (by omega) (by omega) (by omega) (by omega), ← a4]
    exact sum_congr (fun j hj => ret1_off (by omega) (by omega) (by omega) (by omega))
  · have h1 := i32_tr (rI_c2 (c := c) (q := q) (st := q (50 + c)) (gv := gvnQ q c) (retL q c) retL_5)
    have h2 : bx_sum (fun c2 => ret1 q c (62 + c2)) 6 = bx_sum (fun c2 => q (62 + c2)) 6 + (retI c (q (50 + c)) (gvnQ q c) q (retL q c) (62 + c) - q (62 + c)) := by
      refine sum_add (k := c) hc ?_ (fun j hj hne => ret1_off (by omega) (by omega) (by omega) (by omega))
      rw [ret1_62, i32_sub, Int32.add_comm (q (62 + c)), Int32.add_assoc, Int32.add_comm (-q (62 + c)), i32_self, Int32.add_zero]
    rw [h2, ← a5, ← h1]
    exact sum_congr (fun j hj => ret1_45 hj)
  · rw [hnm] at h1
    obtain ⟨b1, b2⟩ := a6 m2 h1 h2
    refine ⟨(ret1_off (by omega) (by omega) (by omega) (by omega)).trans b1, ?_⟩
    rw [ret1_45 h2, rI_c3 hc h2 (hz9 m2 h1 h2) _ retL_5, b2]
theorem sd_ret (h : SD t q) (hq : WF q) (hz9 : WZ q) : ∀ c, c ≤ 6 → SD t (retO q c) ∧ WF (retO q c) ∧ ∀ c2, c2 < c → retO q c (50 + c2) = 0
  | 0, _ => ⟨h, hq, fun c2 h2 => absurd h2 (Nat.not_lt_zero _)⟩
  | c + 1, hc => by
    obtain ⟨h1, h2, h3⟩ := sd_ret h hq hz9 c (by omega)
    rw [retO_s]
    have hn : nmQ (retO q c) = nmQ q := qn_eq (retO_same c (by omega) 0 (by omega))
    refine ⟨sd_ret1 h1 h2 (by omega) (fun m h4 h5 => ?_), ret1_WF h2 (by omega), fun c2 hc2 => ?_⟩
    · rw [retO_same c (by omega) _ (by omega)]
      exact (hz9 m (by omega) h5).1 c (by omega)
    · by_cases e : c2 = c
      · subst e
        rw [ret1_50, nI_0]
      · rw [ret1_off (by omega) (by omega) (by omega) (by omega)]
        exact h3 c2 (by omega)
theorem sd_retO (h : SD t q) (hq : WF q) (hz9 : WZ q) : SD (t + 1) (retO q 6) ∧ abV (retO q 6) 6 = nI 0 := by
  obtain ⟨h1, h2, h3⟩ := sd_ret h hq hz9 6 (Nat.le_refl _)
  refine ⟨h1.up (by omega), ?_⟩
  show bx_sum (fun j9 => retO q 6 (50 + j9)) 6 = nI 0
  rw [nI_0]
  exact sum_zero (fun j hj => h3 j hj)
/-- what is returned to members is no negative number -/
theorem retN_v {m s9 x g9 : Nat} (hs : st = nI s9) (hx : q (15 + 6 * m + c) = nI x) (hg : gv = nI g9) (b1 : s9 ≤ 100000) (b2 : x ≤ g9) (b3 : g9 ≤ 1000000) (b4 : 0 < g9) : retN q c st gv m = nI (s9 * x / g9) ∧ s9 * x / g9 ≤ s9 := by
  have h1 : s9 * x ≤ 100000 * 1000000 := Nat.mul_le_mul b1 (by omega)
  refine ⟨?_, ?_⟩
  · unfold retN
    rw [hs, hx, hg, nI_l (by omega), nI_l (by omega), nI_l (by omega), lN_mul, pk_lDiv (by omega) b4 (by omega), lN_i]
  · refine Nat.div_le_of_le_mul ?_
    rw [Nat.mul_comm g9]
    exact Nat.mul_le_mul_left _ b2
theorem retA_0 {a0 : Int32} : retA c st gv q a0 0 = a0 := rfl
theorem retA_v {a s9 g9 : Nat} {a0 : Int32} {x : Nat → Nat} (ha : a0 = nI a) (hs : st = nI s9) (hx : ∀ m, m < 5 → q (15 + 6 * m + c) = nI (x m) ∧ x m ≤ g9) (hg : gv = nI g9) (b1 : s9 ≤ 100000) (b3 : g9 ≤ 1000000) (b4 : 0 < g9) (hc : c < 6) : ∀ i, i ≤ 5 → ∃ v, retA c st gv q a0 i = nI v ∧ v ≤ a + i * s9
  | 0, _ => ⟨a, ha, by omega⟩
  | i + 1, hi => by
    obtain ⟨v, h1, h2⟩ := retA_v ha hs hx hg b1 b3 b4 hc i (by omega)
    obtain ⟨h3, h4⟩ := hx i (by omega)
    have h5 : retI c st gv q i (15 + 6 * i + c) = nI (x i) := (retI_off (by omega) i (by omega)).trans h3
    obtain ⟨h6, h7⟩ := retN_v (q := retI c st gv q i) (c := c) (m := i) hs h5 hg b1 h4 b3 b4
    refine ⟨v + s9 * x i / g9, ?_, ?_⟩
    · show retA c st gv q a0 i + retN (retI c st gv q i) c st gv i = _
      rw [h1, h6, nI_add]
    · rw [Nat.succ_mul]
      omega
theorem retT_v (h : SD t q) (ht : t ≤ 100) (hq : WF q) (hz9 : WZ q) : ∀ c, c ≤ 6 → ∃ v, retT q c = nI v ∧ v ≤ c * 50000
  | 0, _ => ⟨0, rfl, by omega⟩
  | c + 1, hc => by
    obtain ⟨v, h1, h2⟩ := retT_v h ht hq hz9 c (by omega)
    have h29 : v ≤ (c + 1) * 50000 := Nat.le_trans h2 (Nat.mul_le_mul_right 50000 (Nat.le_succ c))
    obtain ⟨h3, h4, -⟩ := sd_ret h hq hz9 c (by omega)
    obtain ⟨a1, a2, a3, a4, a5, a6⟩ := h3
    obtain ⟨s9, y9, b1, b2, -, -⟩ := a2 c (by omega)
    show ∃ v, retA c (retO q c (50 + c)) (gvnQ (retO q c) c) (retO q c) (retT q c) (retL (retO q c) c) = nI v ∧ v ≤ (c + 1) * 50000
    by_cases e : gvnQ (retO q c) c ≤ 0
    · have e1 : retL (retO q c) c = 0 := if_pos e
      rw [e1, retA_0]
      exact ⟨v, h1, h29⟩
    · have e1 : retL (retO q c) c = 5 := if_neg e
      rw [e1]
      have hx : ∀ m, m < 5 → retO q c (15 + 6 * m + c) = nI (qn (retO q c) (15 + 6 * m + c)) ∧ qn (retO q c) (15 + 6 * m + c) ≤ 10000 := fun m hm => by
        obtain ⟨x, c1, c2⟩ := a3 m c hm (by omega)
        have c3 : qn (retO q c) (15 + 6 * m + c) = x := qn_nI c1 (by omega)
        exact ⟨by rw [c3]; exact c1, by omega⟩
      have hg : gvnQ (retO q c) c = nI (sumN (fun m => qn (retO q c) (15 + 6 * m + c)) 5) := sum_nI 5 (fun m hm => (hx m hm).1)
      have hgl := sumN_le (h9 := fun m => qn (retO q c) (15 + 6 * m + c)) (b := 10000) 5 (fun m hm => (hx m hm).2)
      have hg0 : 0 < sumN (fun m => qn (retO q c) (15 + 6 * m + c)) 5 := Nat.pos_of_ne_zero (fun z => e (by rw [hg, z, nI_0]; decide))
      obtain ⟨v2, d1, d2⟩ := retA_v (a := v) (x := fun m => qn (retO q c) (15 + 6 * m + c)) h1 b1 (fun m hm => ⟨(hx m hm).1, sumN_in (h9 := fun m => qn (retO q c) (15 + 6 * m + c)) 5 hm⟩) hg (by omega) (by omega) hg0 (show c < 6 by omega) 5 (Nat.le_refl _)
      refine ⟨v2, d1, Nat.le_trans d2 ?_⟩
      rw [Nat.succ_mul c 50000]
      exact Nat.add_le_add h2 (Nat.le_trans (Nat.mul_le_mul_left 5 (show s9 ≤ 10000 by omega)) (Nat.le_refl _))
theorem retT_ge (h : SD t q) (ht : t ≤ 100) (hq : WF q) (hz9 : WZ q) : ¬ retT q 6 < 0 := by
  obtain ⟨v, h1, h2⟩ := retT_v h ht hq hz9 6 (Nat.le_refl _)
  rw [h1]
  exact nI_pos (by omega)
end RETN
