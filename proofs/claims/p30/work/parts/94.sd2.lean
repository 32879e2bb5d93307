/-! what is sound, 3: cloth and pence, and what the actions do to them -/
theorem i32_rc (a b c : Int32) : a + b + c = a + c + b := by rw [Int32.add_assoc, Int32.add_comm b c, ← Int32.add_assoc]
theorem i32_mv (a b x : Int32) : (a - x) + (b + x) = a + b := by
  rw [i32_sub, i32_4, Int32.add_comm (-x), i32_self, Int32.add_zero]
/-- after t actions at most: each colour's account; what lies in the stock, in raffled quilts, and was given by each is no negative number; pence; cloth returned; who is no member has none -/
def SD (t : Nat) (q : Nat → Int32) : Prop :=
  (∀ c, c < 6 → gvnQ q c = q (50 + c) + clQ q c 3 + q (56 + c) + q (62 + c)) ∧
  (∀ c, c < 6 → ∃ x y, q (50 + c) = nI x ∧ x ≤ 100 * t ∧ q (68 + c) = nI y ∧ y ≤ 256 * t) ∧
  (∀ m c, m < 5 → c < 6 → ∃ x, q (15 + 6 * m + c) = nI x ∧ x ≤ 100 * t) ∧
  bx_sum (fun m => q (10 + m)) 5 = q 4 ∧
  bx_sum (fun m => q (45 + m)) 5 = bx_sum (fun c => q (62 + c)) 6 ∧
  (∀ m, nmQ q ≤ m → m < 5 → q (10 + m) = 0 ∧ q (45 + m) = 0)
theorem SD.of {t t2 : Nat} {q q2 : Nat → Int32} (h : SD t q) (ht : t ≤ t2) (hn : nmQ q ≤ nmQ q2) (he : ∀ j, 4 ≤ j → j < 74 → j < 5 ∨ 10 ≤ j → q2 j = q j) (hcl : ∀ c, c < 6 → clQ q2 c 3 = clQ q c 3) : SD t2 q2 := by
  obtain ⟨a1, a2, a3, a4, a5, a6⟩ := h
  refine ⟨fun c hc => ?_, fun c hc => ?_, fun m c hm hc => ?_, ?_, ?_, fun m h1 h2 => ?_⟩
  · have e1 : gvnQ q2 c = gvnQ q c := sum_congr (fun j hj => he _ (by omega) (by omega) (by omega))
    rw [e1, hcl c hc, he (50 + c) (by omega) (by omega) (by omega), he (56 + c) (by omega) (by omega) (by omega), he (62 + c) (by omega) (by omega) (by omega)]
    exact a1 c hc
  · obtain ⟨x, y, b1, b2, b3, b4⟩ := a2 c hc
    exact ⟨x, y, (he _ (by omega) (by omega) (by omega)).trans b1, by omega, (he _ (by omega) (by omega) (by omega)).trans b3, by omega⟩
  · obtain ⟨x, b1, b2⟩ := a3 m c hm hc
    exact ⟨x, (he _ (by omega) (by omega) (by omega)).trans b1, by omega⟩
  · rw [he 4 (by omega) (by omega) (by omega), ← a4]
    exact sum_congr (fun j hj => he _ (by omega) (by omega) (by omega))
  · rw [show bx_sum (fun m => q2 (45 + m)) 5 = bx_sum (fun m => q (45 + m)) 5 from sum_congr (fun j hj => he _ (by omega) (by omega) (by omega)), a5]
    exact (sum_congr (fun j hj => he _ (by omega) (by omega) (by omega))).symm
  · obtain ⟨b1, b2⟩ := a6 m (by omega) h2
    exact ⟨(he _ (by omega) (by omega) (by omega)).trans b1, (he _ (by omega) (by omega) (by omega)).trans b2⟩
theorem SD.up {t t2 : Nat} {q : Nat → Int32} (h : SD t q) (ht : t ≤ t2) : SD t2 q := h.of ht (Nat.le_refl _) (fun _ _ _ _ => rfl) (fun _ _ => rfl)
theorem SD.qeq {t : Nat} {q q2 : Nat → Int32} (h : SD t q) (hq : WF q) (he : QEq q q2) : SD t q2 := h.of (Nat.le_refl _) (Nat.le_of_eq (qn_eq (he 0 (by omega))).symm) (fun j _ h2 _ => he j (by omega)) (fun c hc => cl_same (he _ (by omega)) hq (fun f hf => he.same hf))
/-- at first -/
theorem SD.z : SD 0 (fun _ => 0) := by
  have h0 : ∀ n, bx_sum (fun _ => (0 : Int32)) n = 0 := fun n => sum_zero (fun _ _ => rfl)
  refine ⟨fun c hc => ?_, fun c hc => ⟨0, 0, nI_0.symm, Nat.le_refl _, nI_0.symm, Nat.le_refl _⟩, fun m c hm hc => ⟨0, nI_0.symm, Nat.le_refl _⟩, h0 5, (h0 5).trans (h0 6).symm, fun _ _ _ => ⟨rfl, rfl⟩⟩
  have e0 : ∀ f, swF (fun _ => 0) f = 0 := fun f => qn_nI (n := 0) (by rw [nI_0]) (by omega)
  have e1 : clQ (fun _ => 0) c 3 = 0 := by
    rw [clQ_sum]
    rw [sum_zero (fun f _ => by rw [e0 f]; exact nI_0)]
    rfl
  rw [e1]
  show bx_sum (fun _ => (0 : Int32)) 5 = 0 + 0 + 0 + 0
  rw [h0 5]
  rfl
theorem cntC_0 {q : Nat → Int32} {f c a : Nat} : cntC q f c a 0 = 0 := rfl
/-- the same stock, and quilts of which nothing is sewn -/
theorem cl_nil {q q2 : Nat → Int32} {f c : Nat} (h68 : q2 (68 + c) = q (68 + c)) (hq : WF q) (h0 : swF q f = 0) (h2 : swF q2 f = 0) (hs : ∀ f2, f2 < 3 → f2 ≠ f → Same q q2 f2) : clQ q2 c 3 = clQ q c 3 := by
  rw [clQ_sum, clQ_sum, h68]
  refine congrArg _ (sum_congr (fun f2 hf2 => ?_))
  by_cases e : f2 = f
  · subst e
    rw [h0, h2, cntC_0, cntC_0]
  · have h1 := hs f2 hf2 e
    have h3 := WF.sz (hq.fr hf2)
    have h4 := WF.sw (hq.fr hf2)
    rw [h1.sw, h1.cnt (by omega)]
theorem sd_add {t : Nat} {q : Nat → Int32} (h : SD t q) (hq : WF q) (h5 : nmQ q < 5) : SD (t + 1) (upd q 0 (nI (nmQ q + 1))) :=
  h.of (by omega) (by rw [add_nm h5]; omega) (fun j _ _ _ => upd_n (by omega)) (fun c hc => cl_same (upd_n (by omega)) hq (fun f hf j h1 h2 => upd_n (by omega)))
theorem sd_give {t : Nat} {q : Nat → Int32} {m c x : Nat} (h : SD t q) (hq : WF q) (hm : m < 5) (hc : c < 6) (hx : x < 100) : SD (t + 1) (givQ q m c (nI x)) := by
  obtain ⟨a1, a2, a3, a4, a5, a6⟩ := h
  have e50 : givQ q m c (nI x) (50 + c) = q (50 + c) + nI x := by
    unfold givQ
    rw [upd_s (α := Nat), upd_n (by omega)]
  have e15 : givQ q m c (nI x) (15 + 6 * m + c) = q (15 + 6 * m + c) + nI x := by
    unfold givQ
    rw [upd_n (by omega), upd_s (α := Nat)]
  have hcl : ∀ c2, c2 < 6 → clQ (givQ q m c (nI x)) c2 3 = clQ q c2 3 := fun c2 hc2 => cl_same (givQ_off (by omega) (by omega)) hq (fun f hf j h1 h2 => givQ_off (by omega) (by omega))
  have hnm : nmQ (givQ q m c (nI x)) = nmQ q := qn_eq (givQ_off (by omega) (by omega))
  refine ⟨fun c2 hc2 => ?_, fun c2 hc2 => ?_, fun m2 c2 hm2 hc2 => ?_, ?_, ?_, fun m2 h1 h2 => ?_⟩
  · rw [gvn_giv hm hc hc2, hcl c2 hc2, givQ_off (j := 56 + c2) (by omega) (by omega), givQ_off (j := 62 + c2) (by omega) (by omega)]
    by_cases e : c2 = c
    · subst e
      rw [if_pos rfl, e50, a1 c2 hc2, i32_rc (q (50 + c2)) (nI x), i32_rc _ (nI x), i32_rc _ (nI x)]
    · rw [if_neg e, givQ_off (j := 50 + c2) (by omega) (by omega)]
      exact a1 c2 hc2
  · obtain ⟨s9, y9, b1, b2, b3, b4⟩ := a2 c2 hc2
    by_cases e : c2 = c
    · subst e
      exact ⟨s9 + x, y9, by rw [e50, b1, nI_add], by omega, (givQ_off (by omega) (by omega)).trans b3, by omega⟩
    · exact ⟨s9, y9, (givQ_off (by omega) (by omega)).trans b1, by omega, (givQ_off (by omega) (by omega)).trans b3, by omega⟩
  · obtain ⟨s9, b1, b2⟩ := a3 m2 c2 hm2 hc2
    by_cases e : 15 + 6 * m2 + c2 = 15 + 6 * m + c
    · exact ⟨s9 + x, by rw [e, e15, ← e, b1, nI_add], by omega⟩
    · exact ⟨s9, (givQ_off e (by omega)).trans b1, by omega⟩
  · rw [givQ_off (j := 4) (by omega) (by omega), ← a4]
    exact sum_congr (fun j hj => givQ_off (by omega) (by omega))
  · rw [show bx_sum (fun m2 => givQ q m c (nI x) (45 + m2)) 5 = bx_sum (fun m2 => q (45 + m2)) 5 from sum_congr (fun j hj => givQ_off (by omega) (by omega)), a5]
    exact (sum_congr (fun j hj => givQ_off (by omega) (by omega))).symm
  · rw [hnm] at h1
    obtain ⟨b1, b2⟩ := a6 m2 h1 h2
    exact ⟨(givQ_off (by omega) (by omega)).trans b1, (givQ_off (by omega) (by omega)).trans b2⟩
theorem sd_start {t : Nat} {q : Nat → Int32} {f : Nat} {b : PBl} (h : SD t q) (hq : WF q) (hf : f < 3) (h0 : szF q f = 0) (hb9 : b.ok) : SD (t + 1) (stQ q f b) :=
  h.of (by omega) (Nat.le_of_eq (qn_eq (stQ_off hb9 (by omega))).symm) (fun j _ _ _ => stQ_off hb9 (by omega)) (fun c hc => cl_nil (f := f) (stQ_off hb9 (by omega)) hq (sw0 (hq.fr hf) h0) (stQ_sw.trans (sw0 (hq.fr hf) h0)) (fun f2 _ hne => stQ_same hb9 hne))
theorem sd_rec {t : Nat} {q : Nat → Int32} {f a b : Nat} (h : SD t q) (hq : WF q) (hf : f < 3) (h0 : swF q f = 0) : SD (t + 1) (recQ q f a b) := by
  have hz := WF.sz (hq.fr hf)
  exact h.of (by omega) (Nat.le_of_eq (qn_eq (rec_off hz (by omega))).symm) (fun j _ _ _ => rec_off hz (by omega)) (fun c hc => cl_nil (f := f) (rec_off hz (by omega)) hq h0 ((qn_eq (rec_off hz (by omega))).trans h0) (fun f2 hf2 hne j h1 h2 => rec_off hz (by omega)))
/-! sewing -/
theorem sd_sew1 {t : Nat} {q : Nat → Int32} {f m : Nat} (h : SD t q) (hq : WF q) (hf : f < 3) (hm : m < 5) (hok : sewOk q f = true) : SD t (sew1 q f m) := by
  obtain ⟨hlt, hst⟩ := sewOk_t hok
  obtain ⟨a1, a2, a3, a4, a5, a6⟩ := h
  have hz := WF.sz (hq.fr hf)
  have hc6 : clF q f (swF q f) < 6 := (hq.fr hf).c6 (by omega)
  have off : ∀ j, 10 ≤ j → j < 74 → j ≠ 50 + clF q f (swF q f) → sew1 q f m j = q j := fun j h1 h2 h3 => sew1_off h3 (by omega) (by omega) (by omega)
  have off4 : sew1 q f m 4 = q 4 := sew1_off (by omega) (by omega) (by omega) (by omega)
  have hnm : nmQ (sew1 q f m) = nmQ q := qn_eq (sew1_off (by omega) (by omega) (by omega) (by omega))
  have e50 : sew1 q f m (50 + clF q f (swF q f)) = q (50 + clF q f (swF q f)) - nI 1 := by
    unfold sew1
    rw [upd_n (by omega), upd_n (by omega), upd_n (by omega), upd_s (α := Nat)]
  refine ⟨fun c hc => ?_, fun c hc => ?_, fun m2 c2 hm2 hc2 => ?_, ?_, ?_, fun m2 h1 h2 => ?_⟩
  · rw [sew1_gv hf hm hc hc6, sew1_cl hf hm hc hq hlt, off (56 + c) (by omega) (by omega) (by omega), off (62 + c) (by omega) (by omega) (by omega), a1 c hc]
    by_cases e : c = clF q f (swF q f)
    · rw [if_pos e, e, e50, i32_mv]
    · rw [if_neg e, off (50 + c) (by omega) (by omega) (by omega)]
  · obtain ⟨s9, y9, b1, b2, b3, b4⟩ := a2 c hc
    by_cases e : c = clF q f (swF q f)
    · have hs0 : 0 < s9 := Nat.pos_of_ne_zero (fun z => by
        rw [← e, b1, z] at hst
        exact hst (by rw [nI_0]; decide))
      exact ⟨s9 - 1, y9, by rw [e, e50, ← e, b1, nI_s1 hs0], by omega, (off _ (by omega) (by omega) (by omega)).trans b3, b4⟩
    · exact ⟨s9, y9, (off _ (by omega) (by omega) (by omega)).trans b1, b2, (off _ (by omega) (by omega) (by omega)).trans b3, b4⟩
  · obtain ⟨s9, b1, b2⟩ := a3 m2 c2 hm2 hc2
    exact ⟨s9, (off _ (by omega) (by omega) (by omega)).trans b1, b2⟩
  · rw [off4, ← a4]
    exact sum_congr (fun j hj => off _ (by omega) (by omega) (by omega))
  · rw [show bx_sum (fun m2 => sew1 q f m (45 + m2)) 5 = bx_sum (fun m2 => q (45 + m2)) 5 from sum_congr (fun j hj => off _ (by omega) (by omega) (by omega)), a5]
    exact (sum_congr (fun j hj => off _ (by omega) (by omega) (by omega))).symm
  · rw [hnm] at h1
    obtain ⟨b1, b2⟩ := a6 m2 h1 h2
    exact ⟨(off _ (by omega) (by omega) (by omega)).trans b1, (off _ (by omega) (by omega) (by omega)).trans b2⟩
theorem sd_sewQ {t f m : Nat} (hf : f < 3) (hm : m < 5) : ∀ (n : Nat) (q : Nat → Int32), SD t q → WF q → SD t (sewQ f m n q) ∧ swF (sewQ f m n q) f = swF q f + sewN f m n q
  | 0, q, h, _ => ⟨h, rfl⟩
  | n + 1, q, h, hq => by
    show SD t (if sewOk q f = true then _ else q) ∧ swF (if sewOk q f = true then _ else q) f = swF q f + (if sewOk q f = true then _ else 0)
    by_cases e : sewOk q f = true
    · rw [if_pos e, if_pos e]
      have hlt := (sewOk_t e).1
      obtain ⟨h1, h2⟩ := sd_sewQ hf hm n (sew1 q f m) (sd_sew1 h hq hf hm e) (sew1_WF hf hm hq hlt)
      refine ⟨h1, h2.trans ?_⟩
      rw [(sew1_wf hm (hq.fr hf) hlt).2.2.2.1]
      omega
    · rw [if_neg e, if_neg e]
      exact ⟨h, rfl⟩
theorem sd_sewE {t f n : Nat} {q : Nat → Int32} (h : SD t q) (hq : WF q) (hf : f < 3) (h0 : 0 < nmQ q) : SD (t + 1) (sewE f n q) ∧ swF (sewE f n q) f = swF q f + sewN f (tnQ q) n q ∧ sewE f n q 1 = nI ((tnQ q + 1) % nmQ q) := by
  have hm : tnQ q < 5 := by
    have h1 := hq.2.2.1
    have h2 := hq.2.2.2.1
    omega
  obtain ⟨h1, h2⟩ := sd_sewQ hf hm n q h hq
  have hW := (sewQ_WF hf hm n q hq).1
  have hsm : ∀ f2, Same (sewQ f (tnQ q) n q) (sewE f n q) f2 := fun f2 j _ _ => upd_n (by omega)
  refine ⟨h1.of (by omega) (Nat.le_of_eq (qn_eq (upd_n (by omega))).symm) (fun j _ _ _ => upd_n (by omega)) (fun c hc => cl_same (upd_n (by omega)) hW (fun f2 _ => hsm f2)), (hsm f).sw.trans h2, upd_s (α := Nat)⟩
