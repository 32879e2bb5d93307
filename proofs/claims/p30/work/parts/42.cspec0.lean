/-! the class's numbers beside the row q: pure words -/
theorem sum_congr {f f2 : Nat → Int32} : ∀ {n : Nat}, (∀ j, j < n → f2 j = f j) → bx_sum f2 n = bx_sum f n
  | 0, _ => rfl
  | n + 1, h => by rw [← sum_up, ← sum_up, sum_congr (n := n) (fun j hj => h j (by omega)), h n (by omega)]
theorem sum_add {f f2 : Nat → Int32} {x : Int32} {k : Nat} : ∀ {n : Nat}, k < n → f2 k = f k + x → (∀ j, j < n → j ≠ k → f2 j = f j) → bx_sum f2 n = bx_sum f n + x
  | 0, hk, _, _ => absurd hk (Nat.not_lt_zero _)
  | n + 1, hk, h1, h2 => by
    rw [← sum_up, ← sum_up]
    by_cases e : k = n
    · subst e
      rw [sum_congr (fun j hj => h2 j (by omega) (by omega)), h1, Int32.add_assoc]
    · rw [sum_add (n := n) (by omega) h1 (fun j hj hj2 => h2 j (by omega) hj2), h2 n (by omega) (fun z => e z.symm), Int32.add_assoc, Int32.add_comm x, ← Int32.add_assoc]
theorem clQ_sum (q : Nat → Int32) (c : Nat) : ∀ n, clQ q c n = q (68 + c) + bx_sum (fun f => nI (cntC q f c 0 (swF q f))) n
  | 0 => by show q (68 + c) = q (68 + c) + 0; rw [Int32.add_zero]
  | n + 1 => by
    rw [← sum_up, ← Int32.add_assoc, ← clQ_sum q c n]
    rfl
/-- who is no member has given nothing and sewn nothing -/
def WZ (q : Nat → Int32) : Prop := ∀ m, nmQ q ≤ m → m < 5 → (∀ c, c < 6 → q (15 + 6 * m + c) = 0) ∧ ∀ f, f < 3 → byF q f m = 0
theorem WZ.of {q q2 : Nat → Int32} (h : WZ q) (hn : nmQ q ≤ nmQ q2) (hr : ∀ m, nmQ q2 ≤ m → m < 5 → (∀ c, c < 6 → q2 (15 + 6 * m + c) = q (15 + 6 * m + c)) ∧ ∀ f, f < 3 → q2 (74 + 264 * f + (3 + m)) = q (74 + 264 * f + (3 + m)) ∨ q2 (74 + 264 * f + (3 + m)) = 0) : WZ q2 := fun m h1 h2 => by
  obtain ⟨a1, a2⟩ := h m (by omega) h2
  obtain ⟨b1, b2⟩ := hr m h1 h2
  refine ⟨fun c hc => (b1 c hc).trans (a1 c hc), fun f hf => ?_⟩
  rcases b2 f hf with z | z
  · exact (qn_eq z).trans (a2 f hf)
  · exact qn_nI (n := 0) z (by omega)
theorem gvn_giv {q : Nat → Int32} {m c c2 : Nat} {x : Int32} (hm : m < 5) (hc : c < 6) (hc2 : c2 < 6) : gvnQ (givQ q m c x) c2 = if c2 = c then gvnQ q c2 + x else gvnQ q c2 := by
  unfold gvnQ
  by_cases e : c2 = c
  · rw [if_pos e]
    subst e
    refine sum_add (k := m) hm ?_ (fun j hj hj2 => givQ_off (by omega) (by omega))
    unfold givQ
    rw [upd_n (by omega), upd_s (α := Nat)]
  · rw [if_neg e]
    exact sum_congr (fun j hj => givQ_off (by omega) (by omega))
theorem cl_same {q q2 : Nat → Int32} {c : Nat} (h68 : q2 (68 + c) = q (68 + c)) (hq : WF q) (hs : ∀ f, f < 3 → Same q q2 f) : clQ q2 c 3 = clQ q c 3 := by
  rw [clQ_sum, clQ_sum, h68]
  refine congrArg _ (sum_congr (fun f hf => ?_))
  have h1 := hs f hf
  have h2 := WF.sz (hq.fr hf)
  have h3 := WF.sw (hq.fr hf)
  rw [h1.sw, h1.cnt (by omega)]
theorem giv_z {q : Nat → Int32} {m c : Nat} {x : Int32} (hq : WF q) (hm : m < 5) (hc : c < 6) : ∀ j, j < 98 → upd (upd (upd (zOf q) (15 + 6 * m + c) (zOf q (15 + 6 * m + c) + x)) (74 + c) (zOf q (74 + c) + x)) (50 + c) (zOf q (50 + c) + x) j = zOf (givQ q m c x) j := by
  have hs : ∀ f, f < 3 → Same q (givQ q m c x) f := fun f hf j h1 h2 => givQ_off (by omega) (by omega)
  refine z_ext (fun j hj => ?_) (fun c2 hc2 => ?_) (fun c2 hc2 => ?_) (fun f hf => ?_) (fun f hf k hk => ?_)
  · rw [zOf_lo hj]
    by_cases e : j = 50 + c
    · subst e
      rw [upd_s (α := Nat), zOf_lo hj]
      unfold givQ
      rw [upd_s (α := Nat), upd_n (by omega)]
    · rw [upd_n e, upd_n (by omega)]
      by_cases e2 : j = 15 + 6 * m + c
      · subst e2
        rw [upd_s (α := Nat), zOf_lo hj]
        unfold givQ
        rw [upd_n (by omega), upd_s (α := Nat)]
      · rw [upd_n e2, zOf_lo hj, givQ_off e2 e]
  · rw [upd_n (by omega), upd_n (by omega), upd_n (by omega), zOf_cQ hc2, zOf_cQ hc2, cl_same (givQ_off (by omega) (by omega)) hq hs]
  · rw [zOf_cG hc2, gvn_giv hm hc hc2, upd_n (by omega)]
    by_cases e : c2 = c
    · subst e
      rw [if_pos rfl, upd_s (α := Nat), zOf_cG hc2]
    · rw [if_neg e, upd_n (by omega), upd_n (by omega), zOf_cG hc2]
  · rw [upd_n (by omega), upd_n (by omega), upd_n (by omega), zOf_fS hf, zOf_fS hf, hs f hf _ (by omega) (by omega)]
  · rw [upd_n (by omega), upd_n (by omega), upd_n (by omega), zOf_fB hf hk, zOf_fB hf hk, hs f hf _ (by omega) (by omega)]
theorem giv_WZ {q : Nat → Int32} {m c : Nat} {x : Int32} (hz : WZ q) (hm : m < nmQ q) (h5 : nmQ q ≤ 5) (hc : c < 6) : WZ (givQ q m c x) := by
  have e0 : nmQ (givQ q m c x) = nmQ q := qn_eq (givQ_off (by omega) (by omega))
  exact hz.of (by omega) (fun k h1 h2 => ⟨fun c2 hc2 => givQ_off (by omega) (by omega), fun f hf => Or.inl (givQ_off (by omega) (by omega))⟩)
/-! one patch sewn: the member's own numbers come at the end -/
def lzS (q qi : Nat → Int32) (f m : Nat) : Nat → Int32 := fun j => if j = 5 + m ∨ j = 83 + 5 * f + m then zOf q j else zOf qi j
def sewBz (z q : Nat → Int32) (f sw : Nat) : Bool := decide (sw < szF q f) && decide (¬ z (50 + clF q f sw) ≤ 0)
def sewZ1 (z q : Nat → Int32) (f sw : Nat) : Nat → Int32 := if sewBz z q f sw = true then upd (upd (upd z (50 + clF q f sw) (z (50 + clF q f sw) - nI 1)) (68 + clF q f sw) (z (68 + clF q f sw) + nI 1)) (80 + f) (nI (sw + 1)) else z
theorem sew1_cl {q : Nat → Int32} {f m c : Nat} (hf : f < 3) (hm : m < 5) (hc : c < 6) (hq : WF q) (h0 : swF q f < szF q f) : clQ (sew1 q f m) c 3 = if c = clF q f (swF q f) then clQ q c 3 + nI 1 else clQ q c 3 := by
  have hF := hq.fr hf
  have hz := WF.sz hF
  have hc6 := hF.c6 (k := swF q f) (by omega)
  obtain ⟨h1, h2, h3, h4, h5⟩ := sew1_wf hm hF h0
  have e68 : sew1 q f m (68 + c) = q (68 + c) := sew1_off (by omega) (by omega) (by omega) (by omega)
  have eA : cntC (sew1 q f m) f c 0 (swF q f + 1) = cntC q f c 0 (swF q f) + (if clF q f (swF q f) = c then 1 else 0) := by
    have e1 : cntC (sew1 q f m) f c 0 (swF q f + 1) = cntC q f c 0 (swF q f + 1) := cntR_congr (fun k _ hk => by rw [h5 k (by omega)])
    rw [e1]
    show cntR _ 0 (swF q f) + (if decide (clF q f (0 + swF q f) = c) = true then 1 else 0) = _
    rw [Nat.zero_add]
    simp only [decide_eq_true_eq]
    rfl
  have eO : ∀ f2, f2 < 3 → f2 ≠ f → nI (cntC (sew1 q f m) f2 c 0 (swF (sew1 q f m) f2)) = nI (cntC q f2 c 0 (swF q f2)) := fun f2 hf2 hne => by
    have hs := sew1_same (f := f) (m := m) hm hc6 hne
    have hz2 := WF.sz (hq.fr hf2)
    have hw2 := WF.sw (hq.fr hf2)
    rw [hs.sw, hs.cnt (by omega)]
  rw [clQ_sum, clQ_sum, e68]
  by_cases e : c = clF q f (swF q f)
  · rw [if_pos e, Int32.add_assoc]
    refine congrArg _ (sum_add (k := f) hf ?_ (fun j hj hj2 => eO j hj hj2))
    rw [h4, eA, if_pos e.symm, ← nI_add]
  · rw [if_neg e]
    refine congrArg _ (sum_congr (fun j hj => ?_))
    by_cases ej : j = f
    · subst ej
      rw [h4, eA, if_neg (fun z => e z.symm), Nat.add_zero]
    · exact eO j hj ej
theorem sew1_gv {q : Nat → Int32} {f m c : Nat} (hf : f < 3) (hm : m < 5) (hc : c < 6) (hc6 : clF q f (swF q f) < 6) : gvnQ (sew1 q f m) c = gvnQ q c := sum_congr (fun j hj => sew1_off (by omega) (by omega) (by omega) (by omega))
theorem lzS_off {q qi : Nat → Int32} {f m j : Nat} (h1 : j ≠ 5 + m) (h2 : j ≠ 83 + 5 * f + m) : lzS q qi f m j = zOf qi j := if_neg (by omega)
theorem lzS_in {q qi : Nat → Int32} {f m j : Nat} (h : j = 5 + m ∨ j = 83 + 5 * f + m) : lzS q qi f m j = zOf q j := if_pos h
theorem sewOk_t {q : Nat → Int32} {f : Nat} (h : sewOk q f = true) : swF q f < szF q f ∧ ¬ q (50 + clF q f (swF q f)) ≤ 0 := by
  unfold sewOk at h
  simp only [Bool.and_eq_true, decide_eq_true_eq] at h
  exact h
theorem sew1_lz {q qi : Nat → Int32} {f m : Nat} (hf : f < 3) (hm : m < 5) (hq : WF qi) (h0 : swF qi f < szF qi f) : ∀ j, j < 98 → upd (upd (upd (lzS q qi f m) (50 + clF qi f (swF qi f)) (lzS q qi f m (50 + clF qi f (swF qi f)) - nI 1)) (68 + clF qi f (swF qi f)) (lzS q qi f m (68 + clF qi f (swF qi f)) + nI 1)) (80 + f) (nI (swF qi f + 1)) j = lzS q (sew1 qi f m) f m j := by
  have hF := hq.fr hf
  have hz := WF.sz hF
  have hc6 := hF.c6 (k := swF qi f) (by omega)
  have hcl := fun c hc => sew1_cl (c := c) hf hm hc hq h0
  have hgv := fun c hc => sew1_gv (m := m) (c := c) hf hm hc hc6
  obtain ⟨h1, h2, h3, h4, h5⟩ := sew1_wf hm hF h0
  generalize hcc : clF qi f (swF qi f) = cc at *
  have hoff : ∀ j, j ≠ 50 + cc → j ≠ 74 + 264 * f + 2 → j ≠ 74 + 264 * f + (3 + m) → j ≠ 5 + m → sew1 qi f m j = qi j := fun j a1 a2 a3 a4 => sew1_off (by omega) a2 a3 a4
  refine z_ext (fun j hj => ?_) (fun c2 hc2 => ?_) (fun c2 hc2 => ?_) (fun f2 hf2 => ?_) (fun f2 hf2 k hk => ?_)
  · rw [upd_n (by omega), upd_n (by omega)]
    by_cases e : j = 50 + cc
    · subst e
      rw [upd_s (α := Nat), lzS_off (by omega) (by omega), lzS_off (by omega) (by omega), zOf_lo hj, zOf_lo hj]
      unfold sew1
      rw [hcc]
      rw [upd_n (by omega), upd_n (by omega), upd_n (by omega), upd_s (α := Nat)]
    · rw [upd_n e]
      by_cases e2 : j = 5 + m
      · rw [lzS_in (Or.inl e2), lzS_in (Or.inl e2)]
      · rw [lzS_off e2 (by omega), lzS_off e2 (by omega), zOf_lo hj, zOf_lo hj, hoff j e (by omega) (by omega) e2]
  · rw [upd_n (by omega), lzS_off (q := q) (qi := sew1 qi f m) (by omega) (by omega), zOf_cQ hc2, hcl c2 hc2]
    by_cases e : c2 = cc
    · subst e
      rw [if_pos rfl, upd_s (α := Nat), lzS_off (by omega) (by omega), zOf_cQ hc2]
    · rw [if_neg e, upd_n (by omega), upd_n (by omega), lzS_off (by omega) (by omega), zOf_cQ hc2]
  · rw [upd_n (by omega), upd_n (by omega), upd_n (by omega), lzS_off (by omega) (by omega), lzS_off (by omega) (by omega), zOf_cG hc2, zOf_cG hc2, hgv c2 hc2]
  · rw [lzS_off (q := q) (qi := sew1 qi f m) (by omega) (by omega), zOf_fS hf2]
    by_cases e : f2 = f
    · subst e
      rw [upd_s (α := Nat), sew1_sw hm]
    · rw [upd_n (by omega), upd_n (by omega), upd_n (by omega), lzS_off (by omega) (by omega), zOf_fS hf2, hoff _ (by omega) (by omega) (by omega) (by omega)]
  · rw [upd_n (by omega), upd_n (by omega), upd_n (by omega)]
    by_cases e : f2 = f ∧ k = m
    · obtain ⟨e1, e2⟩ := e
      subst e1; subst e2
      rw [lzS_in (Or.inr rfl), lzS_in (Or.inr rfl)]
    · rw [lzS_off (by omega) (by omega), lzS_off (by omega) (by omega), zOf_fB hf2 hk, zOf_fB hf2 hk, hoff _ (by omega) (by omega) (by omega) (by omega)]
/-- what i patches sewn leave: dims, colours, the member's numbers -/
def SewRel (q qi : Nat → Int32) (f m i : Nat) : Prop := WF qi ∧ (∀ k, k < 256 → clF qi f k = clF q f k) ∧ wdF qi f = wdF q f ∧ htF qi f = htF q f ∧ (∀ f2, f2 < 3 → f2 ≠ f → Same q qi f2) ∧ nmQ qi = nmQ q ∧ tnQ qi = tnQ q ∧ qi (5 + m) = q (5 + m) + nI i ∧ byF qi f m = byF q f m + i ∧ (∀ j, 15 ≤ j → j < 45 → qi j = q j) ∧ ∀ k, k < 5 → k ≠ m → byF qi f k = byF q f k
theorem SewRel.z {q : Nat → Int32} {f m : Nat} (h : WF q) : SewRel q q f m 0 := ⟨h, fun _ _ => rfl, rfl, rfl, fun _ _ _ _ _ _ => rfl, rfl, rfl, by rw [show nI 0 = 0 from nI_0, Int32.add_zero], rfl, fun _ _ _ => rfl, fun _ _ _ => rfl⟩
theorem SewRel.sz {q qi : Nat → Int32} {f m i : Nat} (h : SewRel q qi f m i) : szF qi f = szF q f := by
  unfold szF
  rw [h.2.2.1, h.2.2.2.1]
theorem SewRel.s {q qi : Nat → Int32} {f m i : Nat} (hf : f < 3) (hm : m < 5) (h : SewRel q qi f m i) (h0 : swF qi f < szF qi f) : SewRel q (sew1 qi f m) f m (i + 1) := by
  obtain ⟨a1, a2, a3, a4, a5, a6, a7, a8, a9, a10, a11⟩ := h
  have hF := a1.fr hf
  have hz := WF.sz hF
  have hc6 := hF.c6 (k := swF qi f) (by omega)
  have hbl := hF.ble hm
  obtain ⟨h1, h2, h3, h4, h5⟩ := sew1_wf hm hF h0
  obtain ⟨n1, n2⟩ := sew1_nm hf hm a1 h0
  refine ⟨sew1_WF hf hm a1 h0, fun k hk => (h5 k hk).trans (a2 k hk), h2.trans a3, h3.trans a4, fun f2 hf2 hne j b1 b2 => (sew1_same hm hc6 hne j b1 b2).trans (a5 f2 hf2 hne j b1 b2), n1.trans a6, n2.trans a7, ?_, ?_, fun j b1 b2 => (sew1_off (by omega) (by omega) (by omega) (by omega)).trans (a10 j b1 b2), fun k hk hkm => (qn_eq (sew1_off (by omega) (by omega) (by omega) (by omega))).trans (a11 k hk hkm)⟩
  · unfold sew1
    rw [upd_s (α := Nat), upd_n (by omega), upd_n (by omega), upd_n (by omega), a8, Int32.add_assoc, nI_add]
  · have e1 : byF (sew1 qi f m) f m = byF qi f m + 1 := qn_nI (sew1_by hm) (by omega)
    rw [e1, a9]
    omega
theorem lz_end {q qi : Nat → Int32} {f m i : Nat} (hf : f < 3) (hm : m < 5) (hq : WF q) (h : SewRel q qi f m i) : ∀ j, j < 98 → upd (upd (lzS q qi f m) (5 + m) (lzS q qi f m (5 + m) + nI i)) (83 + 5 * f + m) (lzS q qi f m (83 + 5 * f + m) + nI i) j = zOf qi j := fun j hj => by
  obtain ⟨a1, a2, a3, a4, a5, a6, a7, a8, a9, a10, a11⟩ := h
  by_cases e1 : j = 83 + 5 * f + m
  · subst e1
    rw [upd_s (α := Nat), lzS_in (Or.inr rfl), zOf_fB hf hm, zOf_fB hf hm, (hq.fr hf).by_ hm, (a1.fr hf).by_ hm, a9, nI_add]
  · rw [upd_n e1]
    by_cases e2 : j = 5 + m
    · subst e2
      rw [upd_s (α := Nat), lzS_in (Or.inl rfl), zOf_lo (by omega), zOf_lo (by omega), a8]
    · rw [upd_n e2, lzS_off e2 e1]
theorem zOf_t1 {q : Nat → Int32} {x : Int32} (hq : WF q) : ∀ j, j < 98 → upd (zOf q) 1 x j = zOf (upd q 1 x) j := by
  have hs : ∀ f, f < 3 → Same q (upd q 1 x) f := fun f hf j h1 h2 => upd_n (by omega)
  refine z_ext (fun j hj => ?_) (fun c2 hc2 => ?_) (fun c2 hc2 => ?_) (fun f hf => ?_) (fun f hf k hk => ?_)
  · rw [zOf_lo hj]
    by_cases e : j = 1
    · subst e; rw [upd_s (α := Nat), upd_s (α := Nat)]
    · rw [upd_n e, upd_n e, zOf_lo hj]
  · rw [upd_n (by omega), zOf_cQ hc2, zOf_cQ hc2, cl_same (upd_n (by omega)) hq hs]
  · rw [upd_n (by omega), zOf_cG hc2, zOf_cG hc2]
    exact (sum_congr (fun j hj => upd_n (by omega))).symm
  · rw [upd_n (by omega), zOf_fS hf, zOf_fS hf, hs f hf _ (by omega) (by omega)]
  · rw [upd_n (by omega), zOf_fB hf hk, zOf_fB hf hk, hs f hf _ (by omega) (by omega)]
theorem zOf_t0 {q : Nat → Int32} {x : Int32} (hq : WF q) : ∀ j, j < 98 → upd (zOf q) 0 x j = zOf (upd q 0 x) j := by
  have hs : ∀ f, f < 3 → Same q (upd q 0 x) f := fun f hf j h1 h2 => upd_n (by omega)
  refine z_ext (fun j hj => ?_) (fun c2 hc2 => ?_) (fun c2 hc2 => ?_) (fun f hf => ?_) (fun f hf k hk => ?_)
  · rw [zOf_lo hj]
    by_cases e : j = 0
    · subst e; rw [upd_s (α := Nat), upd_s (α := Nat)]
    · rw [upd_n e, upd_n e, zOf_lo hj]
  · rw [upd_n (by omega), zOf_cQ hc2, zOf_cQ hc2, cl_same (upd_n (by omega)) hq hs]
  · rw [upd_n (by omega), zOf_cG hc2, zOf_cG hc2]
    exact (sum_congr (fun j hj => upd_n (by omega))).symm
  · rw [upd_n (by omega), zOf_fS hf, zOf_fS hf, hs f hf _ (by omega) (by omega)]
  · rw [upd_n (by omega), zOf_fB hf hk, zOf_fB hf hk, hs f hf _ (by omega) (by omega)]
