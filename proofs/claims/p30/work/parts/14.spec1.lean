/-! what the methods make of the row -/
theorem upd_s {α : Type} {f : Nat → Int32} {k : Nat} {x : Int32} : upd f k x k = x := by simp [upd]
theorem upd_n {f : Nat → Int32} {k j : Nat} {x : Int32} (h : j ≠ k) : upd f k x j = f j := by simp [upd, h]
theorem qn_eq {q q' : Nat → Int32} {i j : Nat} (h : q' i = q j) : qn q' i = qn q j := by unfold qn; rw [h]
theorem qn_nI {q : Nat → Int32} {i n : Nat} (h : q i = nI n) (hn : n < 2147483648) : qn q i = n := by unfold qn; rw [h, nI_clamp hn]
/-- the rows agree on the frame's part -/
def Same (q q' : Nat → Int32) (f : Nat) : Prop := ∀ j, 74 + 264 * f ≤ j → j < 74 + 264 * f + 264 → q' j = q j
theorem Same.wd {q q' : Nat → Int32} {f : Nat} (h : Same q q' f) : wdF q' f = wdF q f := qn_eq (h _ (by omega) (by omega))
theorem Same.ht {q q' : Nat → Int32} {f : Nat} (h : Same q q' f) : htF q' f = htF q f := qn_eq (h _ (by omega) (by omega))
theorem Same.sw {q q' : Nat → Int32} {f : Nat} (h : Same q q' f) : swF q' f = swF q f := qn_eq (h _ (by omega) (by omega))
theorem Same.sz {q q' : Nat → Int32} {f : Nat} (h : Same q q' f) : szF q' f = szF q f := by unfold szF; rw [h.wd, h.ht]
theorem Same.by_ {q q' : Nat → Int32} {f m : Nat} (h : Same q q' f) (hm : m < 5) : byF q' f m = byF q f m := qn_eq (h _ (by omega) (by omega))
theorem Same.cl {q q' : Nat → Int32} {f k : Nat} (h : Same q q' f) (hk : k < 256) : clF q' f k = clF q f k := qn_eq (h _ (by omega) (by omega))
theorem Same.bs {q q' : Nat → Int32} {f : Nat} (h : Same q q' f) : byS q' f = byS q f := by
  unfold byS
  rw [h.by_ (by omega), h.by_ (by omega), h.by_ (by omega), h.by_ (by omega), h.by_ (by omega)]
theorem Same.wf {q q' : Nat → Int32} {f : Nat} (h : Same q q' f) (hF : WFf q f) : WFf q' f := by
  refine ⟨?_, ?_, ?_, ?_, ?_, ?_, ?_, fun m hm => ?_, ?_, fun k hk => ⟨?_, ?_⟩⟩
  · rw [h.wd, h _ (by omega) (by omega)]; exact hF.w
  · rw [h.ht, h _ (by omega) (by omega)]; exact hF.h
  · rw [h.sw, h _ (by omega) (by omega)]; exact hF.s
  · rw [h.wd]; exact hF.w16
  · rw [h.ht]; exact hF.h16
  · rw [h.wd, h.ht]; exact hF.wh0
  · rw [h.wd, h.ht, h.sw]; exact hF.sle
  · rw [h.by_ hm, h _ (by omega) (by omega)]; exact hF.by_ hm
  · rw [h.bs, h.sw]; exact hF.sum
  · rw [h.cl hk, h _ (by omega) (by omega)]; exact hF.col hk
  · rw [h.cl hk]; exact hF.c6 hk
theorem Same.cnt {q q' : Nat → Int32} {f c a n : Nat} (h : Same q q' f) (hn : a + n ≤ 256) : cntC q' f c a n = cntC q f c a n := cntR_congr (fun k h1 h2 => by rw [h.cl (by omega)])
/-- the first numbers and all frames are as before -/
theorem WF.of {q q' : Nat → Int32} (h : WF q) (h0 : q' 0 = q 0) (h1 : q' 1 = q 1) (hf : ∀ f, f < 3 → WFf q' f) : WF q' := by
  refine ⟨?_, ?_, ?_, ?_, hf⟩
  · rw [h0]; show _ = nI (nmQ q'); rw [show nmQ q' = nmQ q from qn_eq h0]; exact h.1
  · rw [h1]; show _ = nI (tnQ q'); rw [show tnQ q' = tnQ q from qn_eq h1]; exact h.2.1
  · rw [show nmQ q' = nmQ q from qn_eq h0]; exact h.2.2.1
  · rw [show nmQ q' = nmQ q from qn_eq h0, show tnQ q' = tnQ q from qn_eq h1]; exact h.2.2.2.1
/-- one patch is sewn on the frame f by the member m -/
def sew1 (q : Nat → Int32) (f m : Nat) : Nat → Int32 :=
  let c := clF q f (swF q f)
  let q1 := upd q (50 + c) (q (50 + c) - nI 1)
  let q2 := upd q1 (74 + 264 * f + 2) (nI (swF q f + 1))
  let q3 := upd q2 (74 + 264 * f + (3 + m)) (nI (byF q f m + 1))
  upd q3 (5 + m) (q3 (5 + m) + nI 1)
def sewOk (q : Nat → Int32) (f : Nat) : Bool := decide (swF q f < szF q f) && decide (¬ q (50 + clF q f (swF q f)) ≤ 0)
theorem sew1_off {q : Nat → Int32} {f m j : Nat} (h1 : j ≠ 50 + clF q f (swF q f)) (h2 : j ≠ 74 + 264 * f + 2) (h3 : j ≠ 74 + 264 * f + (3 + m)) (h4 : j ≠ 5 + m) : sew1 q f m j = q j := by
  unfold sew1
  rw [upd_n h4, upd_n h3, upd_n h2, upd_n h1]
theorem sew1_same {q : Nat → Int32} {f m f' : Nat} (hm : m < 5) (hc : clF q f (swF q f) < 6) (hne : f' ≠ f) : Same q (sew1 q f m) f' := fun j h1 h2 => sew1_off (by omega) (by omega) (by omega) (by omega)
theorem sew1_sw {q : Nat → Int32} {f m : Nat} (hm : m < 5) : sew1 q f m (74 + 264 * f + 2) = nI (swF q f + 1) := by
  unfold sew1
  rw [upd_n (by omega), upd_n (by omega), upd_s (α := Nat)]
theorem sew1_by {q : Nat → Int32} {f m : Nat} (hm : m < 5) : sew1 q f m (74 + 264 * f + (3 + m)) = nI (byF q f m + 1) := by
  unfold sew1
  rw [upd_n (by omega), upd_s (α := Nat)]
theorem sew1_wf {q : Nat → Int32} {f m : Nat} (hm : m < 5) (hF : WFf q f) (h0 : swF q f < szF q f) : WFf (sew1 q f m) f ∧ wdF (sew1 q f m) f = wdF q f ∧ htF (sew1 q f m) f = htF q f ∧ swF (sew1 q f m) f = swF q f + 1 ∧ (∀ k, k < 256 → clF (sew1 q f m) f k = clF q f k) := by
  have hz := WF.sz hF
  have hc := hF.c6 (k := swF q f) (by omega)
  have e0 : ∀ j, j < 2 ∨ 8 ≤ j → j < 264 → sew1 q f m (74 + 264 * f + j) = q (74 + 264 * f + j) := fun j h1 h2 => sew1_off (by omega) (by omega) (by omega) (by omega)
  have ew : wdF (sew1 q f m) f = wdF q f := qn_eq (e0 0 (by omega) (by omega))
  have eh : htF (sew1 q f m) f = htF q f := qn_eq (e0 1 (by omega) (by omega))
  have es : swF (sew1 q f m) f = swF q f + 1 := qn_nI (sew1_sw hm) (by omega)
  have ec : ∀ k, k < 256 → clF (sew1 q f m) f k = clF q f k := fun k hk => qn_eq (e0 (8 + k) (by omega) (by omega))
  have hbl := hF.ble hm
  have eb : ∀ k, k < 5 → sew1 q f m (74 + 264 * f + (3 + k)) = if k = m then nI (byF q f k + 1) else q (74 + 264 * f + (3 + k)) := fun k hk => by
    by_cases hkm : k = m
    · subst hkm; rw [if_pos rfl]; exact sew1_by hm
    · rw [if_neg hkm]; exact sew1_off (by omega) (by omega) (by omega) (by omega)
  have eb2 : ∀ k, k < 5 → byF (sew1 q f m) f k = if k = m then byF q f k + 1 else byF q f k := fun k hk => by
    have hb := hF.ble hk
    by_cases hkm : k = m
    · rw [if_pos hkm]; exact qn_nI ((eb k hk).trans (if_pos hkm)) (by omega)
    · rw [if_neg hkm]; exact qn_eq ((eb k hk).trans (if_neg hkm))
  refine ⟨⟨?_, ?_, ?_, ?_, ?_, ?_, ?_, fun k hk => ?_, ?_, fun k hk => ⟨?_, ?_⟩⟩, ew, eh, es, ec⟩
  · rw [ew, e0 0 (by omega) (by omega)]; exact hF.w
  · rw [eh, e0 1 (by omega) (by omega)]; exact hF.h
  · rw [es]; exact sew1_sw hm
  · rw [ew]; exact hF.w16
  · rw [eh]; exact hF.h16
  · rw [ew, eh]; exact hF.wh0
  · rw [ew, eh, es]; exact h0
  · rw [eb k hk, eb2 k hk]
    by_cases hkm : k = m
    · rw [if_pos hkm, if_pos hkm]
    · rw [if_neg hkm, if_neg hkm]; exact hF.by_ hk
  · have h5 := hF.sum
    rw [es, ← h5]
    unfold byS
    rw [eb2 0 (by omega), eb2 1 (by omega), eb2 2 (by omega), eb2 3 (by omega), eb2 4 (by omega)]
    rcases (show m = 0 ∨ m = 1 ∨ m = 2 ∨ m = 3 ∨ m = 4 by omega) with rfl | rfl | rfl | rfl | rfl <;> simp <;> omega
  · rw [ec k hk, e0 (8 + k) (by omega) (by omega)]; exact hF.col hk
  · rw [ec k hk]; exact hF.c6 hk
/-- up to n patches, as far as the cloth lasts and the pattern goes -/
def sewQ (f m : Nat) : Nat → (Nat → Int32) → Nat → Int32
  | 0, q => q
  | n + 1, q => if sewOk q f = true then sewQ f m n (sew1 q f m) else q
def sewN (f m : Nat) : Nat → (Nat → Int32) → Nat
  | 0, _ => 0
  | n + 1, q => if sewOk q f = true then sewN f m n (sew1 q f m) + 1 else 0
theorem sew1_WF {q : Nat → Int32} {f m : Nat} (hf : f < 3) (hm : m < 5) (h : WF q) (h0 : swF q f < szF q f) : WF (sew1 q f m) := by
  have hF := h.fr hf
  have hz := WF.sz hF
  have hc := hF.c6 (k := swF q f) (by omega)
  refine h.of (sew1_off (by omega) (by omega) (by omega) (by omega)) (sew1_off (by omega) (by omega) (by omega) (by omega)) (fun f' hf' => ?_)
  by_cases e : f' = f
  · subst e; exact (sew1_wf hm hF h0).1
  · exact (sew1_same hm hc e).wf (h.fr hf')
/-- the frame becomes empty -/
def empQ (q : Nat → Int32) (f : Nat) (i : Nat) : Nat → Int32 := fun j => if 74 + 264 * f ≤ j ∧ j < 74 + 264 * f + i then 0 else q j
theorem empQ_0 (q : Nat → Int32) (f : Nat) : empQ q f 0 = q := by
  funext j
  unfold empQ
  rw [if_neg (by omega)]
theorem empQ_up (q : Nat → Int32) (f i : Nat) : upd (empQ q f i) (74 + 264 * f + i) (nI 0) = empQ q f (i + 1) := by
  funext j
  by_cases h : j = 74 + 264 * f + i
  · rw [h, upd_s (α := Nat)]
    unfold empQ
    rw [if_pos (by omega)]
    rfl
  · rw [upd_n h]
    unfold empQ
    by_cases h2 : 74 + 264 * f ≤ j ∧ j < 74 + 264 * f + i
    · rw [if_pos h2, if_pos (by omega)]
    · rw [if_neg h2, if_neg (by omega)]
theorem empQ_same {q : Nat → Int32} {f f' : Nat} (hne : f' ≠ f) : Same q (empQ q f 264) f' := fun j h1 h2 => by
  unfold empQ
  rw [if_neg (by omega)]
theorem empQ_at {q : Nat → Int32} {f j : Nat} (hj : j < 264) : empQ q f 264 (74 + 264 * f + j) = 0 := by
  unfold empQ
  rw [if_pos (by omega)]
theorem empQ_wf (q : Nat → Int32) (f : Nat) : WFf (empQ q f 264) f ∧ szF (empQ q f 264) f = 0 ∧ swF (empQ q f 264) f = 0 := by
  have z : ∀ j, j < 264 → qn (empQ q f 264) (74 + 264 * f + j) = 0 := fun j hj => qn_nI (n := 0) (empQ_at hj) (by omega)
  have zw : wdF (empQ q f 264) f = 0 := z 0 (by omega)
  have zh : htF (empQ q f 264) f = 0 := z 1 (by omega)
  have zs : swF (empQ q f 264) f = 0 := z 2 (by omega)
  have zb : ∀ m, m < 5 → byF (empQ q f 264) f m = 0 := fun m hm => z (3 + m) (by omega)
  have zc : ∀ k, k < 256 → clF (empQ q f 264) f k = 0 := fun k hk => z (8 + k) (by omega)
  refine ⟨⟨?_, ?_, ?_, ?_, ?_, ?_, ?_, fun m hm => ?_, ?_, fun k hk => ⟨?_, ?_⟩⟩, by unfold szF; rw [zw, zh], zs⟩
  · rw [zw]; exact empQ_at (by omega)
  · rw [zh]; exact empQ_at (by omega)
  · rw [zs]; exact empQ_at (by omega)
  · omega
  · omega
  · omega
  · omega
  · rw [zb m hm]; exact empQ_at (by omega)
  · unfold byS; rw [zb 0 (by omega), zb 1 (by omega), zb 2 (by omega), zb 3 (by omega), zb 4 (by omega), zs]
  · rw [zc k hk]; exact empQ_at (by omega)
  · rw [zc k hk]; omega
/-- cloth is given -/
def givQ (q : Nat → Int32) (m c : Nat) (x : Int32) : Nat → Int32 :=
  let q1 := upd q (15 + 6 * m + c) (q (15 + 6 * m + c) + x)
  upd q1 (50 + c) (q1 (50 + c) + x)
theorem givQ_off {q : Nat → Int32} {m c j : Nat} {x : Int32} (h1 : j ≠ 15 + 6 * m + c) (h2 : j ≠ 50 + c) : givQ q m c x j = q j := by
  unfold givQ
  rw [upd_n h2, upd_n h1]
theorem givQ_WF {q : Nat → Int32} {m c : Nat} {x : Int32} (h : WF q) (hm : m < 5) (hc : c < 6) : WF (givQ q m c x) :=
  h.of (givQ_off (by omega) (by omega)) (givQ_off (by omega) (by omega)) (fun f hf => Same.wf (fun j h1 h2 => givQ_off (by omega) (by omega)) (h.fr hf))
theorem sew1_nm {q : Nat → Int32} {f m : Nat} (hf : f < 3) (hm : m < 5) (h : WF q) (h0 : swF q f < szF q f) : nmQ (sew1 q f m) = nmQ q ∧ tnQ (sew1 q f m) = tnQ q := by
  have hF := h.fr hf
  have hz := WF.sz hF
  have hc := hF.c6 (k := swF q f) (by omega)
  exact ⟨qn_eq (sew1_off (by omega) (by omega) (by omega) (by omega)), qn_eq (sew1_off (by omega) (by omega) (by omega) (by omega))⟩
theorem sewQ_t {f m n i : Nat} {q : Nat → Int32} (h : sewOk q f = true) (hn : i < n) : sewQ f m (n - i) q = sewQ f m (n - (i + 1)) (sew1 q f m) := by
  rw [show n - i = (n - (i + 1)) + 1 by omega]
  show (if sewOk q f = true then _ else _) = _
  rw [if_pos h]
theorem sewN_t {f m n i : Nat} {q : Nat → Int32} (h : sewOk q f = true) (hn : i < n) : sewN f m (n - i) q = sewN f m (n - (i + 1)) (sew1 q f m) + 1 := by
  rw [show n - i = (n - (i + 1)) + 1 by omega]
  show (if sewOk q f = true then _ else _) = _
  rw [if_pos h]
theorem sewQ_f {f m n : Nat} {q : Nat → Int32} (h : sewOk q f = false) : sewQ f m n q = q := by
  cases n with
  | zero => rfl
  | succ n =>
    show (if sewOk q f = true then _ else _) = _
    rw [if_neg (by rw [h]; decide)]
theorem sewN_f {f m n : Nat} {q : Nat → Int32} (h : sewOk q f = false) : sewN f m n q = 0 := by
  cases n with
  | zero => rfl
  | succ n =>
    show (if sewOk q f = true then _ else _) = _
    rw [if_neg (by rw [h]; decide)]
def sewE (f n : Nat) (q : Nat → Int32) : Nat → Int32 := upd (sewQ f (tnQ q) n q) 1 (nI ((tnQ q + 1) % nmQ q))
theorem sewQ_WF {f m : Nat} (hf : f < 3) (hm : m < 5) : ∀ (n : Nat) (q : Nat → Int32), WF q → WF (sewQ f m n q) ∧ nmQ (sewQ f m n q) = nmQ q := by
  intro n
  induction n with
  | zero => intro q h; exact ⟨h, rfl⟩
  | succ n ih =>
    intro q h
    by_cases hk : sewOk q f = true
    · have h0 : swF q f < szF q f := by
        unfold sewOk at hk
        simp only [Bool.and_eq_true, decide_eq_true_eq] at hk
        exact hk.1
      have e : sewQ f m (n + 1) q = sewQ f m n (sew1 q f m) := if_pos hk
      rw [e]
      obtain ⟨h1, h2⟩ := ih _ (sew1_WF hf hm h h0)
      exact ⟨h1, h2.trans (sew1_nm hf hm h h0).1⟩
    · rw [sewQ_f (by simpa using hk)]
      exact ⟨h, rfl⟩
theorem sewE_WF {f n : Nat} {q : Nat → Int32} (hf : f < 3) (h : WF q) (h0 : 0 < nmQ q) : WF (sewE f n q) := by
  have h5 := h.2.2.1
  have ht : tnQ q < 5 := by rcases h.2.2.2.1 with z | z <;> omega
  obtain ⟨h1, h2⟩ := sewQ_WF hf ht n q h
  have hmod : (tnQ q + 1) % nmQ q < nmQ q := Nat.mod_lt _ h0
  have e0 : sewE f n q 0 = sewQ f (tnQ q) n q 0 := upd_n (by omega)
  have e1 : sewE f n q 1 = nI ((tnQ q + 1) % nmQ q) := by unfold sewE; rw [upd_s (α := Nat)]
  have n0 : nmQ (sewE f n q) = nmQ q := (qn_eq e0).trans h2
  have n1 : tnQ (sewE f n q) = (tnQ q + 1) % nmQ q := qn_nI e1 (by omega)
  refine ⟨?_, ?_, ?_, ?_, fun f' hf' => ?_⟩
  · rw [n0, e0, ← h2]; exact h1.1
  · rw [n1]; exact e1
  · omega
  · omega
  · exact Same.wf (fun j h3 h4 => upd_n (by omega)) (h1.fr hf')
