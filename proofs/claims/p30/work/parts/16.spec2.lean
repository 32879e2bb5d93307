/-! what is remembered, split, returned, missing -/
/-- the row q laid into rm from 866 n on, up to i -/
def remU (rm : Nat → Int32) (n : Nat) (q : Nat → Int32) (i : Nat) : Nat → Int32 := fun j => if 866 * n ≤ j ∧ j < 866 * n + i then q (j - 866 * n) else rm j
theorem remU_0 (rm : Nat → Int32) (n : Nat) (q : Nat → Int32) : remU rm n q 0 = rm := by
  funext j
  unfold remU
  rw [if_neg (by omega)]
theorem remU_up (rm : Nat → Int32) (n : Nat) (q : Nat → Int32) (i : Nat) : upd (remU rm n q i) (866 * n + i) (q i) = remU rm n q (i + 1) := by
  funext j
  by_cases h : j = 866 * n + i
  · rw [h, upd_s (α := Nat)]
    unfold remU
    rw [if_pos (by omega), show 866 * n + i - 866 * n = i by omega]
  · rw [upd_n h]
    unfold remU
    by_cases h2 : 866 * n ≤ j ∧ j < 866 * n + i
    · rw [if_pos h2, if_pos (by omega)]
    · rw [if_neg h2, if_neg (by omega)]
def shfU (rm : Nat → Int32) (i : Nat) : Nat → Int32 := fun j => if j < i then rm (j + 866) else rm j
theorem shfU_0 (rm : Nat → Int32) : shfU rm 0 = rm := by
  funext j
  unfold shfU
  rw [if_neg (by omega)]
theorem shfU_r (rm : Nat → Int32) (i : Nat) : shfU rm i (i + 866) = rm (i + 866) := by
  unfold shfU
  rw [if_neg (by omega)]
theorem shfU_up (rm : Nat → Int32) (i : Nat) : upd (shfU rm i) i (rm (i + 866)) = shfU rm (i + 1) := by
  funext j
  by_cases h : j = i
  · rw [h, upd_s (α := Nat)]
    unfold shfU
    rw [if_pos (by omega)]
  · rw [upd_n h]
    unfold shfU
    by_cases h2 : j < i
    · rw [if_pos h2, if_pos (by omega)]
    · rw [if_neg h2, if_neg (by omega)]
def nxtS (n : Nat) : Nat := if n < 14 then n + 1 else 14
def remA (rm : Nat → Int32) (n : Nat) (q : Nat → Int32) : Nat → Int32 := if n < 14 then remU rm n q 866 else remU (shfU rm 11258) 13 q 866
/-- one more of each colour of the first n patches, in the numbers from b on -/
def incU (b : Nat) (q : Nat → Int32) (f : Nat) : Nat → Nat → Int32
  | 0 => q
  | n + 1 => upd (incU b q f n) (b + clF q f n) (incU b q f n (b + clF q f n) + nI 1)
theorem incU_off {b : Nat} {q : Nat → Int32} {f n j : Nat} (hF : WFf q f) (hn : n ≤ 256) (hj : j < b ∨ b + 6 ≤ j) : incU b q f n j = q j := by
  induction n with
  | zero => rfl
  | succ n ih =>
    have := hF.c6 (k := n) (by omega)
    show upd _ _ _ _ = _
    rw [upd_n (by omega)]
    exact ih (by omega)
theorem incU_same {b : Nat} {q : Nat → Int32} {f n f' : Nat} (hF : WFf q f) (hn : n ≤ 256) (hb : b + 6 ≤ 74) : Same q (incU b q f n) f' := fun j h1 h2 => incU_off hF hn (by omega)
theorem incU_WF {b : Nat} {q : Nat → Int32} {f n : Nat} (h : WF q) (hF : WFf q f) (hn : n ≤ 256) (h2 : 2 ≤ b) (hb : b + 6 ≤ 74) : WF (incU b q f n) :=
  h.of (incU_off hF hn (by omega)) (incU_off hF hn (by omega)) (fun f' hf' => (incU_same hF hn hb).wf (h.fr hf'))
def tapQ (q : Nat → Int32) (f : Nat) : Nat → Int32 := empQ (incU 56 q f (swF q f)) f 264
theorem empQ_WF {q : Nat → Int32} {f : Nat} (h : WF q) : WF (empQ q f 264) :=
  h.of (by unfold empQ; rw [if_neg (by omega)]) (by unfold empQ; rw [if_neg (by omega)]) (fun f' hf' => by
    by_cases e : f' = f
    · subst e; exact (empQ_wf q f').1
    · exact (empQ_same e).wf (h.fr hf'))
theorem tapQ_WF {q : Nat → Int32} {f : Nat} (hf : f < 3) (h : WF q) : WF (tapQ q f) := by
  have hF := h.fr hf
  have h1 := WF.sz hF
  have h2 := WF.sw hF
  exact empQ_WF (incU_WF h hF (by omega) (by omega) (by omega))
/-! a price is split -/
def rstN (q : Nat → Int32) (f p m : Nat) : Nat := p * byF q f m % szF q f
def shr1 (q : Nat → Int32) (f p m : Nat) : Int32 := nI (p * byF q f m / szF q f)
def lefU (q : Nat → Int32) (f p : Nat) : Nat → Int32
  | 0 => nI p
  | i + 1 => lefU q f p i - shr1 q f p i
def ahdP (q : Nat → Int32) (f p m k : Nat) : Bool := decide (rstN q f p m < rstN q f p k ∨ k < m ∧ rstN q f p k = rstN q f p m)
def shrQ (q : Nat → Int32) (f p m : Nat) : Int32 := shr1 q f p m + (if nI (cntR (ahdP q f p m) 0 5) < lefU q f p 5 then nI 1 else nI 0)
theorem pby {q : Nat → Int32} {f p m : Nat} (hF : WFf q f) (hp : p < 10000) (hm : m < 5) : p * byF q f m ≤ 2559744 := by
  have h1 := hF.ble hm
  have h2 := hF.sle
  have h3 := WF.sz hF
  exact Nat.mul_le_mul (by omega : p ≤ 9999) (by unfold szF at h3; omega : byF q f m ≤ 256)
def penU (q sh : Nat → Int32) : Nat → Nat → Int32
  | 0 => q
  | i + 1 => upd (penU q sh i) (10 + i) (penU q sh i (10 + i) + sh i)
theorem penU_off {q sh : Nat → Int32} {n j : Nat} (hj : j < 10 ∨ 10 + n ≤ j) : penU q sh n j = q j := by
  induction n with
  | zero => rfl
  | succ n ih =>
    show upd _ _ _ _ = _
    rw [upd_n (by omega)]
    exact ih (by omega)
theorem penU_same {q sh : Nat → Int32} {f n : Nat} (hn : n ≤ 5) : Same q (penU q sh n) f := fun j h1 h2 => penU_off (by omega)
theorem penU_WF {q sh : Nat → Int32} {n : Nat} (h : WF q) (hn : n ≤ 5) : WF (penU q sh n) :=
  h.of (penU_off (by omega)) (penU_off (by omega)) (fun f' hf' => (penU_same hn).wf (h.fr hf'))
def rafQ (q : Nat → Int32) (f p : Nat) : Nat → Int32 :=
  let q2 := incU 68 (penU q (shrQ q f p) 5) f (szF q f)
  let q3 := upd q2 2 (q2 2 + nI 1)
  let q4 := upd q3 3 (q3 3 + nI (szF q f))
  empQ (upd q4 4 (q4 4 + nI p)) f 264
theorem rafQ_WF {q : Nat → Int32} {f p : Nat} (hf : f < 3) (h : WF q) : WF (rafQ q f p) := by
  have hF := h.fr hf
  have h1 := WF.sz hF
  have h2 : WF (penU q (shrQ q f p) 5) := penU_WF h (by omega)
  have h3 := incU_WF (b := 68) (n := szF q f) h2 (h2.fr hf) h1 (by omega) (by omega)
  refine empQ_WF (WF.of (q := incU 68 (penU q (shrQ q f p) 5) f (szF q f)) h3 ?_ ?_ (fun f' hf' => Same.wf (fun j a b => ?_) (h3.fr hf')))
  · rw [upd_n (by omega), upd_n (by omega), upd_n (by omega)]
  · rw [upd_n (by omega), upd_n (by omega), upd_n (by omega)]
  · rw [upd_n (by omega), upd_n (by omega), upd_n (by omega)]
/-! cloth is returned -/
def retN (q : Nat → Int32) (c : Nat) (st gv : Int32) (i : Nat) : Int32 := (st.toInt64 * (q (15 + 6 * i + c)).toInt64 / gv.toInt64).toInt32
def retI (c : Nat) (st gv : Int32) (q : Nat → Int32) : Nat → Nat → Int32
  | 0 => q
  | i + 1 =>
    let qi := retI c st gv q i
    let n := retN qi c st gv i
    let a := upd qi (45 + i) (qi (45 + i) + n)
    let b := upd a (62 + c) (a (62 + c) + n)
    upd b (50 + c) (b (50 + c) - n)
def retA (c : Nat) (st gv : Int32) (q : Nat → Int32) (a0 : Int32) : Nat → Int32
  | 0 => a0
  | i + 1 => retA c st gv q a0 i + retN (retI c st gv q i) c st gv i
def gvnQ (q : Nat → Int32) (c : Nat) : Int32 := bx_sum (fun j9 => q (15 + 6 * j9 + c)) 5
def retL (q : Nat → Int32) (c : Nat) : Nat := if gvnQ q c ≤ 0 then 0 else 5
def retO (q : Nat → Int32) : Nat → Nat → Int32
  | 0 => q
  | c + 1 =>
    let qc := retO q c
    let q1 := retI c (qc (50 + c)) (gvnQ qc c) qc (retL qc c)
    let q2 := upd q1 (56 + c) (q1 (56 + c) + q1 (50 + c))
    upd q2 (50 + c) (nI 0)
def retT (q : Nat → Int32) : Nat → Int32
  | 0 => nI 0
  | c + 1 => retA c (retO q c (50 + c)) (gvnQ (retO q c) c) (retO q c) (retT q c) (retL (retO q c) c)
/-! cloth is missing -/
def bitS (s f : Nat) : Bool := decide (s / 2 ^ f % 2 = 1)
theorem bit_lem : ∀ s, s < 8 → ∀ f, f < 3 → (nI s >>> (nI f &&& 31)) &&& nI 1 = nI (s / 2 ^ f % 2) := by decide
def misU (q : Nat → Int32) (s c : Nat) : Nat → Int32
  | 0 => -q (50 + c)
  | f + 1 => misU q s c f + (if bitS s f = true then nI (cntC q f c (swF q f) (szF q f - swF q f)) else nI 0)
def misR (q : Nat → Int32) (s c : Nat) : Int32 := if misU q s c 3 ≤ 0 then nI 0 else misU q s c 3
def canF (q : Nat → Int32) (s : Nat) : Nat → Bool
  | 0 => true
  | f + 1 => canF q s f && (!bitS s f || decide (0 < szF q f))
def canC (q : Nat → Int32) (s : Nat) : Nat → Bool
  | 0 => canF q s 3
  | c + 1 => canC q s c && decide (misR q s c = 0)
def cfB (q : Nat → Int32) : Nat → Nat × Nat
  | 0 => (0, 0)
  | n + 1 => if canC q (n + 1) 6 = true ∧ (cfB q n).2 < cntR (bitS (n + 1)) 0 3 then (n + 1, cntR (bitS (n + 1)) 0 3) else cfB q n
theorem isRg_of {n : Nat} (h1 : 0 < n) (h2 : n < 100) : inL (nI n).toInt64 1 99 = true := by
  unfold inL
  rw [i32_l, nI_toInt' (by omega)]
  simp only [decide_eq_true_eq]
  have e1 : (1 : Int64).toInt = 1 := by decide
  have e2 : (99 : Int64).toInt = 99 := by decide
  omega
theorem isRg_t {x : Int32} (h : inL x.toInt64 1 99 = true) : ∃ n, 0 < n ∧ n < 100 ∧ x = nI n := by
  unfold inL at h
  rw [i32_l] at h
  simp only [decide_eq_true_eq] at h
  have e1 : (1 : Int64).toInt = 1 := by decide
  have e2 : (99 : Int64).toInt = 99 := by decide
  refine ⟨x.toInt.toNat, by omega, by omega, ?_⟩
  apply Int32.toInt_inj.mp
  rw [nI_toInt' (by omega)]
  omega
theorem lowOf_hi {α : Type} (f h : Nat → α) {i j : Nat} (hj : i ≤ j) : lowOf f h i j = h j := by
  unfold lowOf
  rw [if_neg (by omega)]
