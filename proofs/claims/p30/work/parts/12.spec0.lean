/-! ranges, counts -/
theorem i32_l (x : Int32) : (x.toInt64).toInt = x.toInt := by simp
def inL (x lo hi : Int64) : Bool := decide (lo.toInt ≤ x.toInt ∧ x.toInt ≤ hi.toInt)
/-- x is one of 0 .. n - 1 -/
def isIx (x : Int32) (n : Nat) : Bool := decide (0 ≤ x.toInt ∧ x.toInt < n)
theorem nI_toInt' {n : Nat} (h : n < 2147483648) : (nI n).toInt = (n : Int) := nI_toInt h
theorem isIx_t {x : Int32} {n : Nat} (h : isIx x n = true) (hn : n < 2147483648) : ∃ k, k < n ∧ x = nI k := by
  have h1 := of_decide_eq_true h
  refine ⟨x.toInt.toNat, by omega, ?_⟩
  apply Int32.toInt_inj.mp
  rw [nI_toInt' (by omega)]
  omega
theorem isIx_nI {k n : Nat} (hk : k < 2147483648) : isIx (nI k) n = decide (k < n) := by
  unfold isIx
  rw [nI_toInt' hk]
  congr 1
  simp
theorem isIx_of {k n : Nat} (h : k < n) (hn : n < 2147483648) : isIx (nI k) n = true := by rw [isIx_nI (by omega)]; simp [h]
theorem inL_ix (x : Int32) (n : Nat) (c : Int64) (hc : c.toInt = (n : Int) - 1) : inL x.toInt64 0 c = isIx x n := by
  unfold inL isIx
  rw [i32_l, hc, show (0 : Int64).toInt = 0 from rfl]
  congr 1
  simp only [eq_iff_iff]
  omega
/-- how many of a, a + 1 .. a + n - 1 have P -/
def cntR (P : Nat → Bool) (a : Nat) : Nat → Nat
  | 0 => 0
  | n + 1 => cntR P a n + (if P (a + n) = true then 1 else 0)
theorem cntR_le (P : Nat → Bool) (a n : Nat) : cntR P a n ≤ n := by
  induction n with
  | zero => exact Nat.le_refl _
  | succ n ih => simp only [cntR]; split <;> omega
theorem cntR_congr {P P' : Nat → Bool} {a n : Nat} (h : ∀ k, a ≤ k → k < a + n → P k = P' k) : cntR P a n = cntR P' a n := by
  induction n with
  | zero => rfl
  | succ n ih => simp only [cntR]; rw [ih (fun k h1 h2 => h k h1 (by omega)), h (a + n) (by omega) (by omega)]
theorem cntR_add (P : Nat → Bool) (a n k : Nat) : cntR P a (n + k) = cntR P a n + cntR P (a + n) k := by
  induction k with
  | zero => rfl
  | succ k ih =>
    show cntR P a (n + k) + (if P (a + (n + k)) = true then 1 else 0) = cntR P a n + (cntR P (a + n) k + (if P (a + n + k) = true then 1 else 0))
    rw [ih, Nat.add_assoc a n k, Nat.add_assoc]
/-- a row's numbers as they count, where they are none below 0 -/
def qn (q : Nat → Int32) (i : Nat) : Nat := (q i).toNatClampNeg
def ixf (f k : Nat) : Nat := 74 + 264 * f + k
def clF (q : Nat → Int32) (f k : Nat) : Nat := qn q (74 + 264 * f + (8 + k))
def wdF (q : Nat → Int32) (f : Nat) : Nat := qn q (74 + 264 * f + 0)
def htF (q : Nat → Int32) (f : Nat) : Nat := qn q (74 + 264 * f + 1)
def swF (q : Nat → Int32) (f : Nat) : Nat := qn q (74 + 264 * f + 2)
def byF (q : Nat → Int32) (f m : Nat) : Nat := qn q (74 + 264 * f + (3 + m))
def byS (q : Nat → Int32) (f : Nat) : Nat := byF q f 0 + byF q f 1 + byF q f 2 + byF q f 3 + byF q f 4
/-- a frame's part of the row is one -/
def WFf (q : Nat → Int32) (f : Nat) : Prop :=
  q (74 + 264 * f + 0) = nI (wdF q f) ∧ q (74 + 264 * f + 1) = nI (htF q f) ∧ q (74 + 264 * f + 2) = nI (swF q f) ∧ wdF q f ≤ 16 ∧ htF q f ≤ 16 ∧ (wdF q f = 0 ↔ htF q f = 0) ∧ swF q f ≤ wdF q f * htF q f ∧
  (∀ m, m < 5 → q (74 + 264 * f + (3 + m)) = nI (byF q f m)) ∧ byS q f = swF q f ∧ (∀ k, k < 256 → q (74 + 264 * f + (8 + k)) = nI (clF q f k) ∧ clF q f k < 6)
theorem WFf.w {q : Nat → Int32} {f : Nat} (h : WFf q f) : q (74 + 264 * f + 0) = nI (wdF q f) := h.1
theorem WFf.h {q : Nat → Int32} {f : Nat} (h : WFf q f) : q (74 + 264 * f + 1) = nI (htF q f) := h.2.1
theorem WFf.s {q : Nat → Int32} {f : Nat} (h : WFf q f) : q (74 + 264 * f + 2) = nI (swF q f) := h.2.2.1
theorem WFf.w16 {q : Nat → Int32} {f : Nat} (h : WFf q f) : wdF q f ≤ 16 := h.2.2.2.1
theorem WFf.h16 {q : Nat → Int32} {f : Nat} (h : WFf q f) : htF q f ≤ 16 := h.2.2.2.2.1
theorem WFf.wh0 {q : Nat → Int32} {f : Nat} (h : WFf q f) : wdF q f = 0 ↔ htF q f = 0 := h.2.2.2.2.2.1
theorem WFf.sle {q : Nat → Int32} {f : Nat} (h : WFf q f) : swF q f ≤ wdF q f * htF q f := h.2.2.2.2.2.2.1
theorem WFf.by_ {q : Nat → Int32} {f : Nat} (h : WFf q f) {m : Nat} (hm : m < 5) : q (74 + 264 * f + (3 + m)) = nI (byF q f m) := h.2.2.2.2.2.2.2.1 m hm
theorem WFf.sum {q : Nat → Int32} {f : Nat} (h : WFf q f) : byS q f = swF q f := h.2.2.2.2.2.2.2.2.1
theorem WFf.col {q : Nat → Int32} {f : Nat} (h : WFf q f) {k : Nat} (hk : k < 256) : q (74 + 264 * f + (8 + k)) = nI (clF q f k) := (h.2.2.2.2.2.2.2.2.2 k hk).1
theorem WFf.c6 {q : Nat → Int32} {f : Nat} (h : WFf q f) {k : Nat} (hk : k < 256) : clF q f k < 6 := (h.2.2.2.2.2.2.2.2.2 k hk).2
theorem WFf.ble {q : Nat → Int32} {f : Nat} (h : WFf q f) {m : Nat} (hm : m < 5) : byF q f m ≤ swF q f := by
  have h1 := h.sum
  unfold byS at h1
  rcases (show m = 0 ∨ m = 1 ∨ m = 2 ∨ m = 3 ∨ m = 4 by omega) with rfl | rfl | rfl | rfl | rfl <;> omega
def nmQ (q : Nat → Int32) : Nat := qn q 0
def tnQ (q : Nat → Int32) : Nat := qn q 1
def WF (q : Nat → Int32) : Prop := q 0 = nI (nmQ q) ∧ q 1 = nI (tnQ q) ∧ nmQ q ≤ 5 ∧ (tnQ q < nmQ q ∨ tnQ q = 0) ∧ ∀ f, f < 3 → WFf q f
theorem sz256 {w h : Nat} (hw : w ≤ 16) (hh : h ≤ 16) : w * h ≤ 256 := Nat.mul_le_mul hw hh
def szF (q : Nat → Int32) (f : Nat) : Nat := wdF q f * htF q f
theorem WF.sz {q : Nat → Int32} {f : Nat} (h : WFf q f) : szF q f ≤ 256 := sz256 h.w16 h.h16
theorem WF.fr {q : Nat → Int32} (h : WF q) {f : Nat} (hf : f < 3) : WFf q f := h.2.2.2.2 f hf
theorem WF.sw {q : Nat → Int32} {f : Nat} (h : WFf q f) : swF q f ≤ szF q f := h.sle
theorem WF.szw {q : Nat → Int32} {f : Nat} (h : WFf q f) (h0 : 0 < szF q f) : 0 < wdF q f ∧ 0 < htF q f := by
  have h1 := h.wh0
  unfold szF at h0
  refine ⟨Nat.pos_of_ne_zero fun z => ?_, Nat.pos_of_ne_zero fun z => ?_⟩
  · rw [z] at h0; omega
  · rw [z] at h0; omega
def cntC (q : Nat → Int32) (f c a n : Nat) : Nat := cntR (fun k => decide (clF q f k = c)) a n
theorem sw2 (x : Int32) : x = nI 0 ∨ x = nI 1 ∨ isIx x 2 = false := by
  cases h : isIx x 2 with
  | false => simp
  | true =>
    obtain ⟨k, hk, rfl⟩ := isIx_t h (by omega)
    rcases (show k = 0 ∨ k = 1 by omega) with rfl | rfl <;> simp
theorem sw3 (x : Int32) : x = nI 0 ∨ x = nI 1 ∨ x = nI 2 ∨ isIx x 3 = false := by
  cases h : isIx x 3 with
  | false => simp
  | true =>
    obtain ⟨k, hk, rfl⟩ := isIx_t h (by omega)
    rcases (show k = 0 ∨ k = 1 ∨ k = 2 by omega) with rfl | rfl | rfl <;> simp
theorem sw4 (x : Int32) : x = nI 0 ∨ x = nI 1 ∨ x = nI 2 ∨ x = nI 3 ∨ isIx x 4 = false := by
  cases h : isIx x 4 with
  | false => simp
  | true =>
    obtain ⟨k, hk, rfl⟩ := isIx_t h (by omega)
    rcases (show k = 0 ∨ k = 1 ∨ k = 2 ∨ k = 3 by omega) with rfl | rfl | rfl | rfl <;> simp
theorem sw5 (x : Int32) : x = nI 0 ∨ x = nI 1 ∨ x = nI 2 ∨ x = nI 3 ∨ x = nI 4 ∨ isIx x 5 = false := by
  cases h : isIx x 5 with
  | false => simp
  | true =>
    obtain ⟨k, hk, rfl⟩ := isIx_t h (by omega)
    rcases (show k = 0 ∨ k = 1 ∨ k = 2 ∨ k = 3 ∨ k = 4 by omega) with rfl | rfl | rfl | rfl | rfl <;> simp
theorem sw6 (x : Int32) : x = nI 0 ∨ x = nI 1 ∨ x = nI 2 ∨ x = nI 3 ∨ x = nI 4 ∨ x = nI 5 ∨ isIx x 6 = false := by
  cases h : isIx x 6 with
  | false => simp
  | true =>
    obtain ⟨k, hk, rfl⟩ := isIx_t h (by omega)
    rcases (show k = 0 ∨ k = 1 ∨ k = 2 ∨ k = 3 ∨ k = 4 ∨ k = 5 by omega) with rfl | rfl | rfl | rfl | rfl | rfl <;> simp
theorem sw7 (x : Int32) : x = nI 0 ∨ x = nI 1 ∨ x = nI 2 ∨ x = nI 3 ∨ x = nI 4 ∨ x = nI 5 ∨ x = nI 6 ∨ isIx x 7 = false := by
  cases h : isIx x 7 with
  | false => simp
  | true =>
    obtain ⟨k, hk, rfl⟩ := isIx_t h (by omega)
    rcases (show k = 0 ∨ k = 1 ∨ k = 2 ∨ k = 3 ∨ k = 4 ∨ k = 5 ∨ k = 6 by omega) with rfl | rfl | rfl | rfl | rfl | rfl | rfl <;> simp
theorem sw8 (x : Int32) : x = nI 0 ∨ x = nI 1 ∨ x = nI 2 ∨ x = nI 3 ∨ x = nI 4 ∨ x = nI 5 ∨ x = nI 6 ∨ x = nI 7 ∨ isIx x 8 = false := by
  cases h : isIx x 8 with
  | false => simp
  | true =>
    obtain ⟨k, hk, rfl⟩ := isIx_t h (by omega)
    rcases (show k = 0 ∨ k = 1 ∨ k = 2 ∨ k = 3 ∨ k = 4 ∨ k = 5 ∨ k = 6 ∨ k = 7 by omega) with rfl | rfl | rfl | rfl | rfl | rfl | rfl | rfl <;> simp
theorem sw9 (x : Int32) : x = nI 0 ∨ x = nI 1 ∨ x = nI 2 ∨ x = nI 3 ∨ x = nI 4 ∨ x = nI 5 ∨ x = nI 6 ∨ x = nI 7 ∨ x = nI 8 ∨ isIx x 9 = false := by
  cases h : isIx x 9 with
  | false => simp
  | true =>
    obtain ⟨k, hk, rfl⟩ := isIx_t h (by omega)
    rcases (show k = 0 ∨ k = 1 ∨ k = 2 ∨ k = 3 ∨ k = 4 ∨ k = 5 ∨ k = 6 ∨ k = 7 ∨ k = 8 by omega) with rfl | rfl | rfl | rfl | rfl | rfl | rfl | rfl | rfl <;> simp
theorem sw10 (x : Int32) : x = nI 0 ∨ x = nI 1 ∨ x = nI 2 ∨ x = nI 3 ∨ x = nI 4 ∨ x = nI 5 ∨ x = nI 6 ∨ x = nI 7 ∨ x = nI 8 ∨ x = nI 9 ∨ isIx x 10 = false := by
  cases h : isIx x 10 with
  | false => simp
  | true =>
    obtain ⟨k, hk, rfl⟩ := isIx_t h (by omega)
    rcases (show k = 0 ∨ k = 1 ∨ k = 2 ∨ k = 3 ∨ k = 4 ∨ k = 5 ∨ k = 6 ∨ k = 7 ∨ k = 8 ∨ k = 9 by omega) with rfl | rfl | rfl | rfl | rfl | rfl | rfl | rfl | rfl | rfl <;> simp
theorem sw27 (x : Int32) : x = nI 0 ∨ x = nI 1 ∨ x = nI 2 ∨ x = nI 3 ∨ x = nI 4 ∨ x = nI 5 ∨ x = nI 6 ∨ x = nI 7 ∨ x = nI 8 ∨ x = nI 9 ∨ x = nI 10 ∨ x = nI 11 ∨ x = nI 12 ∨ x = nI 13 ∨ x = nI 14 ∨ x = nI 15 ∨ x = nI 16 ∨ x = nI 17 ∨ x = nI 18 ∨ x = nI 19 ∨ x = nI 20 ∨ x = nI 21 ∨ x = nI 22 ∨ x = nI 23 ∨ x = nI 24 ∨ x = nI 25 ∨ x = nI 26 ∨ isIx x 27 = false := by
  cases h : isIx x 27 with
  | false => simp
  | true =>
    obtain ⟨k, hk, rfl⟩ := isIx_t h (by omega)
    rcases (show k = 0 ∨ k = 1 ∨ k = 2 ∨ k = 3 ∨ k = 4 ∨ k = 5 ∨ k = 6 ∨ k = 7 ∨ k = 8 ∨ k = 9 ∨ k = 10 ∨ k = 11 ∨ k = 12 ∨ k = 13 ∨ k = 14 ∨ k = 15 ∨ k = 16 ∨ k = 17 ∨ k = 18 ∨ k = 19 ∨ k = 20 ∨ k = 21 ∨ k = 22 ∨ k = 23 ∨ k = 24 ∨ k = 25 ∨ k = 26 by omega) with rfl | rfl | rfl | rfl | rfl | rfl | rfl | rfl | rfl | rfl | rfl | rfl | rfl | rfl | rfl | rfl | rfl | rfl | rfl | rfl | rfl | rfl | rfl | rfl | rfl | rfl | rfl <;> simp
theorem isIx_f {x : Int32} {n : Nat} (h : isIx x n = false) : x.toInt < 0 ∨ (n : Int) ≤ x.toInt := by
  have h1 := of_decide_eq_false h
  omega
/-- what about, member and cloth answer -/
def abV (q : Nat → Int32) : Nat → Int32
  | 0 => q 0
  | 1 => if nmQ q = 0 then -9 else q 1
  | 2 => nI (cntR (fun j9 => decide (0 < szF q j9)) 0 3)
  | 3 => q 2
  | 4 => q 3
  | 5 => q 4
  | 6 => bx_sum (fun j9 => q (50 + j9)) 6
  | 7 => bx_sum (fun j9 => q (56 + j9)) 6
  | _ => bx_sum (fun j9 => q (62 + j9)) 6
def meV (q : Nat → Int32) (k : Nat) : Nat → Int32
  | 0 => q (5 + k)
  | 1 => q (10 + k)
  | 2 => bx_sum (fun j9 => q (15 + 6 * k + j9)) 6
  | _ => q (45 + k)
/-- the pieces of a colour that are away, and those of the quilts on the first frames -/
def clQ (q : Nat → Int32) (c : Nat) : Nat → Int32
  | 0 => q (68 + c)
  | f + 1 => clQ q c f + nI (cntC q f c 0 (swF q f - 0))
def coV (q : Nat → Int32) (c : Nat) : Nat → Int32
  | 0 => q (50 + c)
  | 1 => bx_sum (fun j9 => q (15 + 6 * j9 + c)) 5
  | 2 => clQ q c 3
  | 3 => q (56 + c)
  | _ => q (62 + c)
