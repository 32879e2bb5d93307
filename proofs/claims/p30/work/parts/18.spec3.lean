/-! recolouring, a patch, seams -/
theorem l64ne {x : Int32} (h : ¬ x ≤ 0) : ¬ x.toInt64 = 0 := by
  intro z
  have h1 : (x.toInt64).toInt = 0 := by rw [z]; rfl
  rw [i32_l] at h1
  apply h
  rw [Int32.le_iff_toInt_le, h1]
  decide
theorem idx_lt {a b w h : Nat} (ha : a < w) (hb : b < h) : b * w + a < w * h := by
  have h1 : (b + 1) * w ≤ h * w := Nat.mul_le_mul_right w hb
  rw [Nat.add_mul, Nat.one_mul, Nat.mul_comm h w] at h1
  omega
def patV (q : Nat → Int32) (f a b : Nat) : Int32 := if a < wdF q f ∧ b < htF q f then nI (clF q f (b * wdF q f + a)) else -9
def swpC (a b c : Nat) : Nat := if c = a then b else if c = b then a else c
theorem swpC_lt {a b c : Nat} (ha : a < 6) (hb : b < 6) (hc : c < 6) : swpC a b c < 6 := by
  unfold swpC
  split
  · exact hb
  · split
    · exact ha
    · exact hc
def recU (q : Nat → Int32) (f a b i : Nat) : Nat → Int32 := fun j => if 74 + 264 * f + 8 ≤ j ∧ j < 74 + 264 * f + 8 + i then nI (swpC a b (clF q f (j - (74 + 264 * f + 8)))) else q j
theorem recU_0 (q : Nat → Int32) (f a b : Nat) : recU q f a b 0 = q := by
  funext j
  unfold recU
  rw [if_neg (by omega)]
theorem recU_up (q : Nat → Int32) (f a b i : Nat) : upd (recU q f a b i) (74 + 264 * f + (8 + i)) (nI (swpC a b (clF q f i))) = recU q f a b (i + 1) := by
  funext j
  by_cases h : j = 74 + 264 * f + (8 + i)
  · rw [h, upd_s (α := Nat)]
    unfold recU
    rw [if_pos (by omega), show 74 + 264 * f + (8 + i) - (74 + 264 * f + 8) = i by omega]
  · rw [upd_n h]
    unfold recU
    by_cases h2 : 74 + 264 * f + 8 ≤ j ∧ j < 74 + 264 * f + 8 + i
    · rw [if_pos h2, if_pos (by omega)]
    · rw [if_neg h2, if_neg (by omega)]
theorem recU_off {q : Nat → Int32} {f a b i j : Nat} (h : j < 74 + 264 * f + 8 ∨ 74 + 264 * f + 8 + i ≤ j) : recU q f a b i j = q j := by
  unfold recU
  rw [if_neg (by omega)]
theorem recU_cl {q : Nat → Int32} {f a b i k : Nat} (ha : a < 6) (hb : b < 6) (hF : WFf q f) (hi : i ≤ 256) (hk : k < 256) : clF (recU q f a b i) f k = if k < i then swpC a b (clF q f k) else clF q f k := by
  by_cases h : k < i
  · rw [if_pos h]
    refine qn_nI ?_ (by have := swpC_lt ha hb (hF.c6 hk); omega)
    unfold recU
    rw [if_pos (by omega), show 74 + 264 * f + (8 + k) - (74 + 264 * f + 8) = k by omega]
  · rw [if_neg h]
    exact qn_eq (recU_off (by omega))
theorem recU_wf {q : Nat → Int32} {f a b i : Nat} (ha : a < 6) (hb : b < 6) (hF : WFf q f) (hi : i ≤ 256) : WFf (recU q f a b i) f ∧ szF (recU q f a b i) f = szF q f ∧ swF (recU q f a b i) f = swF q f := by
  have e0 : ∀ j, j < 8 → recU q f a b i (74 + 264 * f + j) = q (74 + 264 * f + j) := fun j h => recU_off (by omega)
  have ew : wdF (recU q f a b i) f = wdF q f := qn_eq (e0 0 (by omega))
  have eh : htF (recU q f a b i) f = htF q f := qn_eq (e0 1 (by omega))
  have es : swF (recU q f a b i) f = swF q f := qn_eq (e0 2 (by omega))
  have eb : ∀ m, m < 5 → byF (recU q f a b i) f m = byF q f m := fun m hm => qn_eq (e0 (3 + m) (by omega))
  refine ⟨⟨?_, ?_, ?_, ?_, ?_, ?_, ?_, fun m hm => ?_, ?_, fun k hk => ⟨?_, ?_⟩⟩, by unfold szF; rw [ew, eh], es⟩
  · rw [ew, e0 0 (by omega)]; exact hF.w
  · rw [eh, e0 1 (by omega)]; exact hF.h
  · rw [es, e0 2 (by omega)]; exact hF.s
  · rw [ew]; exact hF.w16
  · rw [eh]; exact hF.h16
  · rw [ew, eh]; exact hF.wh0
  · rw [ew, eh, es]; exact hF.sle
  · rw [eb m hm, e0 (3 + m) (by omega)]; exact hF.by_ hm
  · unfold byS
    rw [eb 0 (by omega), eb 1 (by omega), eb 2 (by omega), eb 3 (by omega), eb 4 (by omega), es]
    exact hF.sum
  · rw [recU_cl ha hb hF hi hk]
    by_cases h : k < i
    · rw [if_pos h]
      unfold recU
      rw [if_pos (by omega), show 74 + 264 * f + (8 + k) - (74 + 264 * f + 8) = k by omega]
    · rw [if_neg h, recU_off (by omega)]
      exact hF.col hk
  · rw [recU_cl ha hb hF hi hk]
    by_cases h : k < i
    · rw [if_pos h]; exact swpC_lt ha hb (hF.c6 hk)
    · rw [if_neg h]; exact hF.c6 hk
def recQ (q : Nat → Int32) (f a b : Nat) : Nat → Int32 := if a = b then q else recU q f a b (szF q f)
def recP (q : Nat → Int32) (f a b k : Nat) : Bool := decide (clF q f k = a ∨ clF q f k = b)
def recN (q : Nat → Int32) (f a b : Nat) : Nat := if a = b then 0 else cntR (recP q f a b) 0 (szF q f)
theorem recU_WF {q : Nat → Int32} {f a b i : Nat} (h : WF q) (hf : f < 3) (ha : a < 6) (hb : b < 6) (hi : i ≤ 256) : WF (recU q f a b i) :=
  h.of (recU_off (by omega)) (recU_off (by omega)) (fun f' hf' => by
    by_cases e : f' = f
    · subst e; exact (recU_wf ha hb (h.fr hf') hi).1
    · exact Same.wf (fun j h1 h2 => recU_off (by omega)) (h.fr hf'))
theorem recQ_WF {q : Nat → Int32} {f a b : Nat} (h : WF q) (hf : f < 3) (ha : a < 6) (hb : b < 6) : WF (recQ q f a b) := by
  unfold recQ
  split
  · exact h
  · exact recU_WF h hf ha hb (WF.sz (h.fr hf))
/-- seams of a pattern of width w and sz patches -/
def seamN (w sz : Nat) (col : Nat → Nat) : Nat → Nat
  | 0 => 0
  | n + 1 => seamN w sz col n + (if n % w < w - 1 ∧ ¬ col n = col (n + 1) then 1 else 0) + (if n + w < sz ∧ ¬ col n = col (n + w) then 1 else 0)
theorem seamN_le (w sz : Nat) (col : Nat → Nat) (n : Nat) : seamN w sz col n ≤ 2 * n := by
  induction n with
  | zero => exact Nat.le_refl _
  | succ n ih => simp only [seamN]; split <;> split <;> omega
theorem retO_same {q : Nat → Int32} : ∀ c, c ≤ 6 → ∀ j, (j < 45 ∨ 68 ≤ j) → retO q c j = q j := by
  have hI : ∀ (c : Nat) (st gv : Int32) (q : Nat → Int32) (i : Nat), c < 6 → i ≤ 5 → ∀ j, (j < 45 ∨ 68 ≤ j) → retI c st gv q i j = q j := by
    intro c st gv q i hc
    induction i with
    | zero => intro _ j _; rfl
    | succ i ih =>
      intro hi j hj
      show upd _ _ _ _ = _
      rw [upd_n (by omega), upd_n (by omega), upd_n (by omega)]
      exact ih (by omega) j hj
  intro c
  induction c with
  | zero => intro _ j _; rfl
  | succ c ih =>
    intro hc j hj
    have hl : retL (retO q c) c ≤ 5 := by unfold retL; split <;> omega
    show upd _ _ _ _ = _
    rw [upd_n (by omega), upd_n (by omega), hI _ _ _ _ _ (by omega) hl j hj]
    exact ih (by omega) j hj
theorem retO_WF {q : Nat → Int32} (h : WF q) : WF (retO q 6) :=
  h.of (retO_same 6 (by omega) 0 (by omega)) (retO_same 6 (by omega) 1 (by omega)) (fun f hf => Same.wf (fun j h1 h2 => retO_same 6 (by omega) j (by omega)) (h.fr hf))
theorem seam_in {w h k : Nat} (hk : k < w * h) (hm : k % w < w - 1) : k + 1 < w * h := by
  have h1 := Nat.div_add_mod k w
  have h2 : k / w < h := Nat.div_lt_of_lt_mul hk
  have h3 : w * (k / w + 1) ≤ w * h := Nat.mul_le_mul_left w h2
  rw [Nat.mul_add, Nat.mul_one] at h3
  omega
