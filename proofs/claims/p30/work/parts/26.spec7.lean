/-! same, becomes, canFinish -/
def samB (q : Nat → Int32) (f w : Nat) : Bool := aftB q f f (decide (w = 0)) (if w = 0 then 0 else 3 - w)
def becG (q : Nat → Int32) (f g : Nat) : Nat → Int32
  | 0 => -9
  | rem + 1 => if aftB q f g (decide (3 < 8 - (rem + 1))) ((8 - (rem + 1)) % 4) = true then nI (8 - (rem + 1)) else becG q f g rem
def becV (q : Nat → Int32) (f g : Nat) : Int32 := if 0 < szF q f ∧ 0 < szF q g then becG q f g 8 else -9
theorem becG_t {q : Nat → Int32} {f g k : Nat} (hk : k < 8) (h : aftB q f g (decide (3 < k)) (k % 4) = true) : becG q f g (8 - k) = nI k := by
  rw [show 8 - k = (7 - k) + 1 by omega]
  show (if aftB q f g (decide (3 < 8 - (7 - k + 1))) ((8 - (7 - k + 1)) % 4) = true then nI (8 - (7 - k + 1)) else _) = _
  rw [show 8 - (7 - k + 1) = k by omega, if_pos h]
theorem becG_f {q : Nat → Int32} {f g k : Nat} (hk : k < 8) (h : aftB q f g (decide (3 < k)) (k % 4) = false) : becG q f g (8 - k) = becG q f g (8 - (k + 1)) := by
  rw [show 8 - k = (7 - k) + 1 by omega]
  show (if aftB q f g (decide (3 < 8 - (7 - k + 1))) ((8 - (7 - k + 1)) % 4) = true then nI (8 - (7 - k + 1)) else becG q f g (7 - k)) = _
  rw [show 8 - (7 - k + 1) = k by omega, if_neg (by rw [h]; decide), show 7 - k = 8 - (k + 1) by omega]
theorem sz0 {q : Nat → Int32} {f : Nat} (hF : WFf q f) (h : szF q f = 0) : wdF q f = 0 ∧ htF q f = 0 := by
  have h1 := hF.wh0
  rcases Nat.mul_eq_zero.mp h with z | z
  · exact ⟨z, h1.mp z⟩
  · exact ⟨h1.mpr z, z⟩
theorem cfB_t {q : Nat → Int32} {n : Nat} (h1 : canC q (n + 1) 6 = true) (h2 : (cfB q n).2 < cntR (bitS (n + 1)) 0 3) : cfB q (n + 1) = (n + 1, cntR (bitS (n + 1)) 0 3) := if_pos ⟨h1, h2⟩
theorem cfB_f {q : Nat → Int32} {n : Nat} (h : canC q (n + 1) 6 = false ∨ cntR (bitS (n + 1)) 0 3 ≤ (cfB q n).2) : cfB q (n + 1) = cfB q n := if_neg (fun z => by
  rcases h with y | y
  · rw [y] at z; exact absurd z.1 (by decide)
  · omega)
theorem cfB_le (q : Nat → Int32) : ∀ n, (cfB q n).1 ≤ n ∧ (cfB q n).2 ≤ 3 := by
  intro n
  induction n with
  | zero => exact ⟨Nat.le_refl _, by show 0 ≤ 3; omega⟩
  | succ n ih =>
    by_cases h : canC q (n + 1) 6 = true ∧ (cfB q n).2 < cntR (bitS (n + 1)) 0 3
    · rw [cfB_t h.1 h.2]
      exact ⟨Nat.le_refl _, cntR_le _ _ _⟩
    · have e : cfB q (n + 1) = cfB q n := if_neg h
      rw [e]
      exact ⟨by omega, ih.2⟩
