/-! from a block to what lies in it, patch by patch -/
theorem mirI_at {w x y : Nat} (hx : x < w) : mirI w (y * w + x) = y * w + (w - 1 - x) := by
  have h := lin_mod (w := w) (y := y) hx
  unfold mirI
  rw [h.1, h.2]
  omega
theorem turI_at {w h x y : Nat} (hx : x < h) : turI w h (y * h + x) = (h - 1 - x) * w + y := by
  have h1 := lin_mod (w := h) (y := y) hx
  unfold turI
  rw [h1.1, h1.2]
theorem copI_at {w a x y : Nat} (hx : x < a) : copI w a (y * a + x) = y * w + x % w := by
  have h1 := lin_mod (w := a) (y := y) hx
  unfold copI
  rw [h1.1, h1.2]
theorem appl_60 {b8 : PBl} {w h : Nat} {c : Nat → Nat} (hA : applS 60 b8 = some (w, h, c)) : w = b8.1 ∧ h = b8.2.1 ∧ ∀ x y, x < w → c (y * w + x) = b8.2.2 (y * b8.1 + (b8.1 - 1 - x)) := by
  unfold applS at hA
  rw [if_pos rfl] at hA
  cases hA
  exact ⟨rfl, rfl, fun x y hx => congrArg b8.2.2 (mirI_at hx)⟩
theorem appl_94 {b8 : PBl} {w h : Nat} {c : Nat → Nat} (hA : applS 94 b8 = some (w, h, c)) : w = b8.2.1 ∧ h = b8.1 ∧ ∀ x y, x < w → c (y * w + x) = b8.2.2 ((b8.2.1 - 1 - x) * b8.1 + y) := by
  unfold applS at hA
  rw [if_neg (by decide), if_pos rfl] at hA
  cases hA
  exact ⟨rfl, rfl, fun x y hx => congrArg b8.2.2 (turI_at hx)⟩
theorem appl_n {sg : Nat} {b8 : PBl} {w h : Nat} {c : Nat → Nat} (h1 : sg ≠ 60) (h2 : sg ≠ 94) (hA : applS sg b8 = some (w, h, c)) : h = b8.2.1 ∧ ∀ x y, x < w → c (y * w + x) = b8.2.2 (y * b8.1 + x % b8.1) := by
  unfold applS at hA
  rw [if_neg h1, if_neg h2] at hA
  by_cases z : (sg - 48) * b8.1 ≤ 16
  · rw [if_pos z] at hA
    cases hA
    exact ⟨rfl, fun x y hx => congrArg b8.2.2 (copI_at hx)⟩
  · rw [if_neg z] at hA
    cases hA
