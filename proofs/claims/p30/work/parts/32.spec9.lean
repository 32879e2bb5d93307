/-! the text: one block more in an open item, beside it or below it -/
def joA {A : Type} (w w0 : Nat) (c b : Nat → A) (k : Nat) : A := if k % (w + w0) < w then c (k / (w + w0) * w + k % (w + w0)) else b (k / (w + w0) * w0 + k % (w + w0) - w)
def joB {A : Type} (w h w0 : Nat) (c b : Nat → A) (k : Nat) : A := if k / w0 < h then c (k / w0 * w + k % w0) else b ((k / w0 - h) * w0 + k % w0)
/-- a row with the first n values of another laid in from b on -/
def layI (z : Nat → Int32) (b : Nat) (J : Nat → Int32) (n : Nat) : Nat → Int32 := fun j => if b ≤ j ∧ j < b + n then J (j - b) else z j
theorem layI_0 (z : Nat → Int32) (b : Nat) (J : Nat → Int32) : layI z b J 0 = z := funext fun j => if_neg (by omega)
theorem layI_up (z : Nat → Int32) (b : Nat) (J : Nat → Int32) (n : Nat) : upd (layI z b J n) (b + n) (J n) = layI z b J (n + 1) := by
  funext j
  by_cases e : j = b + n
  · subst e
    rw [upd_s (α := Nat)]
    unfold layI
    rw [if_pos (by omega), Nat.add_sub_cancel_left]
  · rw [upd_n e]
    unfold layI
    by_cases z9 : b ≤ j ∧ j < b + n
    · rw [if_pos z9, if_pos (by omega)]
    · rw [if_neg z9, if_neg (by omega)]
