/-! blocks: what is laid in a row of 256, turned and mirrored -/
def eqB (a b : Nat → Nat) : Nat → Bool
  | 0 => true
  | n + 1 => eqB a b n && decide (a n = b n)
theorem eqB_f {a b : Nat → Nat} {k n : Nat} (h : eqB a b k = false) (hk : k ≤ n) : eqB a b n = false := by
  induction n with
  | zero => rw [show k = 0 by omega] at h; exact h
  | succ n ih =>
    by_cases e : k = n + 1
    · rw [e] at h; exact h
    · show (eqB a b n && _) = false
      rw [ih (by omega)]
      rfl
theorem eqB_iff {a b : Nat → Nat} {n : Nat} : eqB a b n = true ↔ ∀ k, k < n → a k = b k := by
  induction n with
  | zero => exact ⟨fun _ k h => absurd h (Nat.not_lt_zero _), fun _ => rfl⟩
  | succ n ih =>
    show (eqB a b n && decide (a n = b n)) = true ↔ _
    rw [Bool.and_eq_true, decide_eq_true_eq, ih]
    exact ⟨fun h k hk => (Nat.lt_succ_iff_lt_or_eq.mp hk).elim (h.1 k) (fun e => e ▸ h.2), fun h => ⟨fun k hk => h k (by omega), h n (by omega)⟩⟩
/-- the places of a mirrored, a turned, a copied block in the one before -/
def mirI (w k : Nat) : Nat := k / w * w + w - 1 - k % w
def turI (w h k : Nat) : Nat := (h - 1 - k % h) * w + k / h
def copI (w a k : Nat) : Nat := k / a * w + k % a % w
theorem mirI_lt {w h k : Nat} (hk : k < w * h) : mirI w k < w * h := by
  have hw : 0 < w := by
    rcases Nat.eq_zero_or_pos w with z | z
    · rw [z, Nat.zero_mul] at hk; omega
    · exact z
  have h2 : k / w < h := Nat.div_lt_of_lt_mul hk
  have h3 : (k / w + 1) * w ≤ h * w := Nat.mul_le_mul_right w h2
  have h4 := Nat.mod_lt k hw
  rw [Nat.add_mul, Nat.one_mul, Nat.mul_comm h w] at h3
  unfold mirI
  omega
theorem turI_lt {w h k : Nat} (hk : k < w * h) : turI w h k < w * h := by
  have hh : 0 < h := by
    rcases Nat.eq_zero_or_pos h with z | z
    · rw [z, Nat.mul_zero] at hk; omega
    · exact z
  have h2 : k / h < w := Nat.div_lt_of_lt_mul (by rw [Nat.mul_comm]; exact hk)
  have h3 : (h - 1 - k % h + 1) * w ≤ h * w := Nat.mul_le_mul_right w (by omega)
  rw [Nat.add_mul, Nat.one_mul, Nat.mul_comm h w] at h3
  unfold turI
  omega
theorem copI_lt {w h d k : Nat} (hw : 0 < w) (hd : 0 < d) (hk : k < d * w * h) : copI w (d * w) k < w * h := by
  have h2 : k / (d * w) < h := Nat.div_lt_of_lt_mul hk
  have h3 : (k / (d * w) + 1) * w ≤ h * w := Nat.mul_le_mul_right w h2
  have h4 := Nat.mod_lt (k % (d * w)) hw
  rw [Nat.add_mul, Nat.one_mul, Nat.mul_comm h w] at h3
  unfold copI
  omega
/-- width, height and content after n turns -/
def rtW (w h n : Nat) : Nat := if n % 2 = 0 then w else h
def rtC (w h : Nat) (cb : Nat → Nat) : Nat → Nat → Nat
  | 0 => cb
  | n + 1 => fun k => rtC w h cb n (turI (rtW w h n) (rtW h w n) k)
theorem rtW_s (w h n : Nat) : rtW w h (n + 1) = rtW h w n := by
  unfold rtW
  rcases Nat.mod_two_eq_zero_or_one n with z | z
  · rw [if_neg (by omega), if_pos z]
  · rw [if_pos (by omega), if_neg (by omega)]
theorem rtW_in {w h n : Nat} (hw : 0 < w ∧ w ≤ 16) (hh : 0 < h ∧ h ≤ 16) : 0 < rtW w h n ∧ rtW w h n ≤ 16 := by
  unfold rtW
  split
  · exact hw
  · exact hh
def afC (mir : Bool) (w : Nat) (col : Nat → Nat) : Nat → Nat := if mir = true then fun k => col (mirI w k) else col
def aftB (q : Nat → Int32) (f g : Nat) (mir : Bool) (n : Nat) : Bool :=
  decide (rtW (wdF q f) (htF q f) n = wdF q g ∧ rtW (htF q f) (wdF q f) n = htF q g) && eqB (rtC (wdF q f) (htF q f) (afC mir (wdF q f) (clF q f)) n) (clF q g) (rtW (wdF q f) (htF q f) n * rtW (htF q f) (wdF q f) n)
