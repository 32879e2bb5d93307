/-! the text, read: one account for both sides -/
/-- a block: its width, height and content -/
abbrev PBl : Type := Nat × Nat × (Nat → Nat)
def befS (sg : Nat) : Bool := decide (¬ sg = 40 ∧ ¬ sg = 91)
/-- a sign before a block: what it makes of it; none: too wide -/
def applS (sg : Nat) (b : PBl) : Option PBl :=
  if sg = 60 then some (b.1, b.2.1, fun k => b.2.2 (mirI b.1 k))
  else if sg = 94 then some (b.2.1, b.1, fun k => b.2.2 (turI b.1 b.2.1 k))
  else if (sg - 48) * b.1 ≤ 16 then some ((sg - 48) * b.1, b.2.1, fun k => b.2.2 (copI b.1 ((sg - 48) * b.1) k)) else none
/-- the signs that stand before an ended block are done, the innermost first: what stays open, the block, its place, and whether all went well -/
def popS : List PIt → PBl → Nat → List PIt × PBl × Nat × Bool
  | [], b, pl => ([], b, pl, true)
  | it :: rest, b, pl =>
    if befS it.1 = true then
      match applS it.1 b with
      | none => (it :: rest, b, it.2.1, false)
      | some b2 => popS rest b2 it.2.1
    else (it :: rest, b, pl, true)
/-- a block more in an open item; none: it doesn't fit -/
def joinS (it : PIt) (b : PBl) : Option PIt :=
  if it.1 = 40 then
    if (it.2.2.1 = 0 ∨ b.2.1 = it.2.2.2.1) ∧ it.2.2.1 + b.1 ≤ 16 then some (it.1, it.2.1, it.2.2.1 + b.1, b.2.1, joA it.2.2.1 b.1 it.2.2.2.2 b.2.2) else none
  else
    if (it.2.2.1 = 0 ∨ b.1 = it.2.2.1) ∧ it.2.2.2.1 + b.2.1 ≤ 16 then some (it.1, it.2.1, b.1, it.2.2.2.1 + b.2.1, joB it.2.2.1 it.2.2.2.1 b.1 it.2.2.2.2 b.2.2) else none
/-- a block is there, from 1 to 16 each way, of the six colours -/
def PBl.ok (b : PBl) : Prop := 0 < b.1 ∧ b.1 ≤ 16 ∧ 0 < b.2.1 ∧ b.2.1 ≤ 16 ∧ ∀ k, k < b.1 * b.2.1 → b.2.2 k < 6
theorem applS_ok {sg : Nat} {b b2 : PBl} (hb : b.ok) (hs : sg = 60 ∨ sg = 94 ∨ (50 ≤ sg ∧ sg ≤ 57)) (h : applS sg b = some b2) : b2.ok := by
  obtain ⟨h1, h2, h3, h4, h5⟩ := hb
  unfold applS at h
  by_cases z1 : sg = 60
  · rw [if_pos z1] at h
    cases h
    exact ⟨h1, h2, h3, h4, fun k hk => h5 _ (mirI_lt hk)⟩
  · rw [if_neg z1] at h
    by_cases z2 : sg = 94
    · rw [if_pos z2] at h
      cases h
      exact ⟨h3, h4, h1, h2, fun k hk => h5 _ (turI_lt (by rw [Nat.mul_comm]; exact hk))⟩
    · rw [if_neg z2] at h
      by_cases z3 : (sg - 48) * b.1 ≤ 16
      · rw [if_pos z3] at h
        cases h
        have hd : 0 < sg - 48 := by omega
        exact ⟨Nat.mul_pos hd h1, z3, h3, h4, fun k hk => h5 _ (copI_lt h1 hd hk)⟩
      · rw [if_neg z3] at h
        cases h
theorem layI_in {z : Nat → Int32} {b : Nat} {J : Nat → Int32} {n k : Nat} (hk : k < n) : layI z b J n (b + k) = J k := by
  unfold layI
  rw [if_pos (by omega), Nat.add_sub_cancel_left]
theorem layI_out {z : Nat → Int32} {b : Nat} {J : Nat → Int32} {n j : Nat} (hj : j < b) : layI z b J n j = z j := if_neg (by omega)
theorem joA_ok {w1 h1 w0 h0 k : Nat} {c b : Nat → Int32} {c1 b0 : Nat → Nat} (hc : ∀ k, k < w1 * h1 → c k = nI (c1 k) ∧ c1 k < 6) (hb : ∀ k, k < w0 * h0 → b k = nI (b0 k) ∧ b0 k < 6) (he : w1 = 0 ∨ h0 = h1) (hk : k < (w1 + w0) * h0) : joA w1 w0 c b k = nI (joA w1 w0 c1 b0 k) ∧ joA w1 w0 c1 b0 k < 6 := by
  have hW : 0 < w1 + w0 := by
    rcases Nat.eq_zero_or_pos (w1 + w0) with z | z
    · rw [z, Nat.zero_mul] at hk; omega
    · exact z
  have hd : k / (w1 + w0) < h0 := Nat.div_lt_of_lt_mul hk
  have hm := Nat.mod_lt k hW
  have a1 := Nat.mul_le_mul_right w1 hd
  have a2 := Nat.mul_le_mul_right w0 hd
  rw [Nat.succ_mul] at a1 a2
  unfold joA
  by_cases z : k % (w1 + w0) < w1
  · rw [if_pos z, if_pos z]
    refine hc _ ?_
    rcases he with z2 | z2
    · omega
    · subst z2
      rw [Nat.mul_comm w1 h0]
      omega
  · rw [if_neg z, if_neg z]
    refine hb _ ?_
    rw [Nat.mul_comm w0 h0]
    omega
theorem joB_ok {w1 h1 w0 h0 k : Nat} {c b : Nat → Int32} {c1 b0 : Nat → Nat} (hc : ∀ k, k < w1 * h1 → c k = nI (c1 k) ∧ c1 k < 6) (hb : ∀ k, k < w0 * h0 → b k = nI (b0 k) ∧ b0 k < 6) (hz : w1 = 0 → h1 = 0) (he : w1 = 0 ∨ w0 = w1) (hk : k < w0 * (h1 + h0)) : joB w1 h1 w0 c b k = nI (joB w1 h1 w0 c1 b0 k) ∧ joB w1 h1 w0 c1 b0 k < 6 := by
  have hW : 0 < w0 := by
    rcases Nat.eq_zero_or_pos w0 with z | z
    · rw [z, Nat.zero_mul] at hk; omega
    · exact z
  have hd : k / w0 < h1 + h0 := Nat.div_lt_of_lt_mul hk
  have hm := Nat.mod_lt k hW
  unfold joB
  by_cases z : k / w0 < h1
  · rw [if_pos z, if_pos z]
    refine hc _ ?_
    have a1 := Nat.mul_le_mul_right w1 z
    rw [Nat.succ_mul] at a1
    rcases he with z2 | z2
    · exact absurd z (by rw [hz z2]; exact Nat.not_lt_zero _)
    · rw [Nat.mul_comm w1 h1]
      omega
  · rw [if_neg z, if_neg z]
    refine hb _ ?_
    have a2 := Nat.mul_le_mul_right w0 (show k / w0 - h1 < h0 by omega)
    rw [Nat.succ_mul] at a2
    rw [Nat.mul_comm w0 h0]
    omega
