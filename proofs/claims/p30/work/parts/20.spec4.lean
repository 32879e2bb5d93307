/-! commands of scripts, evenings -/
def actB (q : Nat → Int32) (d1 d2 d3 d4 : Nat) : Bool := match d1 with
  | 1 => decide (d2 < 3 ∧ 0 < 10 * d3 + d4 ∧ 0 < szF q d2 ∧ 0 < nmQ q)
  | 2 => decide (d2 < nmQ q ∧ d3 < 6 ∧ 0 < d4)
  | 3 => decide (d2 < 3 ∧ 0 < szF q d2 ∧ 10 * d3 + d4 = 0)
  | 4 => decide (d2 < 3 ∧ 0 < szF q d2 ∧ swF q d2 = szF q d2)
  | 5 => decide (d2 + (10 * d3 + d4) = 0)
  | _ => decide (d2 < 3 ∧ d3 < 6 ∧ d4 < 6 ∧ 0 < szF q d2 ∧ swF q d2 = 0)
def actG (q : Nat → Int32) (d1 d2 d3 d4 : Nat) : Nat → Int32 := match d1 with
  | 1 => sewE d2 (10 * d3 + d4) q
  | 2 => givQ q d2 d3 (nI d4)
  | 3 => tapQ q d2
  | 4 => rafQ q d2 (10 * d3 + d4)
  | 5 => retO q 6
  | _ => recQ q d2 d3 d4
def actQ (q : Nat → Int32) (d1 d2 d3 d4 : Nat) : Nat → Int32 := if actB q d1 d2 d3 d4 = true then actG q d1 d2 d3 d4 else q
theorem actQ_f {q : Nat → Int32} {d1 d2 d3 d4 : Nat} (h : actB q d1 d2 d3 d4 = false) : actQ q d1 d2 d3 d4 = q := by
  unfold actQ
  rw [if_neg (by rw [h]; decide)]
theorem actQ_t {q : Nat → Int32} {d1 d2 d3 d4 : Nat} (h : actB q d1 d2 d3 d4 = true) : actQ q d1 d2 d3 d4 = actG q d1 d2 d3 d4 := by
  unfold actQ
  rw [if_pos h]
theorem actQ_WF {q : Nat → Int32} {d1 d2 d3 d4 : Nat} (h : WF q) (h1 : 0 < d1) (h6 : d1 < 7) : WF (actQ q d1 d2 d3 d4) := by
  have hnm := h.2.2.1
  cases hb : actB q d1 d2 d3 d4 with
  | false => rw [actQ_f hb]; exact h
  | true =>
    rw [actQ_t hb]
    rcases (show d1 = 1 ∨ d1 = 2 ∨ d1 = 3 ∨ d1 = 4 ∨ d1 = 5 ∨ d1 = 6 by omega) with rfl | rfl | rfl | rfl | rfl | rfl
    · have z := of_decide_eq_true hb
      exact sewE_WF z.1 h z.2.2.2
    · have z := of_decide_eq_true hb
      exact givQ_WF h (by omega) z.2.1
    · have z := of_decide_eq_true hb
      exact tapQ_WF z.1 h
    · have z := of_decide_eq_true hb
      exact rafQ_WF z.1 h
    · exact retO_WF h
    · have z := of_decide_eq_true hb
      exact recQ_WF h z.1 z.2.1 z.2.2.1
def cmdA (g : Nat) : Bool := decide (1 ≤ g / 1000 ∧ g / 1000 ≤ 6)
def cmdB (q : Nat → Int32) (g : Nat) : Bool :=
  if cmdA g = true then actB q (g / 1000) (g / 100 % 10) (g % 100 / 10) (g % 100 % 10)
  else if g / 1000 = 7 then decide (g / 100 % 10 < 3 ∧ g % 100 ≤ swF q (g / 100 % 10))
  else if g / 1000 = 8 then decide (g / 100 % 10 < 6 ∧ ¬ q (50 + g / 100 % 10) < nI (g % 100))
  else decide (g / 1000 = 9 ∧ g / 100 % 10 < nmQ q ∧ ¬ q (10 + g / 100 % 10) < nI (g % 100))
def cmdQ (q : Nat → Int32) (g : Nat) : Nat → Int32 := if cmdA g = true then actQ q (g / 1000) (g / 100 % 10) (g % 100 / 10) (g % 100 % 10) else q
theorem cmdQ_WF {q : Nat → Int32} {g : Nat} (h : WF q) : WF (cmdQ q g) := by
  unfold cmdQ
  split
  · rename_i z
    have y := of_decide_eq_true z
    exact actQ_WF h (by omega) (by omega)
  · exact h
theorem inL_16 {k : Nat} (hk : k < 2147483648) : inL (nI k).toInt64 1 6 = decide (1 ≤ k ∧ k ≤ 6) := by
  unfold inL
  rw [i32_l, nI_toInt' hk, show (1 : Int64).toInt = 1 from by decide, show (6 : Int64).toInt = 6 from by decide]
  congr 1
  simp only [eq_iff_iff]
  omega
/-- an evening -/
def evF (r : Nat) : Nat := r / 64 % 3
def evQ (q : Nat → Int32) (r : Nat) : Nat → Int32 :=
  if nmQ q = 0 then q
  else if r % 4 = 0 then givQ q (r / 4 % nmQ q) (r / 512 % 6) (nI (1 + r / 32 % 9))
  else if szF q (evF r) = 0 then q
  else if 0 < szF (sewE (evF r) (1 + r / 4 % 9) q) (evF r) ∧ swF (sewE (evF r) (1 + r / 4 % 9) q) (evF r) = szF (sewE (evF r) (1 + r / 4 % 9) q) (evF r) then rafQ (sewE (evF r) (1 + r / 4 % 9) q) (evF r) 100
  else sewE (evF r) (1 + r / 4 % 9) q
def evS (q : Nat → Int32) (r : Nat) : Nat :=
  if nmQ q = 0 then 0 else if r % 4 = 0 then 0 else if szF q (evF r) = 0 then 0 else sewN (evF r) (tnQ q) (1 + r / 4 % 9) q
def evA (q : Nat → Int32) (r : Nat) : Nat :=
  if nmQ q = 0 then 0 else if r % 4 = 0 then 0 else if szF q (evF r) = 0 then 0
  else if 0 < szF (sewE (evF r) (1 + r / 4 % 9) q) (evF r) ∧ swF (sewE (evF r) (1 + r / 4 % 9) q) (evF r) = szF (sewE (evF r) (1 + r / 4 % 9) q) (evF r) then 1 else 0
theorem evQ_WF {q : Nat → Int32} {r : Nat} (h : WF q) : WF (evQ q r) := by
  have hnm := h.2.2.1
  have hf : evF r < 3 := Nat.mod_lt _ (by omega)
  unfold evQ
  split
  · exact h
  · split
    · have := Nat.mod_lt (r / 4) (show 0 < nmQ q by omega)
      exact givQ_WF h (by omega) (Nat.mod_lt _ (by omega))
    · split
      · exact h
      · have h1 : WF (sewE (evF r) (1 + r / 4 % 9) q) := sewE_WF hf h (by omega)
        split
        · exact rafQ_WF hf h1
        · exact h1
theorem sewN_le (f m : Nat) : ∀ (n : Nat) (q : Nat → Int32), sewN f m n q ≤ n := by
  intro n
  induction n with
  | zero => intro q; exact Nat.le_refl _
  | succ n ih =>
    intro q
    show (if sewOk q f = true then _ else _) ≤ _
    split
    · exact Nat.succ_le_succ (ih _)
    · omega
theorem evS_le (q : Nat → Int32) (r : Nat) : evS q r ≤ 9 := by
  unfold evS
  split
  · omega
  · split
    · omega
    · split
      · omega
      · have h1 := sewN_le (evF r) (tnQ q) (1 + r / 4 % 9) q
        omega
theorem cmd6 {q : Nat → Int32} {g : Nat} (h : cmdA g = true) : cmdB q g = actB q (g / 1000) (g / 100 % 10) (g % 100 / 10) (g % 100 % 10) ∧ cmdQ q g = actQ q (g / 1000) (g / 100 % 10) (g % 100 / 10) (g % 100 % 10) := ⟨if_pos h, if_pos h⟩
theorem cmdQ_f {q : Nat → Int32} {g : Nat} (h : cmdA g = false) : cmdQ q g = q := if_neg (by rw [h]; decide)
theorem cmd7 {q : Nat → Int32} {g : Nat} (h : cmdA g = false) (h7 : g / 1000 = 7) : cmdB q g = decide (g / 100 % 10 < 3 ∧ g % 100 ≤ swF q (g / 100 % 10)) := by
  unfold cmdB
  rw [if_neg (by rw [h]; decide), if_pos h7]
theorem cmd8 {q : Nat → Int32} {g : Nat} (h : cmdA g = false) (h7 : ¬ g / 1000 = 7) (h8 : g / 1000 = 8) : cmdB q g = decide (g / 100 % 10 < 6 ∧ ¬ q (50 + g / 100 % 10) < nI (g % 100)) := by
  unfold cmdB
  rw [if_neg (by rw [h]; decide), if_neg h7, if_pos h8]
theorem cmd9 {q : Nat → Int32} {g : Nat} (h : cmdA g = false) (h7 : ¬ g / 1000 = 7) (h8 : ¬ g / 1000 = 8) : cmdB q g = decide (g / 1000 = 9 ∧ g / 100 % 10 < nmQ q ∧ ¬ q (10 + g / 100 % 10) < nI (g % 100)) := by
  unfold cmdB
  rw [if_neg (by rw [h]; decide), if_neg h7, if_neg h8]
