/-! pure words of the small rows -/
theorem arrV_congr {cA : ClassId} {n : Nat} {f f' : Nat → Value} (h : ∀ j, j < n → f j = f' j) : arrV cA n f = arrV cA n f' := by
  unfold arrV
  congr 1
  apply Array.ext
  · simp
  · intro i h1 h2
    simp at h1 h2 ⊢
    exact h i h1
theorem at_.eqI {g : GG} {H : Heap} {a n : Nat} {f f' : Nat → Int32} (h : at_ g H a (eI g n f)) (he : ∀ j, j < n → f j = f' j) : at_ g H a (eI g n f') := by
  show H[a]? = some (vp_cell _ _)
  rw [vp_cell_i, ← arrV_congr (f := fun j => .int (f j)) (fun j hj => by rw [he j hj])]
  exact h
theorem at_.eqB {g : GG} {H : Heap} {a n : Nat} {f f' : Nat → Int32} (h : at_ g H a (eB g n f)) (he : ∀ j, j < n → f j = f' j) : at_ g H a (eB g n f') := by
  show H[a]? = some (vp_cell _ _)
  rw [vp_cell_i, ← arrV_congr (f := fun j => .int (f j)) (fun j hj => by rw [he j hj])]
  exact h
theorem at_.eqZ {g : GG} {H : Heap} {a n : Nat} {f f' : Nat → Int32} (h : at_ g H a (eZ g n f)) (he : ∀ j, j < n → f j = f' j) : at_ g H a (eZ g n f') := by
  show H[a]? = some (vp_cell _ _)
  rw [vp_cell_i, ← arrV_congr (f := fun j => .int (f j)) (fun j hj => by rw [he j hj])]
  exact h
theorem at_.eqQ {g : GG} {k : Nat} {H : Heap} {a n : Nat} {f f' : Nat → Option Nat} (h : at_ g H a (eQ g k n f)) (he : ∀ j, j < n → f j = f' j) : at_ g H a (eQ g k n f') := by
  show H[a]? = some (vp_cell _ _)
  rw [vp_cell_q, ← arrV_congr (f := fun j => va_rf (f j)) (fun j hj => by rw [he j hj])]
  exact h
/-- f up to i, h from there on -/
def lowOf {α : Type} (f h : Nat → α) (i : Nat) : Nat → α := fun j => if j < i then f j else h j
theorem lowOf_0 {α : Type} (f h : Nat → α) : lowOf f h 0 = h := by funext j; simp [lowOf]
theorem lowOf_up (f h : Nat → Int32) (i : Nat) : upd (lowOf f h i) i (f i) = lowOf f h (i + 1) := by
  funext j
  by_cases q : j = i
  · subst q; simp [upd, lowOf]
  · by_cases q2 : j < i
    · simp [upd, lowOf, q, q2, Nat.lt_succ_of_lt q2]
    · have : ¬ j < i + 1 := by omega
      simp [upd, lowOf, q, q2, this]
theorem lowOf_all {α : Type} (f h : Nat → α) {n j : Nat} (hj : j < n) : lowOf f h n j = f j := by simp [lowOf, hj]
theorem sum_up (f : Nat → Int32) (i : Nat) : bx_sum f i + f i = bx_sum f (i + 1) := rfl
