/-! the class's rows of the text: what a block that is open tells -/
/-- from f along the ones beside it, m steps, none farther than x: one comes to j -/
def Wk (nx di : Nat → Int32) (i x : Nat) : Nat → Nat → Nat → Prop
  | 0, f, j => f = j
  | m + 1, f, j => ∃ f2 d2, nx f = nI f2 ∧ f < f2 ∧ f2 < i ∧ di f2 = nI d2 ∧ d2 ≤ x ∧ Wk nx di i x m f2 j
theorem nI_ne9 {n : Nat} (h : n < 60) : ¬ nI n = -9 := fun e => by
  have h1 := congrArg Int32.toInt e
  rw [nI_toInt (by omega)] at h1
  have h2 : (-9 : Int32).toInt = -9 := by decide
  omega
section WKS
variable {nx di nx' di' : Nat → Int32} {i i2 x : Nat}
theorem Wk.ins {j : Nat} : ∀ {m f : Nat}, Wk nx di i x m f j → nx j = -9 → Ins nx di i x m f j
  | 0, f, h, hj => ⟨h, Or.inl (by rw [show f = j from h]; exact hj)⟩
  | m + 1, f, h, hj => by
    obtain ⟨f2, d2, h1, h2, h3, h4, h5, h6⟩ := h
    exact ⟨f2, d2, h1, h2, h3, h4, h5, h6.ins hj⟩
theorem Wk.le {j : Nat} : ∀ {m f : Nat}, Wk nx di i x m f j → f + m ≤ j
  | 0, f, h => Nat.le_of_eq h
  | m + 1, f, h => by
    obtain ⟨f2, d2, h1, h2, h3, h4, h5, h6⟩ := h
    have := h6.le
    omega
theorem Wk.snoc {j j0 d0 : Nat} (hj : nx j = nI j0) (hjj : j < j0) (hi : j0 < i) (hd : di j0 = nI d0) (hx : d0 ≤ x) : ∀ {m f : Nat}, Wk nx di i x m f j → Wk nx di i x (m + 1) f j0
  | 0, f, h => by
    rw [show f = j from h]
    exact ⟨j0, d0, hj, hjj, hi, hd, hx, rfl⟩
  | m + 1, f, h => by
    obtain ⟨f2, d2, h1, h2, h3, h4, h5, h6⟩ := h
    exact ⟨f2, d2, h1, h2, h3, h4, h5, h6.snoc hj hjj hi hd hx⟩
theorem Wk.congr {j : Nat} (hi : i ≤ i2) : ∀ {m f : Nat}, Wk nx di i x m f j → f < i → (∀ k, f ≤ k → k < i → (nx' k = nx k ∨ nx k = -9) ∧ di' k = di k) → i ≤ 60 → Wk nx' di' i2 x m f j
  | 0, f, h, _, _, _ => h
  | m + 1, f, h, hf, hr, h60 => by
    obtain ⟨f2, d2, h1, h2, h3, h4, h5, h6⟩ := h
    refine ⟨f2, d2, ?_, h2, Nat.lt_of_lt_of_le h3 hi, (hr f2 (by omega) h3).2.trans h4, h5, h6.congr hi h3 (fun k a b => hr k (by omega) b) h60⟩
    rcases (hr f (Nat.le_refl _) hf).1 with y | y
    · exact y.trans h1
    · exact absurd (h1.symm.trans y) (nI_ne9 (by omega))
/-- a block more at the end of the row: what lies before it is found as before -/
theorem Ins.ext {l0 j0 d0 j : Nat} (h60 : i ≤ 60) (hi : i ≤ j0) (hi2 : j0 < i2) (hd : d0 ≤ 16) (hx : x < d0) (hl : nx l0 = -9) (hl2 : l0 < i) : ∀ {m f : Nat}, Ins nx di i x m f j → f < i → Ins (upd nx l0 (nI j0)) (upd di j0 (nI d0)) i2 x m f j
  | 0, f, h, hf => by
    obtain ⟨rfl, h2⟩ := h
    refine ⟨rfl, ?_⟩
    by_cases e : f = l0
    · subst e
      exact Or.inr ⟨j0, d0, upd_s (α := Nat), by omega, hi2, upd_s (α := Nat), hd, hx⟩
    · rcases h2 with y | y
      · exact Or.inl ((upd_n e).trans y)
      · obtain ⟨f2, d2, h1, h2, h3, h4, h5, h6⟩ := y
        exact Or.inr ⟨f2, d2, (upd_n e).trans h1, h2, by omega, (upd_n (by omega)).trans h4, h5, h6⟩
  | m + 1, f, h, hf => by
    obtain ⟨f2, d2, h1, h2, h3, h4, h5, h6⟩ := h
    have e : f ≠ l0 := fun e => by
      rw [e, hl] at h1
      exact nI_ne9 (by omega) h1.symm
    exact ⟨f2, d2, (upd_n e).trans h1, h2, by omega, (upd_n (by omega)).trans h4, h5, h6.ext h60 hi hi2 hd hx hl hl2 h3⟩
end WKS
theorem joA_l {w1 w0 x y : Nat} {c b : Nat → Nat} (hx : x < w1) : joA w1 w0 c b (y * (w1 + w0) + x) = c (y * w1 + x) := by
  have h := lin_mod (w := w1 + w0) (y := y) (show x < w1 + w0 by omega)
  unfold joA
  rw [h.1, h.2, if_pos hx]
theorem joA_r {w1 w0 x y : Nat} {c b : Nat → Nat} (hx : x < w1 + w0) (h1 : w1 ≤ x) : joA w1 w0 c b (y * (w1 + w0) + x) = b (y * w0 + (x - w1)) := by
  have h := lin_mod (w := w1 + w0) (y := y) hx
  unfold joA
  rw [h.1, h.2, if_neg (by omega), Nat.add_sub_assoc h1]
theorem joB_t {w1 h1 w0 x y : Nat} {c b : Nat → Nat} (hx : x < w0) (hy : y < h1) : joB w1 h1 w0 c b (y * w0 + x) = c (y * w1 + x) := by
  have h := lin_mod (w := w0) (y := y) hx
  unfold joB
  rw [h.1, h.2, if_pos hy]
theorem joB_b {w1 h1 w0 x y : Nat} {c b : Nat → Nat} (hx : x < w0) (hy : h1 ≤ y) : joB w1 h1 w0 c b (y * w0 + x) = b ((y - h1) * w0 + x) := by
  have h := lin_mod (w := w0) (y := y) hx
  unfold joB
  rw [h.1, h.2, if_neg (by omega)]
/-- an open item, all that lies in it before i -/
def OpI (tc : Nat → Nat) (fi la nx di wd ht : Nat → Int32) (it : PIt) (i : Nat) : Prop :=
  tc it.2.1 = it.1 ∧ it.2.1 < i ∧ i ≤ 60 ∧ wd it.2.1 = nI it.2.2.1 ∧ ht it.2.1 = nI it.2.2.2.1 ∧
    ((fi it.2.1 = -9 ∧ it.2.2.1 = 0 ∧ it.2.2.2.1 = 0) ∨
     ((it.1 = 40 ∨ it.1 = 91) ∧ 0 < it.2.2.1 ∧ ∃ f0 l0, fi it.2.1 = nI f0 ∧ la it.2.1 = nI l0 ∧ it.2.1 < f0 ∧ f0 ≤ l0 ∧ l0 < i ∧ nx l0 = -9 ∧
      (∀ x, (if it.1 = 40 then it.2.2.1 else it.2.2.2.1) ≤ x → ∃ m, Wk nx di i x m f0 l0) ∧
      InC (fun j ij bj => Den tc fi nx di wd ht (60 - j) j ij bj ∧ (j = l0 ∨ ij ≤ l0)) it.1 nx di it.2.1 f0 i it.2.2.1 it.2.2.2.1 it.2.2.2.2))
/-- what is open, the innermost first -/
def OpS (tc : Nat → Nat) (fi la nx di wd ht op : Nat → Int32) : List PIt → Nat → Prop
  | [], _ => True
  | it :: rest, i => op rest.length = nI it.2.1 ∧ OpI tc fi la nx di wd ht it i ∧ OpS tc fi la nx di wd ht op rest it.2.1
