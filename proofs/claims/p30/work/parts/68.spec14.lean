/-! the class's rows of the text: what a block that has ended tells -/
/-- from the block f along the ones beside it, m steps, to the one that lies at x: it is j; all that is looked at lies before i -/
def Ins (nx di : Nat → Int32) (i x : Nat) : Nat → Nat → Nat → Prop
  | 0, f, j => f = j ∧ (nx f = -9 ∨ ∃ f2 d2, nx f = nI f2 ∧ f < f2 ∧ f2 < i ∧ di f2 = nI d2 ∧ d2 ≤ 16 ∧ x < d2)
  | m + 1, f, j => ∃ f2 d2, nx f = nI f2 ∧ f < f2 ∧ f2 < i ∧ di f2 = nI d2 ∧ d2 ≤ x ∧ Ins nx di i x m f2 j
theorem Ins.le {nx di : Nat → Int32} {i x j : Nat} : ∀ {m f : Nat}, Ins nx di i x m f j → f + m ≤ j
  | 0, f, h => Nat.le_of_eq h.1
  | m + 1, f, h => by
    obtain ⟨f2, d2, h1, h2, h3, h4, h5, h6⟩ := h
    have := h6.le
    omega
theorem Ins.lt {nx di : Nat → Int32} {i x j : Nat} : ∀ {m f : Nat}, Ins nx di i x m f j → f < i → j < i
  | 0, f, h, hf => h.1 ▸ hf
  | m + 1, f, h, hf => by
    obtain ⟨f2, d2, h1, h2, h3, h4, h5, h6⟩ := h
    exact h6.lt h3
theorem Ins.congr {nx di nx' di' : Nat → Int32} {i x j : Nat} : ∀ {m f : Nat}, Ins nx di i x m f j → f < i → (∀ k, f ≤ k → k < i → nx' k = nx k ∧ di' k = di k) → Ins nx' di' i x m f j
  | 0, f, h, hf, hr => by
    refine ⟨h.1, h.2.elim (fun y => Or.inl ((hr f (Nat.le_refl _) hf).1.trans y)) (fun y => ?_)⟩
    obtain ⟨f2, d2, h1, h2, h3, h4, h5, h6⟩ := y
    exact Or.inr ⟨f2, d2, (hr f (Nat.le_refl _) hf).1.trans h1, h2, h3, (hr f2 (by omega) h3).2.trans h4, h5, h6⟩
  | m + 1, f, h, hf, hr => by
    obtain ⟨f2, d2, h1, h2, h3, h4, h5, h6⟩ := h
    exact ⟨f2, d2, (hr f (Nat.le_refl _) hf).1.trans h1, h2, h3, (hr f2 (by omega) h3).2.trans h4, h5, h6.congr h3 (fun k a b => hr k (by omega) b)⟩
/-- a greater bound -/
theorem Ins.grow {nx di : Nat → Int32} {i i2 x j : Nat} (hi : i ≤ i2) : ∀ {m f : Nat}, Ins nx di i x m f j → Ins nx di i2 x m f j
  | 0, f, h => ⟨h.1, h.2.elim Or.inl (fun y => by
    obtain ⟨f2, d2, h1, h2, h3, h4, h5, h6⟩ := y
    exact Or.inr ⟨f2, d2, h1, h2, Nat.lt_of_lt_of_le h3 hi, h4, h5, h6⟩)⟩
  | m + 1, f, h => by
    obtain ⟨f2, d2, h1, h2, h3, h4, h5, h6⟩ := h
    exact ⟨f2, d2, h1, h2, Nat.lt_of_lt_of_le h3 hi, h4, h5, h6.grow hi⟩
/-- what lies inside an opener e, from f0 on: the content c of width w and height h -/
def InC (D : Nat → Nat → PBl → Prop) (sg : Nat) (nx di : Nat → Int32) (e f0 i w h : Nat) (c : Nat → Nat) : Prop :=
  ∀ x y, x < w → y < h → ∃ m j ij bj dj, Ins nx di i (if sg = 40 then x else y) m f0 j ∧ e < j ∧ ij ≤ i ∧ di j = nI dj ∧ D j ij bj ∧
    (if sg = 40 then dj ≤ x ∧ x - dj < bj.1 ∧ y < bj.2.1 ∧ c (y * w + x) = bj.2.2 (y * bj.1 + (x - dj)) else dj ≤ y ∧ x < bj.1 ∧ y - dj < bj.2.1 ∧ c (y * w + x) = bj.2.2 ((y - dj) * bj.1 + x))
/-- the block from e up to i, ended, is b: k bounds how deep it goes -/
def Den (tc : Nat → Nat) (fi nx di wd ht : Nat → Int32) : Nat → Nat → Nat → PBl → Prop
  | 0, _, _, _ => False
  | k + 1, e, i, b => e < i ∧ i ≤ 60 ∧ wd e = nI b.1 ∧ ht e = nI b.2.1 ∧ b.ok ∧
    ((97 ≤ tc e ∧ tc e ≤ 102 ∧ b = (1, 1, fun _ => tc e - 97)) ∨
     ((tc e = 60 ∨ tc e = 94 ∨ (50 ≤ tc e ∧ tc e ≤ 57)) ∧ ∃ f0 b1, fi e = nI f0 ∧ e < f0 ∧ f0 < i ∧ Den tc fi nx di wd ht k f0 i b1 ∧ applS (tc e) b1 = some b) ∨
     ((tc e = 40 ∨ tc e = 91) ∧ ∃ f0, fi e = nI f0 ∧ e < f0 ∧ f0 < i ∧ InC (Den tc fi nx di wd ht k) (tc e) nx di e f0 i b.1 b.2.1 b.2.2))
section DENS
variable {tc : Nat → Nat} {fi nx di wd ht fi' nx' di' wd' ht' : Nat → Int32}
theorem InC.mono {D D' : Nat → Nat → PBl → Prop} {sg e f0 i w h : Nat} {c : Nat → Nat} (hI : InC D sg nx di e f0 i w h c) (hD : ∀ j ij bj, e < j → ij ≤ i → D j ij bj → D' j ij bj) : InC D' sg nx di e f0 i w h c := fun x y hx hy => by
  obtain ⟨m, j, ij, bj, dj, h1, h2, h3, h4, h5, h6⟩ := hI x y hx hy
  exact ⟨m, j, ij, bj, dj, h1, h2, h3, h4, hD j ij bj h2 h3 h5, h6⟩
theorem Den.mono : ∀ {k e i : Nat} {b : PBl}, Den tc fi nx di wd ht k e i b → Den tc fi nx di wd ht (k + 1) e i b
  | 0, _, _, _, h => h.elim
  | k + 1, e, i, b, h => by
    obtain ⟨h1, h2, h3, h4, h5, h6⟩ := h
    refine ⟨h1, h2, h3, h4, h5, h6.elim Or.inl (fun y => Or.inr (y.elim (fun y => Or.inl ?_) (fun y => Or.inr ?_)))⟩
    · obtain ⟨a1, f0, b1, a2, a3, a4, a5, a6⟩ := y
      exact ⟨a1, f0, b1, a2, a3, a4, a5.mono, a6⟩
    · obtain ⟨a1, f0, a2, a3, a4, a5⟩ := y
      exact ⟨a1, f0, a2, a3, a4, a5.mono (fun j ij bj _ _ h9 => h9.mono)⟩
theorem Den.upto {k k2 e i : Nat} {b : PBl} (h : Den tc fi nx di wd ht k e i b) (hk : k ≤ k2) : Den tc fi nx di wd ht k2 e i b := by
  induction k2 with
  | zero => rw [show k = 0 by omega] at h; exact h
  | succ n ih =>
    by_cases e9 : k = n + 1
    · rw [← e9]; exact h
    · exact (ih (by omega)).mono
/-- other rows that are the same from e up to i (beside and distance: behind e) -/
theorem Den.congr : ∀ {k e i : Nat} {b : PBl}, Den tc fi nx di wd ht k e i b → (∀ j, e ≤ j → j < i → wd' j = wd j ∧ ht' j = ht j ∧ fi' j = fi j) → (∀ j, e < j → j < i → nx' j = nx j ∧ di' j = di j) → Den tc fi' nx' di' wd' ht' k e i b
  | 0, _, _, _, h, _, _ => h.elim
  | k + 1, e, i, b, h, hr, hr2 => by
    obtain ⟨h1, h2, h3, h4, h5, h6⟩ := h
    obtain ⟨r1, r2, r3⟩ := hr e (Nat.le_refl _) h1
    refine ⟨h1, h2, r1.trans h3, r2.trans h4, h5, h6.elim Or.inl (fun y => Or.inr (y.elim (fun y => Or.inl ?_) (fun y => Or.inr ?_)))⟩
    · obtain ⟨a1, f0, b1, a2, a3, a4, a5, a6⟩ := y
      exact ⟨a1, f0, b1, r3.trans a2, a3, a4, a5.congr (fun j x1 x2 => hr j (by omega) x2) (fun j x1 x2 => hr2 j (by omega) x2), a6⟩
    · obtain ⟨a1, f0, a2, a3, a4, a5⟩ := y
      refine ⟨a1, f0, r3.trans a2, a3, a4, fun x y hx hy => ?_⟩
      obtain ⟨m, j, ij, bj, dj, c1, c2, c3, c4, c5, c6⟩ := a5 x y hx hy
      have hji : j < i := c1.lt a4
      exact ⟨m, j, ij, bj, dj, c1.congr a4 (fun k x1 x2 => hr2 k (by omega) x2), c2, c3, (hr2 j c2 hji).2.trans c4, c5.congr (fun j2 x1 x2 => hr j2 (by omega) (by omega)) (fun j2 x1 x2 => hr2 j2 (by omega) (by omega)), c6⟩
end DENS
