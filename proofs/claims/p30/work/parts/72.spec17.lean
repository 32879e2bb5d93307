/-! blocks end, on the class's rows -/
section DENC
variable {tc : Nat → Nat} {fi la nx di wd ht op fi' la' nx' di' wd' ht' op' : Nat → Int32}
theorem Den.letter {e : Nat} (h : 97 ≤ tc e ∧ tc e ≤ 102) (he : e < 60) (hw : wd e = nI 1) (hh : ht e = nI 1) : Den tc fi nx di wd ht (60 - e) e (e + 1) (1, 1, fun _ => tc e - 97) := by
  rw [show 60 - e = (59 - e) + 1 by omega]
  exact ⟨by omega, by omega, hw, hh, let_ok h, Or.inl ⟨h.1, h.2, rfl⟩⟩
theorem Den.pre {e f0 i : Nat} {b1 b : PBl} (hs : tc e = 60 ∨ tc e = 94 ∨ (50 ≤ tc e ∧ tc e ≤ 57)) (hf : fi e = nI f0) (h1 : e < f0) (hD : Den tc fi nx di wd ht (60 - f0) f0 i b1) (ha : applS (tc e) b1 = some b) (hw : wd e = nI b.1) (hh : ht e = nI b.2.1) : Den tc fi nx di wd ht (60 - e) e i b := by
  have h9 : f0 < i ∧ i ≤ 60 ∧ b1.ok := by
    revert hD
    cases h9 : 60 - f0 with
    | zero => exact fun y => y.elim
    | succ k => exact fun y => ⟨y.1, y.2.1, y.2.2.2.2.1⟩
  rw [show 60 - e = (59 - e) + 1 by omega]
  exact ⟨by omega, h9.2.1, hw, hh, applS_ok h9.2.2 hs ha, Or.inr (Or.inl ⟨hs, f0, b1, hf, h1, h9.1, hD.upto (by omega), ha⟩)⟩
theorem OpI.close {it : PIt} {i i2 : Nat} (hO : OpI tc fi la nx di wd ht it i) (hI : ItOk it) (h0 : 0 < it.2.2.1) (hi : i ≤ i2) (h60 : i2 ≤ 60) : Den tc fi nx di wd ht (60 - it.2.1) it.2.1 i2 (it.2.2.1, it.2.2.2.1, it.2.2.2.2) := by
  obtain ⟨o1, o2, o3, o4, o5, o6⟩ := hO
  obtain ⟨i1, i2', i3, i4, i5, i6, i7⟩ := hI
  rcases o6 with y | ⟨hsg, hw, f0, l9, y1, y2, y3, y4, y5, y6, y7, y8⟩
  · omega
  · rw [show 60 - it.2.1 = (59 - it.2.1) + 1 by omega]
    refine ⟨by omega, h60, o4, o5, ⟨h0, i3, i6 h0, i4, i7⟩, Or.inr (Or.inr ⟨by rw [o1]; exact hsg, f0, y1, y3, by omega, ?_⟩)⟩
    rw [o1]
    intro x y hx hy
    obtain ⟨m, j, ij, bj, dj, c1, c2, c3, c4, c5, c6⟩ := y8 x y hx hy
    exact ⟨m, j, ij, bj, dj, c1.grow hi, c2, by omega, c4, c5.1.upto (by omega), c6⟩
theorem OpI.congr {it : PIt} {i i2 : Nat} (hO : OpI tc fi la nx di wd ht it i) (hi : i ≤ i2) (h60 : i2 ≤ 60) (hr : ∀ j, it.2.1 ≤ j → j < i → wd' j = wd j ∧ ht' j = ht j ∧ fi' j = fi j ∧ la' j = la j) (hr2 : ∀ j, it.2.1 < j → j < i → nx' j = nx j ∧ di' j = di j) : OpI tc fi' la' nx' di' wd' ht' it i2 := by
  obtain ⟨o1, o2, o3, o4, o5, o6⟩ := hO
  obtain ⟨r1, r2, r3, r4⟩ := hr it.2.1 (Nat.le_refl _) o2
  refine ⟨o1, by omega, h60, r1.trans o4, r2.trans o5, ?_⟩
  rcases o6 with y | ⟨hsg, hw, f0, l9, y1, y2, y3, y4, y5, y6, y7, y8⟩
  · exact Or.inl ⟨r3.trans y.1, y.2⟩
  · refine Or.inr ⟨hsg, hw, f0, l9, r3.trans y1, r4.trans y2, y3, y4, by omega, (hr2 l9 (by omega) y5).1.trans y6, fun x hx => ?_, fun x y hx hy => ?_⟩
    · obtain ⟨m, hm⟩ := y7 x hx
      exact ⟨m, hm.congr hi (by omega) (fun k a b => ⟨Or.inl (hr2 k (by omega) b).1, (hr2 k (by omega) b).2⟩) o3⟩
    · obtain ⟨m, j, ij, bj, dj, c1, c2, c3, c4, c5, c6⟩ := y8 x y hx hy
      have hji : j < i := c1.lt (by omega)
      exact ⟨m, j, ij, bj, dj, (c1.congr (by omega) (fun k a b => hr2 k (by omega) b)).grow hi, c2, by omega, (hr2 j c2 hji).2.trans c4, ⟨c5.1.congr (fun k a b => ⟨(hr k (by omega) (by omega)).1, (hr k (by omega) (by omega)).2.1, (hr k (by omega) (by omega)).2.2.1⟩) (fun k a b => hr2 k (by omega) (by omega)), c5.2⟩, c6⟩
theorem OpS.congr : ∀ {L : List PIt} {i i2 : Nat}, OpS tc fi la nx di wd ht op L i → i ≤ i2 → i2 ≤ 60 → (∀ j, j < i → wd' j = wd j ∧ ht' j = ht j ∧ fi' j = fi j ∧ la' j = la j ∧ nx' j = nx j ∧ di' j = di j) → (∀ k, k < L.length → op' k = op k) → OpS tc fi' la' nx' di' wd' ht' op' L i2
  | [], _, _, _, _, _, _, _ => trivial
  | it :: rest, i, i2, h, hi, h60, hr, ho => by
    obtain ⟨a1, a2, a3⟩ := h
    have hlt := a2.2.1
    exact ⟨(ho rest.length (Nat.lt_succ_self _)).trans a1, a2.congr hi h60 (fun j x1 x2 => ⟨(hr j x2).1, (hr j x2).2.1, (hr j x2).2.2.1, (hr j x2).2.2.2.1⟩) (fun j x1 x2 => (hr j x2).2.2.2.2), a3.congr (Nat.le_refl _) (by omega) (fun j x => hr j (by omega)) (fun k hk => ho k (Nat.lt_succ_of_lt hk))⟩
/-- an item is opened at i -/
theorem OpI.push {i c : Nat} (hi : i < 60) (hc : tc i = c) (hw : wd i = nI 0) (hh : ht i = nI 0) (hf : fi i = -9) : OpI tc fi la nx di wd ht (c, i, 0, 0, fun _ => 0) (i + 1) := ⟨hc, Nat.lt_succ_self _, hi, hw, hh, Or.inl ⟨hf, rfl, rfl⟩⟩
end DENC
