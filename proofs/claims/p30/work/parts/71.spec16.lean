/-! a block more in an open item, on the class's rows -/
section OPJ
variable {tc : Nat → Nat} {fi la nx di wd ht : Nat → Int32}
/-- the first one -/
theorem OpI.first {it it2 : PIt} {b : PBl} {i j0 i2 : Nat} (hO : OpI tc fi la nx di wd ht it i) (hf : fi it.2.1 = -9) (hsg : it.1 = 40 ∨ it.1 = 91) (hi : i ≤ j0) (hD : Den tc fi nx di wd ht (60 - j0) j0 i2 b) (hnx : nx j0 = -9) (hj : joinS it b = some it2) : OpI tc (upd fi it.2.1 (nI j0)) (upd la it.2.1 (nI j0)) nx (upd di j0 (nI 0)) (upd wd it.2.1 (nI it2.2.2.1)) (upd ht it.2.1 (nI it2.2.2.2.1)) it2 i2 := by
  obtain ⟨sg, e, w1, h1, c1⟩ := it
  obtain ⟨b0, b1, b2⟩ := b
  dsimp only at hO hf hsg ⊢
  obtain ⟨o1, o2, o3, o4, o5, o6⟩ := hO
  dsimp only at o1 o2 o3 o4 o5 o6
  have hz : w1 = 0 ∧ h1 = 0 := by
    rcases o6 with y | y
    · exact y.2
    · obtain ⟨_, _, f0, l0, y1, _, y2, y3, y4, _⟩ := y
      exact absurd (y1.symm.trans hf) (nI_ne9 (by omega))
  obtain ⟨rfl, rfl⟩ := hz
  have hji : j0 < i2 := by
    revert hD
    cases h9 : 60 - j0 with
    | zero => exact fun y => y.elim
    | succ k => exact fun y => y.1
  have hi60 : i2 ≤ 60 := by
    revert hD
    cases h9 : 60 - j0 with
    | zero => exact fun y => y.elim
    | succ k => exact fun y => y.2.1
  have hok : PBl.ok (b0, b1, b2) := by
    revert hD
    cases h9 : 60 - j0 with
    | zero => exact fun y => y.elim
    | succ k => exact fun y => y.2.2.2.2.1
  obtain ⟨k1, k2, k3, k4, k5⟩ := hok
  dsimp only at k1 k2 k3 k4 k5
  have hD2 : Den tc (upd fi e (nI j0)) nx (upd di j0 (nI 0)) (upd wd e (nI it2.2.2.1)) (upd ht e (nI it2.2.2.2.1)) (60 - j0) j0 i2 (b0, b1, b2) := hD.congr (fun j a b => ⟨upd_n (by omega), upd_n (by omega), upd_n (by omega)⟩) (fun j a b => ⟨rfl, upd_n (by omega)⟩)
  unfold joinS at hj
  dsimp only at hj
  by_cases z : sg = 40
  · rw [if_pos z] at hj
    by_cases z2 : (0 = 0 ∨ b1 = 0) ∧ 0 + b0 ≤ 16
    · rw [if_pos z2] at hj
      cases hj
      refine ⟨o1, by dsimp only; omega, hi60, upd_s (α := Nat), upd_s (α := Nat), Or.inr ⟨hsg, by dsimp only; omega, j0, j0, upd_s (α := Nat), upd_s (α := Nat), by dsimp only; omega, Nat.le_refl _, hji, hnx, fun x hx => ⟨0, rfl⟩, fun x y hx hy => ?_⟩⟩
      dsimp only at hx hy
      refine ⟨0, j0, i2, (b0, b1, b2), 0, ⟨rfl, Or.inl hnx⟩, by dsimp only; omega, Nat.le_refl _, upd_s (α := Nat), ⟨hD2, Or.inl rfl⟩, ?_⟩
      rw [if_pos z]
      exact ⟨by omega, by dsimp only; omega, hy, by show joA 0 b0 c1 b2 (y * (0 + b0) + x) = b2 (y * b0 + (x - 0)); exact joA_r hx (Nat.zero_le _)⟩
    · rw [if_neg z2] at hj
      cases hj
  · rw [if_neg z] at hj
    by_cases z2 : (0 = 0 ∨ b0 = 0) ∧ 0 + b1 ≤ 16
    · rw [if_pos z2] at hj
      cases hj
      refine ⟨o1, by dsimp only; omega, hi60, upd_s (α := Nat), upd_s (α := Nat), Or.inr ⟨hsg, by dsimp only; omega, j0, j0, upd_s (α := Nat), upd_s (α := Nat), by dsimp only; omega, Nat.le_refl _, hji, hnx, fun x hx => ⟨0, rfl⟩, fun x y hx hy => ?_⟩⟩
      dsimp only at hx hy
      refine ⟨0, j0, i2, (b0, b1, b2), 0, ⟨rfl, Or.inl hnx⟩, by dsimp only; omega, Nat.le_refl _, upd_s (α := Nat), ⟨hD2, Or.inl rfl⟩, ?_⟩
      rw [if_neg z]
      exact ⟨by omega, hx, by dsimp only; omega, by show joB 0 0 b0 c1 b2 (y * b0 + x) = b2 ((y - 0) * b0 + x); exact joB_b hx (Nat.zero_le _)⟩
    · rw [if_neg z2] at hj
      cases hj
/-- one more -/
theorem OpI.next {it it2 : PIt} {b : PBl} {i j0 i2 l0 : Nat} (hO : OpI tc fi la nx di wd ht it i) (hf : ¬ fi it.2.1 = -9) (hla : la it.2.1 = nI l0) (hl60 : l0 < 60) (hi : i ≤ j0) (hD : Den tc fi nx di wd ht (60 - j0) j0 i2 b) (hnx : nx j0 = -9) (hj : joinS it b = some it2) : OpI tc fi (upd la it.2.1 (nI j0)) (upd nx l0 (nI j0)) (upd di j0 (nI (if it.1 = 40 then it.2.2.1 else it.2.2.2.1))) (upd wd it.2.1 (nI it2.2.2.1)) (upd ht it.2.1 (nI it2.2.2.2.1)) it2 i2 := by
  obtain ⟨sg, e, w1, h1, c1⟩ := it
  obtain ⟨b0, b1, b2⟩ := b
  dsimp only at hO hf hla ⊢
  obtain ⟨o1, o2, o3, o4, o5, o6⟩ := hO
  dsimp only at o1 o2 o3 o4 o5 o6
  rcases o6 with y | ⟨hsg, hw, f0, l9, y1, y2, y3, y4, y5, y6, y7, y8⟩
  · exact absurd y.1 hf
  have hl9 : l9 = l0 := by
    have h9 := congrArg Int32.toInt (y2.symm.trans hla)
    rw [nI_toInt (by omega), nI_toInt (by omega)] at h9
    omega
  subst hl9
  have hji : j0 < i2 := by
    revert hD
    cases h9 : 60 - j0 with
    | zero => exact fun y => y.elim
    | succ k => exact fun y => y.1
  have hi60 : i2 ≤ 60 := by
    revert hD
    cases h9 : 60 - j0 with
    | zero => exact fun y => y.elim
    | succ k => exact fun y => y.2.1
  have hok : PBl.ok (b0, b1, b2) := by
    revert hD
    cases h9 : 60 - j0 with
    | zero => exact fun y => y.elim
    | succ k => exact fun y => y.2.2.2.2.1
  obtain ⟨k1, k2, k3, k4, k5⟩ := hok
  dsimp only at k1 k2 k3 k4 k5
  have hD2 : ∀ d w h, Den tc fi (upd nx l9 (nI j0)) (upd di j0 d) (upd wd e w) (upd ht e h) (60 - j0) j0 i2 (b0, b1, b2) := fun d w h => hD.congr (fun j a b => ⟨upd_n (by omega), upd_n (by omega), rfl⟩) (fun j a b => ⟨upd_n (by omega), upd_n (by omega)⟩)
  have hD3 : ∀ d w h j ij bj, e < j → ij ≤ i → Den tc fi nx di wd ht (60 - j) j ij bj ∧ (j = l9 ∨ ij ≤ l9) → Den tc fi (upd nx l9 (nI j0)) (upd di j0 d) (upd wd e w) (upd ht e h) (60 - j) j ij bj ∧ (j = j0 ∨ ij ≤ j0) := fun d w h j ij bj a1 a2 a3 => ⟨a3.1.congr (fun k x1 x2 => ⟨upd_n (by omega), upd_n (by omega), rfl⟩) (fun k x1 x2 => ⟨upd_n (by have := a3.2; omega), upd_n (by omega)⟩), Or.inr (Nat.le_trans a2 hi)⟩
  have hW : ∀ d x, d ≤ x → d ≤ 16 → (∃ m, Wk nx di i x m f0 l9) → ∃ m, Wk (upd nx l9 (nI j0)) (upd di j0 (nI d)) i2 x m f0 j0 := fun d x hx hd hm => by
    obtain ⟨m, hm⟩ := hm
    have h1 : Wk (upd nx l9 (nI j0)) (upd di j0 (nI d)) i2 x m f0 l9 := hm.congr (by omega) (by omega) (fun k x1 x2 => ⟨by
      by_cases e9 : k = l9
      · exact Or.inr (by rw [e9]; exact y6)
      · exact Or.inl (upd_n e9), upd_n (by omega)⟩) o3
    exact ⟨m + 1, h1.snoc (upd_s (α := Nat)) (by omega) hji (upd_s (α := Nat)) hx⟩
  have hnj : ∀ v, upd nx l9 v j0 = -9 := fun v => (upd_n (by omega)).trans hnx
  unfold joinS at hj
  dsimp only at hj
  by_cases z : sg = 40
  · rw [if_pos z] at hj
    rw [if_pos z] at y7
    by_cases z2 : (w1 = 0 ∨ b1 = h1) ∧ w1 + b0 ≤ 16
    · rw [if_pos z2] at hj
      cases hj
      have hb1 : b1 = h1 := by omega
      rw [if_pos z]
      refine ⟨o1, by dsimp only; omega, hi60, upd_s (α := Nat), upd_s (α := Nat), Or.inr ⟨hsg, by dsimp only; omega, f0, j0, y1, upd_s (α := Nat), y3, by omega, hji, hnj _, fun x hx => ?_, fun x y hx hy => ?_⟩⟩
      · rw [if_pos z] at hx
        dsimp only at hx
        exact hW w1 x (by omega) (by omega) (y7 x (by omega))
      · dsimp only at hx hy
        by_cases hxw : x < w1
        · obtain ⟨m, j, ij, bj, dj, c1', c2', c3', c4', c5', c6'⟩ := y8 x y hxw (by omega)
          rw [if_pos z] at c1' c6'
          have hji' : j < i := c1'.lt (by omega)
          refine ⟨m, j, ij, bj, dj, ?_, c2', by omega, (upd_n (by omega)).trans c4', hD3 _ _ _ j ij bj c2' c3' c5', ?_⟩
          · rw [if_pos z]
            exact c1'.ext o3 hi hji (by omega) hxw y6 y5 (by omega)
          · rw [if_pos z]
            exact ⟨c6'.1, c6'.2.1, c6'.2.2.1, by show joA w1 b0 c1 b2 (y * (w1 + b0) + x) = _; rw [joA_l hxw]; exact c6'.2.2.2⟩
        · obtain ⟨m, hm⟩ := hW w1 x (by omega) (by omega) (y7 x (by omega))
          refine ⟨m, j0, i2, (b0, b1, b2), w1, ?_, by dsimp only; omega, Nat.le_refl _, upd_s (α := Nat), ⟨hD2 _ _ _, Or.inl rfl⟩, ?_⟩
          · rw [if_pos z]
            exact hm.ins (hnj _)
          · rw [if_pos z]
            exact ⟨by omega, by dsimp only; omega, hy, by show joA w1 b0 c1 b2 (y * (w1 + b0) + x) = b2 (y * b0 + (x - w1)); exact joA_r hx (by omega)⟩
    · rw [if_neg z2] at hj
      cases hj
  · rw [if_neg z] at hj
    rw [if_neg z] at y7
    by_cases z2 : (w1 = 0 ∨ b0 = w1) ∧ h1 + b1 ≤ 16
    · rw [if_pos z2] at hj
      cases hj
      have hb0 : b0 = w1 := by omega
      rw [if_neg z]
      refine ⟨o1, by dsimp only; omega, hi60, upd_s (α := Nat), upd_s (α := Nat), Or.inr ⟨hsg, by dsimp only; omega, f0, j0, y1, upd_s (α := Nat), y3, by omega, hji, hnj _, fun x hx => ?_, fun x y hx hy => ?_⟩⟩
      · rw [if_neg z] at hx
        dsimp only at hx
        exact hW h1 x (by omega) (by omega) (y7 x (by omega))
      · dsimp only at hx hy
        by_cases hyh : y < h1
        · obtain ⟨m, j, ij, bj, dj, c1', c2', c3', c4', c5', c6'⟩ := y8 x y (by omega) hyh
          rw [if_neg z] at c1' c6'
          have hji' : j < i := c1'.lt (by omega)
          refine ⟨m, j, ij, bj, dj, ?_, c2', by omega, (upd_n (by omega)).trans c4', hD3 _ _ _ j ij bj c2' c3' c5', ?_⟩
          · rw [if_neg z]
            exact c1'.ext o3 hi hji (by omega) hyh y6 y5 (by omega)
          · rw [if_neg z]
            exact ⟨c6'.1, c6'.2.1, c6'.2.2.1, by show joB w1 h1 b0 c1 b2 (y * b0 + x) = _; rw [joB_t hx hyh]; exact c6'.2.2.2⟩
        · obtain ⟨m, hm⟩ := hW h1 y (by omega) (by omega) (y7 y (by omega))
          refine ⟨m, j0, i2, (b0, b1, b2), h1, ?_, by dsimp only; omega, Nat.le_refl _, upd_s (α := Nat), ⟨hD2 _ _ _, Or.inl rfl⟩, ?_⟩
          · rw [if_neg z]
            exact hm.ins (hnj _)
          · rw [if_neg z]
            exact ⟨by omega, hx, by dsimp only; omega, by show joB w1 h1 b0 c1 b2 (y * b0 + x) = b2 ((y - h1) * b0 + x); exact joB_b hx (by omega)⟩
    · rw [if_neg z2] at hj
      cases hj
end OPJ
