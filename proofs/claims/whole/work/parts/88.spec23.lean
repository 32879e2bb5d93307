/-! the model's labels: links till nothing changes -/
def sumL (L : Nat → Nat) : Nat → Nat
  | 0 => 0
  | m + 1 => sumL L m + L m
def b1 (c : Bool) : Nat := if c = true then 1 else 0
theorem b1_t : b1 true = 1 := rfl
theorem b1_f : b1 false = 0 := rfl
theorem sumL_le {L L2 : Nat → Nat} : ∀ {m : Nat}, (∀ k, k < m → L2 k ≤ L k) → sumL L2 m ≤ sumL L m
  | 0, _ => Nat.le_refl _
  | m + 1, h => Nat.add_le_add (sumL_le (fun k hk => h k (Nat.lt_succ_of_lt hk))) (h m (Nat.lt_succ_self m))
theorem sumL_lt {L L2 : Nat → Nat} {j : Nat} : ∀ {m : Nat}, (∀ k, k < m → L2 k ≤ L k) → j < m → L2 j < L j → sumL L2 m < sumL L m
  | 0, _, hj, _ => absurd hj (Nat.not_lt_zero _)
  | m + 1, h, hj, hs => by
    have h1 := h m (Nat.lt_succ_self m)
    show sumL L2 m + L2 m < sumL L m + L m
    by_cases e : j = m
    · have h2 := sumL_le (L := L) (L2 := L2) (m := m) (fun k hk => h k (Nat.lt_succ_of_lt hk))
      rw [← e] at h2 ⊢
      omega
    · have h2 := sumL_lt (L := L) (L2 := L2) (m := m) (fun k hk => h k (Nat.lt_succ_of_lt hk)) (by omega) hs
      omega
/-- the model's row tells labels, each from its own piece and not above it; their sum has fallen where there was a change -/
def PInv (w n : Nat) (col : Nat → Nat) (po : Nat → Int32) (L : Nat → Nat) (s0 : Nat) (ch : Bool) : Prop := (∀ k, k < n → po k = nI (L k)) ∧ (∀ k, k < n → L k ≤ k ∧ Cnn w n col (L k) k) ∧ sumL L n + b1 ch ≤ s0
section PINV
variable {w n : Nat} {q : Nat → Int32} {f : Nat} {po : Nat → Int32} {L : Nat → Nat} {s0 : Nat} {ch : Bool} {x y : Nat}
theorem lnk_f (h : lnkB q f x y (L x) (L y) = false) : lnkQ q f x y (L x) (L y) po = po := if_neg (by rw [h]; decide)
theorem lnk_fE (h : lnkB q f x y (L x) (L y) = false) (e : Edg w n (clF q f) x y) : L x = L y := Decidable.byContradiction (fun z => of_decide_eq_false h ⟨e.2.1, z⟩)
theorem lnk_t (h : PInv w n (clF q f) po L s0 ch) (hy : y < n) (hxy : (x % w + 1 < w ∧ y = x + 1) ∨ y = x + w) (hw : 0 < w) (ht : lnkB q f x y (L x) (L y) = true) : ∃ L2, PInv w n (clF q f) (lnkQ q f x y (L x) (L y) po) L2 s0 true := by
  obtain ⟨h1, h2, h3⟩ := h
  obtain ⟨t1, t2⟩ := of_decide_eq_true ht
  have hx : x < y := by omega
  have hE : Cnn w n (clF q f) x y := Edg.cnn ⟨hy, t1, hxy⟩
  have hx2 := h2 x (by omega)
  have hy2 := h2 y hy
  have eQ : lnkQ q f x y (L x) (L y) po = upd (upd po x (nI (if L x < L y then L x else L y))) y (nI (if L x < L y then L x else L y)) := if_pos ht
  obtain ⟨mn, hmn⟩ : ∃ mn, mn = (if L x < L y then L x else L y) := ⟨_, rfl⟩
  rw [← hmn] at eQ
  have hm : mn ≤ L x ∧ mn ≤ L y ∧ (mn < L x ∨ mn < L y) ∧ (mn = L x ∨ mn = L y) := by
    rw [hmn]
    split <;> omega
  refine ⟨fun z => if z = x ∨ z = y then mn else L z, ?_, ?_, ?_⟩
  · intro k hk
    show lnkQ q f x y (L x) (L y) po k = nI (if k = x ∨ k = y then mn else L k)
    rw [eQ]
    by_cases e1 : k = y
    · rw [e1, upd_s (α := Nat), if_pos (Or.inr rfl)]
    · by_cases e2 : k = x
      · rw [e2, upd_n (by omega), upd_s (α := Nat), if_pos (Or.inl rfl)]
      · rw [upd_n e1, upd_n e2, if_neg (by omega)]
        exact h1 k hk
  · intro k hk
    show (if k = x ∨ k = y then mn else L k) ≤ k ∧ Cnn w n (clF q f) (if k = x ∨ k = y then mn else L k) k
    by_cases e1 : k = x ∨ k = y
    · rw [if_pos e1]
      have hmx : Cnn w n (clF q f) mn x := by
        rcases hm.2.2.2 with e | e
        · rw [e]; exact hx2.2
        · rw [e]; exact hy2.2.tr hE.sy
      rcases e1 with e | e
      · rw [e]; exact ⟨by omega, hmx⟩
      · rw [e]; exact ⟨by omega, hmx.tr hE⟩
    · rw [if_neg e1]
      exact h2 k hk
  · rw [b1_t]
    have hle : ∀ k, k < n → (if k = x ∨ k = y then mn else L k) ≤ L k := fun k hk => by
      by_cases e1 : k = x ∨ k = y
      · rw [if_pos e1]
        rcases e1 with e | e
        · rw [e]; exact hm.1
        · rw [e]; exact hm.2.1
      · rw [if_neg e1]; exact Nat.le_refl _
    have hlt : sumL (fun z => if z = x ∨ z = y then mn else L z) n < sumL L n := by
      rcases hm.2.2.1 with e | e
      · exact sumL_lt hle (j := x) (by omega) (by show (if x = x ∨ x = y then mn else L x) < L x; rw [if_pos (Or.inl rfl)]; exact e)
      · exact sumL_lt hle (j := y) hy (by show (if y = x ∨ y = y then mn else L y) < L y; rw [if_pos (Or.inr rfl)]; exact e)
    omega
/-- the edges at one patch more -/
theorem ed_s {col : Nat → Nat} {k : Nat} (h : ∀ x y, Edg w n col x y → x < k → L x = L y) (hr : Edg w n col k (k + 1) → k % w + 1 < w → L k = L (k + 1)) (hd : Edg w n col k (k + w) → L k = L (k + w)) : ∀ x y, Edg w n col x y → x < k + 1 → L x = L y := fun x y e hx => by
  by_cases e1 : x = k
  · subst e1
    obtain ⟨a1, a2, a3⟩ := e
    rcases a3 with ⟨a3, rfl⟩ | rfl
    · exact hr ⟨a1, a2, Or.inl ⟨a3, rfl⟩⟩ a3
    · exact hd ⟨a1, a2, Or.inr rfl⟩
  · exact h x y e (by omega)
end PINV
theorem or_b1 (c : Bool) : nI 1 ||| bI c = bI true := by cases c <;> decide
theorem or_b0 (c : Bool) : nI 0 ||| bI c = bI c := by cases c <;> decide
theorem cnt_s {P : Nat → Bool} {m : Nat} : cntR P 0 (m + 1) = cntR P 0 m + (if P m = true then 1 else 0) := by
  show cntR P 0 m + (if P (0 + m) = true then 1 else 0) = _
  rw [Nat.zero_add]
theorem pcN_t {L : Nat → Nat} {n k : Nat} (h : 0 < szL L n k) : pcN L n (k + 1) = pcN L n k + 1 := by
  unfold pcN
  rw [cnt_s, if_pos (decide_eq_true h)]
theorem pcN_f {L : Nat → Nat} {n k : Nat} (h : ¬ 0 < szL L n k) : pcN L n (k + 1) = pcN L n k := by
  unfold pcN
  rw [cnt_s, if_neg (by rw [decide_eq_false h]; decide), Nat.add_zero]
theorem grN_t {L : Nat → Nat} {n k : Nat} (h : grN L n k < szL L n k) : grN L n (k + 1) = szL L n k := if_pos h
theorem grN_f {L : Nat → Nat} {n k : Nat} (h : ¬ grN L n k < szL L n k) : grN L n (k + 1) = grN L n k := if_neg h
