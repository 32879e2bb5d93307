/-! starting a quilt: what the text tells -/
theorem runS_ok {tc : Nat → Nat} : ∀ (k i : Nat) (L : List PIt), i + k ≤ 60 → ItsOk L → match runS tc k i L with
    | .inl e => e ≤ 60
    | .inr b => b.ok
  | 0, i, L, h, _ => by show i ≤ 60; omega
  | k + 1, i, L, h, hL => by
    have hs : match stepS (tc i) i L with
        | .inl e => e < 60
        | .inr (.inl b2) => b2.ok
        | .inr (.inr L2) => ItsOk L2 := by
      by_cases h1 : 97 ≤ tc i ∧ tc i ≤ 102
      · rw [stepS_let h1]
        have h2 := endS_ok L (1, 1, fun _ => tc i - 97) i hL (let_ok h1) (by omega)
        revert h2
        rcases endS L (1, 1, fun _ => tc i - 97) i with e | b | L2
        · exact id
        · exact id
        · exact fun y => y.1
      · cases h2 : opnS (tc i) with
        | true => rw [stepS_opn h1 h2]; exact ⟨opn_it h2 (by omega), hL⟩
        | false =>
          match L, hL with
          | [], _ => rw [stepS_nil h1 h2]; show i < 60; omega
          | it :: rest, hL =>
            cases h3 : clsS (tc i) it with
            | false => rw [stepS_non h1 h2 h3]; show i < 60; omega
            | true =>
              rw [stepS_cls h1 h2 h3]
              obtain ⟨i1, i2, i3, i4, i5, i6, i7⟩ := hL.1
              have h4 := (of_decide_eq_true h3).1
              have h5 := endS_ok rest (it.2.2.1, it.2.2.2.1, it.2.2.2.2) it.2.1 hL.2 ⟨h4, i3, i6 h4, i4, i7⟩ i2
              revert h5
              rcases endS rest (it.2.2.1, it.2.2.2.1, it.2.2.2.2) it.2.1 with e | b | L2
              · exact id
              · exact id
              · exact fun y => y.1
    show match (match stepS (tc i) i L with
      | .inl e => (.inl e : Nat ⊕ PBl)
      | .inr (.inl b) => if k = 0 then .inr b else .inl (i + 1)
      | .inr (.inr L2) => runS tc k (i + 1) L2) with
      | .inl e => e ≤ 60
      | .inr b => b.ok
    revert hs
    rcases stepS (tc i) i L with e | b | L2
    · exact fun y => Nat.le_of_lt y
    · intro y
      by_cases hk : k = 0
      · show match (if k = 0 then (.inr b : Nat ⊕ PBl) else .inl (i + 1)) with
          | .inl e => e ≤ 60
          | .inr b => b.ok
        rw [if_pos hk]
        exact y
      · show match (if k = 0 then (.inr b : Nat ⊕ PBl) else .inl (i + 1)) with
          | .inl e => e ≤ 60
          | .inr b => b.ok
        rw [if_neg hk]
        show i + 1 ≤ 60
        omega
    · exact fun y => runS_ok k (i + 1) L2 (by omega) y
theorem whole_le {tc : Nat → Nat} {len e : Nat} (hl : len ≤ 60) (h : wholeS tc len = .inl e) : e ≤ 60 := by
  have h1 := runS_ok (tc := tc) len 0 [] (by omega) trivial
  unfold wholeS at h
  rw [h] at h1
  exact h1
theorem whole_ok {tc : Nat → Nat} {len : Nat} {b : PBl} (hl : len ≤ 60) (h : wholeS tc len = .inr b) : b.ok := by
  have h1 := runS_ok (tc := tc) len 0 [] (by omega) trivial
  unfold wholeS at h
  rw [h] at h1
  exact h1
def erV : Nat ⊕ PBl → Int32
  | .inl e => nI e
  | .inr _ => -9
/-- the row with the quilt b in frame f -/
def stQ (q : Nat → Int32) (f : Nat) (b : PBl) : Nat → Int32 := layI (upd (upd q (74 + 264 * f + 0) (nI b.1)) (74 + 264 * f + 1) (nI b.2.1)) (74 + 264 * f + 8) (fun k => nI (b.2.2 k)) (b.1 * b.2.1)
