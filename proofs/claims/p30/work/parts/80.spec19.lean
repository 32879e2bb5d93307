/-! the text, read to its end, on the class's side -/
theorem stepS_ok {tc : Nat → Nat} {i : Nat} {L : List PIt} (hi : i < 60) (hL : ItsOk L) : match stepS (tc i) i L with
    | .inl e => e < 60
    | .inr (.inl b2) => b2.ok
    | .inr (.inr L2) => ItsOk L2 ∧ L2.length ≤ L.length + 1 := by
  by_cases h1 : 97 ≤ tc i ∧ tc i ≤ 102
  · rw [stepS_let h1]
    have h2 := endS_ok L (1, 1, fun _ => tc i - 97) i hL (let_ok h1) hi
    revert h2
    rcases endS L (1, 1, fun _ => tc i - 97) i with e | b | L2
    · exact id
    · exact id
    · exact fun y => ⟨y.1, Nat.le_succ_of_le y.2⟩
  · cases h2 : opnS (tc i) with
    | true => rw [stepS_opn h1 h2]; exact ⟨⟨opn_it h2 hi, hL⟩, Nat.le_refl _⟩
    | false =>
      match L, hL with
      | [], _ => rw [stepS_nil h1 h2]; exact hi
      | it :: rest, hL =>
        cases h3 : clsS (tc i) it with
        | false => rw [stepS_non h1 h2 h3]; exact hi
        | true =>
          rw [stepS_cls h1 h2 h3]
          obtain ⟨i1, i2, i3, i4, i5, i6, i7⟩ := hL.1
          have h4 := (of_decide_eq_true h3).1
          have h5 := endS_ok rest (it.2.2.1, it.2.2.2.1, it.2.2.2.2) it.2.1 hL.2 ⟨h4, i3, i6 h4, i4, i7⟩ i2
          revert h5
          rcases endS rest (it.2.2.1, it.2.2.2.1, it.2.2.2.2) it.2.1 with e | b | L2
          · exact id
          · exact id
          · exact fun y => ⟨y.1, Nat.le_trans y.2 (by show rest.length ≤ rest.length + 1 + 1; omega)⟩
/-- what is still to be read, from i on, with what there is -/
def conS (tc : Nat → Nat) (len i : Nat) : PBl ⊕ List PIt → Nat ⊕ PBl
  | .inl b => if len - i = 0 then .inr b else .inl i
  | .inr L => runS tc (len - i) i L
def LsOk (i : Nat) : PBl ⊕ List PIt → Prop
  | .inl _ => True
  | .inr L => ItsOk L ∧ L.length ≤ i
/-- what the class holds after a check -/
def ChkC (tc : Nat → Nat) (fi nx di wd ht : Nat → Int32) (i2 : Nat) (wh : Int32) : Nat ⊕ PBl → Prop
  | .inl _ => True
  | .inr b => ∃ j, j < 60 ∧ wh = nI j ∧ Den tc fi nx di wd ht (60 - j) j i2 b
section CONS
variable {tc : Nat → Nat} {len i : Nat} {L : List PIt}
theorem conS_b {b : PBl} (h : i < len) : conS tc len i (.inl b) = .inl i := if_neg (by omega)
theorem conS_be {b : PBl} (h : len ≤ i) : conS tc len i (.inl b) = .inr b := if_pos (by omega)
theorem conS_e {e : Nat} (h : i < len) (hs : stepS (tc i) i L = .inl e) : conS tc len i (.inr L) = .inl e := runS_err h hs
theorem conS_n (h : len ≤ i) : conS tc len i (.inr L) = .inl i := runS_end (by omega)
theorem conS_s {ms : PBl ⊕ List PIt} (h : i < len) (hs : stepS (tc i) i L = .inr ms) : conS tc len (i + 1) ms = conS tc len i (.inr L) := by
  show _ = runS tc (len - i) i L
  rw [runS_s h, hs]
  rcases ms with b | L2
  · rfl
  · rfl
theorem LsOk_s {ms : PBl ⊕ List PIt} (h : i < 60) (hL : LsOk i (.inr L)) (hs : stepS (tc i) i L = .inr ms) : LsOk (i + 1) ms := by
  have h1 := stepS_ok (tc := tc) h hL.1
  rw [hs] at h1
  rcases ms with b | L2
  · exact trivial
  · exact ⟨h1.1, Nat.le_trans h1.2 (Nat.succ_le_succ hL.2)⟩
end CONS
