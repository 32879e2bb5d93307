/-! the text, read character by character -/
def opnS (c : Nat) : Bool := decide (c = 40 ∨ c = 91 ∨ c = 60 ∨ c = 94 ∨ (50 ≤ c ∧ c ≤ 57))
def clsS (c : Nat) (it : PIt) : Bool := decide (0 < it.2.2.1 ∧ (c = 41 ∧ it.1 = 40 ∨ c = 93 ∧ it.1 = 91))
def stepS (c i : Nat) (L : List PIt) : PRes :=
  if 97 ≤ c ∧ c ≤ 102 then endS L (1, 1, fun _ => c - 97) i
  else if opnS c = true then .inr (.inr ((c, i, 0, 0, fun _ => 0) :: L))
  else match L with
    | [] => .inl i
    | it :: rest => if clsS c it = true then endS rest (it.2.2.1, it.2.2.2.1, it.2.2.2.2) it.2.1 else .inl i
def runS (tc : Nat → Nat) : Nat → Nat → List PIt → Nat ⊕ PBl
  | 0, i, _ => .inl i
  | k + 1, i, L => match stepS (tc i) i L with
    | .inl e => .inl e
    | .inr (.inl b) => if k = 0 then .inr b else .inl (i + 1)
    | .inr (.inr L2) => runS tc k (i + 1) L2
def wholeS (tc : Nat → Nat) (len : Nat) : Nat ⊕ PBl := runS tc len 0 []
def rdV : Nat ⊕ PBl → Int32
  | .inl e => nI e
  | .inr _ => -1
section RUNS
variable {tc : Nat → Nat} {len i : Nat} {L : List PIt}
theorem stepS_let (h : 97 ≤ tc i ∧ tc i ≤ 102) : stepS (tc i) i L = endS L (1, 1, fun _ => tc i - 97) i := if_pos h
theorem stepS_opn (h : ¬ (97 ≤ tc i ∧ tc i ≤ 102)) (h2 : opnS (tc i) = true) : stepS (tc i) i L = .inr (.inr ((tc i, i, 0, 0, fun _ => 0) :: L)) := by
  unfold stepS
  rw [if_neg h, if_pos h2]
theorem stepS_nil (h : ¬ (97 ≤ tc i ∧ tc i ≤ 102)) (h2 : opnS (tc i) = false) : stepS (tc i) i [] = .inl i := by
  unfold stepS
  rw [if_neg h, if_neg (by rw [h2]; decide)]
theorem stepS_cls {it : PIt} {rest : List PIt} (h : ¬ (97 ≤ tc i ∧ tc i ≤ 102)) (h2 : opnS (tc i) = false) (h3 : clsS (tc i) it = true) : stepS (tc i) i (it :: rest) = endS rest (it.2.2.1, it.2.2.2.1, it.2.2.2.2) it.2.1 := by
  unfold stepS
  rw [if_neg h, if_neg (by rw [h2]; decide)]
  exact if_pos h3
theorem stepS_non {it : PIt} {rest : List PIt} (h : ¬ (97 ≤ tc i ∧ tc i ≤ 102)) (h2 : opnS (tc i) = false) (h3 : clsS (tc i) it = false) : stepS (tc i) i (it :: rest) = .inl i := by
  unfold stepS
  rw [if_neg h, if_neg (by rw [h2]; decide)]
  exact if_neg (by rw [h3]; decide)
theorem runS_end {k : Nat} (hk : k = 0) : runS tc k i L = .inl i := by subst hk; rfl
theorem runS_s (hi : i < len) : runS tc (len - i) i L = match stepS (tc i) i L with
    | .inl e => .inl e
    | .inr (.inl b) => if len - (i + 1) = 0 then .inr b else .inl (i + 1)
    | .inr (.inr L2) => runS tc (len - (i + 1)) (i + 1) L2 := by
  rw [show len - i = (len - (i + 1)) + 1 by omega]
  rfl
theorem runS_err {e : Nat} (hi : i < len) (h : stepS (tc i) i L = .inl e) : runS tc (len - i) i L = .inl e := by rw [runS_s hi, h]
theorem runS_don {b : PBl} (hi : i < len) (h : stepS (tc i) i L = .inr (.inl b)) (h2 : len ≤ i + 1) : runS tc (len - i) i L = .inr b := by
  rw [runS_s hi, h]
  exact if_pos (by omega)
theorem runS_mor {b : PBl} (hi : i < len) (h : stepS (tc i) i L = .inr (.inl b)) (h2 : i + 1 < len) : runS tc (len - i) i L = .inl (i + 1) := by
  rw [runS_s hi, h]
  exact if_neg (by omega)
theorem runS_go {L2 : List PIt} (hi : i < len) (h : stepS (tc i) i L = .inr (.inr L2)) : runS tc (len - i) i L = runS tc (len - (i + 1)) (i + 1) L2 := by rw [runS_s hi, h]
theorem opn_it {c pl : Nat} (h : opnS c = true) (hp : pl < 60) : ItOk (c, pl, 0, 0, fun _ => 0) := by
  have h1 := of_decide_eq_true h
  exact ⟨h1, hp, by dsimp only; omega, by dsimp only; omega, fun _ => rfl, fun y => by dsimp only at y; omega, fun k hk => by dsimp only at hk; omega⟩
theorem let_ok {c : Nat} (h : 97 ≤ c ∧ c ≤ 102) : PBl.ok (1, 1, fun _ => c - 97) := ⟨Nat.succ_pos 0, Nat.le_of_ble_eq_true rfl, Nat.succ_pos 0, Nat.le_of_ble_eq_true rfl, fun k hk => by dsimp only; omega⟩
theorem let_bk {c : Nat} {bk : Nat → Int32} (h : 97 ≤ c ∧ c ≤ 102) : ∀ k, k < 1 * 1 → upd bk 0 (nI (c - 97)) k = nI ((fun _ => c - 97 : Nat → Nat) k) ∧ (fun _ => c - 97 : Nat → Nat) k < 6 := fun k hk => by
  have hk0 : k = 0 := by omega
  rw [hk0, upd_s (α := Nat)]
  exact ⟨rfl, by dsimp only; omega⟩
end RUNS
