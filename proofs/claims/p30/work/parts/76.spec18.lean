/-! the end of a block, on the class's rows -/
def NxS (nx : Nat → Int32) : List PIt → Prop
  | [] => True
  | it :: rest => nx it.2.1 = -9 ∧ NxS nx rest
def edV : PRes → Int32
  | .inl e => nI e
  | .inr _ => -9
/-- what the class holds after an end -/
def EndC (tc : Nat → Nat) (fi la nx di wd ht op : Nat → Int32) (i2 : Nat) (oc wh : Int32) : PRes → Prop
  | .inl _ => True
  | .inr (.inl b) => ∃ j, j < 60 ∧ wh = nI j ∧ Den tc fi nx di wd ht (60 - j) j i2 b
  | .inr (.inr L) => wh = -9 ∧ oc = nI L.length ∧ OpS tc fi la nx di wd ht op L i2 ∧ NxS nx L
theorem NxS.congr {nx nx' : Nat → Int32} {tc : Nat → Nat} {fi la di wd ht op : Nat → Int32} : ∀ {L : List PIt} {i : Nat}, NxS nx L → OpS tc fi la nx di wd ht op L i → (∀ j, j < i → nx' j = nx j) → NxS nx' L
  | [], _, _, _, _ => trivial
  | it :: rest, i, h, hO, hr => ⟨(hr _ hO.2.1.2.1).trans h.1, h.2.congr hO.2.2 (fun j hj => hr j (by have := hO.2.1.2.1; omega))⟩
theorem Den.lt {tc : Nat → Nat} {fi nx di wd ht : Nat → Int32} {k e i : Nat} {b : PBl} (h : Den tc fi nx di wd ht k e i b) : e < i ∧ i ≤ 60 ∧ wd e = nI b.1 ∧ ht e = nI b.2.1 ∧ b.ok := by
  cases k with
  | zero => exact h.elim
  | succ k => exact ⟨h.1, h.2.1, h.2.2.1, h.2.2.2.1, h.2.2.2.2.1⟩
