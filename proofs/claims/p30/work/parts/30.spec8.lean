/-! pieces: one link; the text: items that are open -/
def lnkB (q : Nat → Int32) (f a b pa pb : Nat) : Bool := decide (clF q f a = clF q f b ∧ ¬ pa = pb)
def lnkQ (q : Nat → Int32) (f a b pa pb : Nat) (po : Nat → Int32) : Nat → Int32 :=
  if lnkB q f a b pa pb = true then upd (upd po a (nI (if pa < pb then pa else pb))) b (nI (if pa < pb then pa else pb)) else po
/-- an item that is open: its sign, its place, its width, height and content so far -/
abbrev PIt : Type := Nat × Nat × Nat × Nat × (Nat → Nat)
/-- the model's rows hold the open items, the innermost first in the list -/
def RelSt (zsg zbg zwd zhg zin : Nat → Int32) : List PIt → Prop
  | [] => True
  | it :: rest => (zsg rest.length = nI it.1 ∧ zbg rest.length = nI it.2.1 ∧ zwd rest.length = nI it.2.2.1 ∧ zhg rest.length = nI it.2.2.2.1 ∧ it.1 < 256 ∧ it.2.1 < 60 ∧ it.2.2.1 ≤ 16 ∧ it.2.2.2.1 ≤ 16 ∧ (∀ k, k < it.2.2.1 * it.2.2.2.1 → zin (256 * rest.length + k) = nI (it.2.2.2.2 k) ∧ it.2.2.2.2 k < 6)) ∧ RelSt zsg zbg zwd zhg zin rest
theorem RelSt.congr {zsg zbg zwd zhg zin zsg' zbg' zwd' zhg' zin' : Nat → Int32} : ∀ {L : List PIt}, RelSt zsg zbg zwd zhg zin L → (∀ j, j < L.length → zsg' j = zsg j ∧ zbg' j = zbg j ∧ zwd' j = zwd j ∧ zhg' j = zhg j) → (∀ j, j < 256 * L.length → zin' j = zin j) → RelSt zsg' zbg' zwd' zhg' zin' L
  | [], _, _, _ => trivial
  | it :: rest, h, h1, h2 => by
    obtain ⟨⟨a1, a2, a3, a4, a5, a6, a7, a8, a9⟩, hr⟩ := h
    have hl : (it :: rest).length = rest.length + 1 := rfl
    obtain ⟨b1, b2, b3, b4⟩ := h1 rest.length (by omega)
    refine ⟨⟨b1.trans a1, b2.trans a2, b3.trans a3, b4.trans a4, a5, a6, a7, a8, fun k hk => ?_⟩, RelSt.congr hr (fun j hj => h1 j (by omega)) (fun j hj => h2 j (by omega))⟩
    have hs := sz256 a7 a8
    rw [h2 _ (by omega)]
    exact a9 k hk
theorem RelSt.push {zsg zbg zwd zhg zin : Nat → Int32} {L : List PIt} (h : RelSt zsg zbg zwd zhg zin L) {sg pl : Nat} (hs : sg < 256) (hp : pl < 60) : RelSt (upd zsg L.length (nI sg)) (upd zbg L.length (nI pl)) (upd zwd L.length (nI 0)) (upd zhg L.length (nI 0)) zin ((sg, pl, 0, 0, fun _ => 0) :: L) := by
  refine ⟨⟨upd_s (α := Nat), upd_s (α := Nat), upd_s (α := Nat), upd_s (α := Nat), hs, hp, Nat.zero_le _, Nat.zero_le _, fun k hk => by dsimp only at hk; omega⟩, h.congr (fun j hj => ⟨upd_n (by omega), upd_n (by omega), upd_n (by omega), upd_n (by omega)⟩) (fun _ _ => rfl)⟩
