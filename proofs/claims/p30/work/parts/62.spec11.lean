/-! the text, read to its end -/
abbrev PRes : Type := Nat ⊕ PBl ⊕ List PIt
/-- a block is there: the signs before it are done, then it joins what is open, or is the whole -/
def endS (L : List PIt) (b : PBl) (pl : Nat) : PRes :=
  match popS L b pl with
  | (_, _, e, false) => (.inl e)
  | ([], b2, _, true) => (.inr (.inl b2))
  | (it :: rest, b2, pl2, true) => match joinS it b2 with
    | none => (.inl pl2)
    | some it2 => (.inr (.inr (it2 :: rest)))
theorem endS_nil {b : PBl} {pl : Nat} : endS [] b pl = (.inr (.inl b)) := rfl
theorem endS_app {it : PIt} {rest : List PIt} {b b2 : PBl} {pl : Nat} (h1 : befS it.1 = true) (h2 : applS it.1 b = some b2) : endS (it :: rest) b pl = endS rest b2 it.2.1 := by
  unfold endS
  rw [show popS (it :: rest) b pl = popS rest b2 it.2.1 by
    rw [popS, if_pos h1, h2]]
theorem endS_bad {it : PIt} {rest : List PIt} {b : PBl} {pl : Nat} (h1 : befS it.1 = true) (h2 : applS it.1 b = none) : endS (it :: rest) b pl = (.inl it.2.1) := by
  unfold endS
  rw [show popS (it :: rest) b pl = (it :: rest, b, it.2.1, false) by
    rw [popS, if_pos h1, h2]]
theorem endS_joN {it : PIt} {rest : List PIt} {b : PBl} {pl : Nat} (h1 : befS it.1 = false) (h2 : joinS it b = none) : endS (it :: rest) b pl = (.inl pl) := by
  unfold endS
  rw [show popS (it :: rest) b pl = (it :: rest, b, pl, true) by
    rw [popS, if_neg (by rw [h1]; decide)]]
  show (match joinS it b with | none => (Sum.inl pl : PRes) | some it2 => .inr (.inr (it2 :: rest))) = _
  rw [h2]
theorem endS_joS {it it2 : PIt} {rest : List PIt} {b : PBl} {pl : Nat} (h1 : befS it.1 = false) (h2 : joinS it b = some it2) : endS (it :: rest) b pl = (.inr (.inr (it2 :: rest))) := by
  unfold endS
  rw [show popS (it :: rest) b pl = (it :: rest, b, pl, true) by
    rw [popS, if_neg (by rw [h1]; decide)]]
  show (match joinS it b with | none => (Sum.inl pl : PRes) | some it2 => .inr (.inr (it2 :: rest))) = _
  rw [h2]
/-- what an open item keeps -/
def ItOk (it : PIt) : Prop := (it.1 = 40 ∨ it.1 = 91 ∨ it.1 = 60 ∨ it.1 = 94 ∨ (50 ≤ it.1 ∧ it.1 ≤ 57)) ∧ it.2.1 < 60 ∧ it.2.2.1 ≤ 16 ∧ it.2.2.2.1 ≤ 16 ∧ (it.2.2.1 = 0 → it.2.2.2.1 = 0) ∧ (0 < it.2.2.1 → 0 < it.2.2.2.1) ∧ ∀ k, k < it.2.2.1 * it.2.2.2.1 → it.2.2.2.2 k < 6
def ItsOk : List PIt → Prop
  | [] => True
  | it :: rest => ItOk it ∧ ItsOk rest
theorem joA_lt {w1 h1 w0 h0 k : Nat} {c1 b0 : Nat → Nat} (hc : ∀ k, k < w1 * h1 → c1 k < 6) (hb : ∀ k, k < w0 * h0 → b0 k < 6) (he : w1 = 0 ∨ h0 = h1) (hk : k < (w1 + w0) * h0) : joA w1 w0 c1 b0 k < 6 := by
  have h := joA_ok (c := fun j => nI (c1 j)) (b := fun j => nI (b0 j)) (fun k hk => ⟨rfl, hc k hk⟩) (fun k hk => ⟨rfl, hb k hk⟩) he hk
  exact h.2
theorem joB_lt {w1 h1 w0 h0 k : Nat} {c1 b0 : Nat → Nat} (hc : ∀ k, k < w1 * h1 → c1 k < 6) (hb : ∀ k, k < w0 * h0 → b0 k < 6) (hz : w1 = 0 → h1 = 0) (he : w1 = 0 ∨ w0 = w1) (hk : k < w0 * (h1 + h0)) : joB w1 h1 w0 c1 b0 k < 6 := by
  have h := joB_ok (c := fun j => nI (c1 j)) (b := fun j => nI (b0 j)) (fun k hk => ⟨rfl, hc k hk⟩) (fun k hk => ⟨rfl, hb k hk⟩) hz he hk
  exact h.2
theorem joinS_ok {it it2 : PIt} {b : PBl} (hi : ItOk it) (hb : b.ok) (h : joinS it b = some it2) : ItOk it2 ∧ it2.1 = it.1 ∧ it2.2.1 = it.2.1 ∧ 0 < it2.2.2.1 := by
  obtain ⟨i1, i2, i3, i4, i5, i6, i7⟩ := hi
  obtain ⟨b1, b2, b3, b4, b5⟩ := hb
  unfold joinS at h
  by_cases z1 : it.1 = 40
  · rw [if_pos z1] at h
    by_cases z2 : (it.2.2.1 = 0 ∨ b.2.1 = it.2.2.2.1) ∧ it.2.2.1 + b.1 ≤ 16
    · rw [if_pos z2] at h
      cases h
      exact ⟨⟨i1, i2, z2.2, b4, fun y => by dsimp only at y; omega, fun _ => b3, fun k hk => joA_lt i7 b5 z2.1 hk⟩, rfl, rfl, by dsimp only; omega⟩
    · rw [if_neg z2] at h
      cases h
  · rw [if_neg z1] at h
    by_cases z2 : (it.2.2.1 = 0 ∨ b.1 = it.2.2.1) ∧ it.2.2.2.1 + b.2.1 ≤ 16
    · rw [if_pos z2] at h
      cases h
      exact ⟨⟨i1, i2, b2, z2.2, fun y => by dsimp only at y; omega, fun _ => by dsimp only; omega, fun k hk => joB_lt i7 b5 i5 z2.1 hk⟩, rfl, rfl, b1⟩
    · rw [if_neg z2] at h
      cases h
/-- what an end keeps -/
theorem endS_ok : ∀ (L : List PIt) (b : PBl) (pl : Nat), ItsOk L → b.ok → pl < 60 → match endS L b pl with
    | (.inl e) => e < 60
    | (.inr (.inl b2)) => b2.ok
    | (.inr (.inr L2)) => ItsOk L2 ∧ L2.length ≤ L.length
  | [], b, pl, _, hb, _ => hb
  | it :: rest, b, pl, hL, hb, hp => by
    by_cases h1 : befS it.1 = true
    · cases h2 : applS it.1 b with
      | none => rw [endS_bad h1 h2]; exact hL.1.2.1
      | some b2 =>
        rw [endS_app h1 h2]
        have hs : it.1 = 60 ∨ it.1 = 94 ∨ (50 ≤ it.1 ∧ it.1 ≤ 57) := by
          have h3 := of_decide_eq_true h1
          have h4 := hL.1.1
          omega
        have h5 := endS_ok rest b2 it.2.1 hL.2 (applS_ok hb hs h2) hL.1.2.1
        revert h5
        rcases endS rest b2 it.2.1 with e | b3 | L2
        · exact id
        · exact id
        · exact fun y => ⟨y.1, Nat.le_succ_of_le y.2⟩
    · have h1 : befS it.1 = false := by cases hq : befS it.1; rfl; exact absurd hq h1
      cases h2 : joinS it b with
      | none => rw [endS_joN h1 h2]; exact hp
      | some it2 =>
        rw [endS_joS h1 h2]
        exact ⟨⟨(joinS_ok hL.1 hb h2).1, hL.2⟩, Nat.le_refl _⟩
/-- what the model holds after an end -/
def EndR (zsg zbg : Nat → Int32) (wd2 hg2 in2 : Nat → Int32) (op2 wi2 hi2 : Int32) (bk2 : Nat → Int32) (er2 en2 : Int32) : PRes → Prop
  | (.inl e) => er2 = nI e
  | (.inr (.inl b)) => er2 = -1 ∧ en2 = nI 1 ∧ wi2 = nI b.1 ∧ hi2 = nI b.2.1 ∧ ∀ k, k < b.1 * b.2.1 → bk2 k = nI (b.2.2 k) ∧ b.2.2 k < 6
  | (.inr (.inr L)) => er2 = -1 ∧ en2 = nI 0 ∧ op2 = nI L.length ∧ RelSt zsg zbg wd2 hg2 in2 L
