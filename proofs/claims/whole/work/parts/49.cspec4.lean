/-! the commands of a script, one by one -/
def sB1 (q : Nat → Int32) (f n : Nat) : Bool := decide (0 < n ∧ 0 < szF q f ∧ 0 < nmQ q)
def sQ1 (q : Nat → Int32) (f n : Nat) : Nat → Int32 := if sB1 q f n = true then sewE f n q else q
def sB2 (c n : Nat) : Bool := decide (c < 6 ∧ 0 < n)
def sQ2 (q : Nat → Int32) (k c n : Nat) : Nat → Int32 := if sB2 c n = true then givQ q k c (nI n) else q
def sB3 (q : Nat → Int32) (f : Nat) : Bool := decide (0 < szF q f)
def sQ3 (q : Nat → Int32) (f : Nat) : Nat → Int32 := if sB3 q f = true then tapQ q f else q
def sB4 (q : Nat → Int32) (f : Nat) : Bool := decide (0 < szF q f ∧ swF q f = szF q f)
def sQ4 (q : Nat → Int32) (f p : Nat) : Nat → Int32 := if sB4 q f = true then rafQ q f p else q
def sB6 (q : Nat → Int32) (f a b : Nat) : Bool := decide (a < 6 ∧ b < 6 ∧ 0 < szF q f ∧ swF q f = 0)
def sQ6 (q : Nat → Int32) (f a b : Nat) : Nat → Int32 := if sB6 q f a b = true then recQ q f a b else q
theorem d34 (g : Nat) : 10 * (g % 100 / 10) + g % 100 % 10 = g % 100 := by omega
theorem cmd16 {q : Nat → Int32} {g : Nat} (h1 : 1 ≤ g / 1000) (h2 : g / 1000 ≤ 6) : cmdB q g = actB q (g / 1000) (g / 100 % 10) (g % 100 / 10) (g % 100 % 10) ∧ cmdQ q g = if actB q (g / 1000) (g / 100 % 10) (g % 100 / 10) (g % 100 % 10) = true then actG q (g / 1000) (g / 100 % 10) (g % 100 / 10) (g % 100 % 10) else q := cmd6 (decide_eq_true ⟨h1, h2⟩)
theorem cmdX {q : Nat → Int32} {g : Nat} {b : Bool} {q2 : Nat → Int32} (h1 : 1 ≤ g / 1000) (h2 : g / 1000 ≤ 6) (hb : actB q (g / 1000) (g / 100 % 10) (g % 100 / 10) (g % 100 % 10) = b) (hq : b = true → actG q (g / 1000) (g / 100 % 10) (g % 100 / 10) (g % 100 % 10) = q2) : cmdB q g = b ∧ cmdQ q g = if b = true then q2 else q := by
  obtain ⟨e1, e2⟩ := cmd16 (q := q) h1 h2
  refine ⟨e1.trans hb, ?_⟩
  rw [e2, hb]
  cases b with
  | false => rfl
  | true => rw [if_pos rfl, if_pos rfl]; exact hq rfl
theorem cmdO {q : Nat → Int32} {g : Nat} (h1 : 1 ≤ g / 1000) (h2 : g / 1000 ≤ 6) (hb : actB q (g / 1000) (g / 100 % 10) (g % 100 / 10) (g % 100 % 10) = false) : cmdB q g = false ∧ cmdQ q g = q := by
  obtain ⟨e1, e2⟩ := cmdX (q2 := q) h1 h2 hb (fun z => by cases z)
  exact ⟨e1, by rw [e2, if_neg (by decide)]⟩
theorem cmd_1 {q : Nat → Int32} {g : Nat} (h : g / 1000 = 1) (hf : g / 100 % 10 < 3) : cmdB q g = sB1 q (g / 100 % 10) (g % 100) ∧ cmdQ q g = sQ1 q (g / 100 % 10) (g % 100) := by
  refine cmdX (by omega) (by omega) ?_ (fun _ => ?_)
  · rw [h]
    show decide (_ ∧ 0 < 10 * (g % 100 / 10) + g % 100 % 10 ∧ _) = _
    rw [d34]
    unfold sB1
    exact decide_eq_decide.mpr ⟨fun z => z.2, fun z => ⟨hf, z⟩⟩
  · rw [h]
    show sewE _ (10 * (g % 100 / 10) + g % 100 % 10) q = _
    rw [d34]
theorem cmd_1o {q : Nat → Int32} {g : Nat} (h : g / 1000 = 1) (hf : ¬ g / 100 % 10 < 3) : cmdB q g = false ∧ cmdQ q g = q := cmdO (by omega) (by omega) (by rw [h]; exact decide_eq_false (fun z => hf z.1))
theorem cmd_2 {q : Nat → Int32} {g : Nat} (h : g / 1000 = 2) (hf : g / 100 % 10 < nmQ q) : cmdB q g = sB2 (g / 10 % 10) (g % 10) ∧ cmdQ q g = sQ2 q (g / 100 % 10) (g / 10 % 10) (g % 10) := by
  have e1 : g % 100 / 10 = g / 10 % 10 := by omega
  have e2 : g % 100 % 10 = g % 10 := by omega
  refine cmdX (by omega) (by omega) ?_ (fun _ => ?_)
  · rw [h, e1, e2]
    exact decide_eq_decide.mpr ⟨fun z => z.2, fun z => ⟨hf, z⟩⟩
  · rw [h, e1, e2]
    rfl
theorem cmd_2o {q : Nat → Int32} {g : Nat} (h : g / 1000 = 2) (hf : ¬ g / 100 % 10 < nmQ q) : cmdB q g = false ∧ cmdQ q g = q := cmdO (by omega) (by omega) (by rw [h]; exact decide_eq_false (fun z => hf z.1))
theorem cmd_3 {q : Nat → Int32} {g : Nat} (h : g / 1000 = 3) (hf : g / 100 % 10 < 3) (h0 : g % 100 = 0) : cmdB q g = sB3 q (g / 100 % 10) ∧ cmdQ q g = sQ3 q (g / 100 % 10) := by
  refine cmdX (by omega) (by omega) ?_ (fun _ => ?_)
  · rw [h]
    show decide (_ ∧ _ ∧ 10 * (g % 100 / 10) + g % 100 % 10 = 0) = _
    rw [d34]
    unfold sB3
    exact decide_eq_decide.mpr ⟨fun z => z.2.1, fun z => ⟨hf, z, h0⟩⟩
  · rw [h]
    rfl
theorem cmd_3o {q : Nat → Int32} {g : Nat} (h : g / 1000 = 3) (hf : ¬ g / 100 % 10 < 3 ∨ ¬ g % 100 = 0) : cmdB q g = false ∧ cmdQ q g = q := cmdO (by omega) (by omega) (by
  rw [h]
  refine decide_eq_false (fun z => ?_)
  have := d34 g
  omega)
theorem cmd_4 {q : Nat → Int32} {g : Nat} (h : g / 1000 = 4) (hf : g / 100 % 10 < 3) : cmdB q g = sB4 q (g / 100 % 10) ∧ cmdQ q g = sQ4 q (g / 100 % 10) (g % 100) := by
  refine cmdX (by omega) (by omega) ?_ (fun _ => ?_)
  · rw [h]
    exact decide_eq_decide.mpr ⟨fun z => z.2, fun z => ⟨hf, z⟩⟩
  · rw [h]
    show rafQ q _ (10 * (g % 100 / 10) + g % 100 % 10) = _
    rw [d34]
theorem cmd_4o {q : Nat → Int32} {g : Nat} (h : g / 1000 = 4) (hf : ¬ g / 100 % 10 < 3) : cmdB q g = false ∧ cmdQ q g = q := cmdO (by omega) (by omega) (by rw [h]; exact decide_eq_false (fun z => hf z.1))
theorem cmd_5 {q : Nat → Int32} {g : Nat} (h : g / 1000 = 5) (h0 : g % 1000 = 0) : cmdB q g = true ∧ cmdQ q g = retO q 6 := by
  obtain ⟨e1, e2⟩ := cmdX (q := q) (g := g) (b := true) (q2 := retO q 6) (by omega) (by omega) (by rw [h]; exact decide_eq_true (by omega)) (fun _ => by rw [h]; rfl)
  exact ⟨e1, by rw [e2, if_pos rfl]⟩
theorem cmd_5o {q : Nat → Int32} {g : Nat} (h : g / 1000 = 5) (h0 : ¬ g % 1000 = 0) : cmdB q g = false ∧ cmdQ q g = q := cmdO (by omega) (by omega) (by rw [h]; exact decide_eq_false (fun z => by omega))
theorem cmd_6 {q : Nat → Int32} {g : Nat} (h : g / 1000 = 6) (hf : g / 100 % 10 < 3) : cmdB q g = sB6 q (g / 100 % 10) (g / 10 % 10) (g % 10) ∧ cmdQ q g = sQ6 q (g / 100 % 10) (g / 10 % 10) (g % 10) := by
  have e1 : g % 100 / 10 = g / 10 % 10 := by omega
  have e2 : g % 100 % 10 = g % 10 := by omega
  refine cmdX (by omega) (by omega) ?_ (fun _ => ?_)
  · rw [h, e1, e2]
    exact decide_eq_decide.mpr ⟨fun z => z.2, fun z => ⟨hf, z⟩⟩
  · rw [h, e1, e2]
    rfl
theorem cmd_6o {q : Nat → Int32} {g : Nat} (h : g / 1000 = 6) (hf : ¬ g / 100 % 10 < 3) : cmdB q g = false ∧ cmdQ q g = q := cmdO (by omega) (by omega) (by rw [h]; exact decide_eq_false (fun z => hf z.1))
theorem cmdA_f {g : Nat} (h : ¬ (1 ≤ g / 1000 ∧ g / 1000 ≤ 6)) : cmdA g = false := decide_eq_false h
theorem cmd_0 {q : Nat → Int32} {g : Nat} (h : g / 1000 = 0) : cmdB q g = false ∧ cmdQ q g = q := by
  have ha := cmdA_f (g := g) (by omega)
  refine ⟨?_, cmdQ_f ha⟩
  rw [cmd9 ha (by omega) (by omega)]
  exact decide_eq_false (by omega)
