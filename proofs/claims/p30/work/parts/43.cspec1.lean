/-! copying a state; cloth that is missing: pure words -/
theorem PT.sewn {g : GG} {D : Nat → Prop} {P : Nat → Option Nat} {q qi : Nat → Int32} {H : Heap} {f m i : Nat} {x : Int32} (hp : PT g D P q H) (h : SewRel q qi f m i) : PT g D P (upd qi 1 x) H := hp.congr (fun _ _ => rfl) (fun j hj => by
  have e : Same qi (upd qi 1 x) j := fun i a b => upd_n (by omega)
  have hz := WF.sz (h.1.fr hj)
  by_cases ej : j = f
  · subst ej
    have hsz := h.sz
    refine ⟨e.wd.trans h.2.2.1, e.ht.trans h.2.2.2.1, fun k hk => ?_⟩
    have hk2 : k < 256 := by
      have : k < szF q j := hk
      omega
    exact (e.cl hk2).trans (h.2.1 k hk2)
  · have s := h.2.2.2.2.1 j hj ej
    have hsz := s.sz
    refine ⟨e.wd.trans s.wd, e.ht.trans s.ht, fun k hk => ?_⟩
    have hk2 : k < 256 := by
      have : k < szF q j := hk
      omega
    exact (e.cl hk2).trans (s.cl hk2))
def cpM (z y : Nat → Int32) (i : Nat) : Nat → Int32 := fun j => if (5 ≤ j ∧ j < 5 + i) ∨ (10 ≤ j ∧ j < 10 + i) ∨ (45 ≤ j ∧ j < 45 + i) ∨ (15 ≤ j ∧ j < 15 + 6 * i) then y j else z j
def cpC (z y : Nat → Int32) (i : Nat) : Nat → Int32 := fun j => if (50 ≤ j ∧ j < 50 + i) ∨ (74 ≤ j ∧ j < 74 + i) ∨ (68 ≤ j ∧ j < 68 + i) ∨ (56 ≤ j ∧ j < 56 + i) ∨ (62 ≤ j ∧ j < 62 + i) then y j else z j
def cpF (z y : Nat → Int32) (i : Nat) : Nat → Int32 := fun j => if (80 ≤ j ∧ j < 80 + i) ∨ (83 ≤ j ∧ j < 83 + 5 * i) then y j else z j
def cpP (P P2 : Nat → Option Nat) (i : Nat) : Nat → Option Nat := fun k => if k < i then P2 k else P k
theorem cpM_0 (z y : Nat → Int32) : cpM z y 0 = z := funext fun j => if_neg (by omega)
theorem cpC_0 (z y : Nat → Int32) : cpC z y 0 = z := funext fun j => if_neg (by omega)
theorem cpF_0 (z y : Nat → Int32) : cpF z y 0 = z := funext fun j => if_neg (by omega)
theorem cpP_0 (P P2 : Nat → Option Nat) : cpP P P2 0 = P := funext fun j => if_neg (by omega)
theorem cpM_up {z y : Nat → Int32} {i : Nat} (hi : i < 5) : cpM1 (cpM z y i) y i = cpM z y (i + 1) := by
  funext j
  unfold cpM1
  by_cases e4 : 15 + 6 * i ≤ j ∧ j < 15 + 6 * i + 6
  · have e5 : layR (upd (upd (upd (cpM z y i) (5 + i) (y (5 + i))) (10 + i) (y (10 + i))) (45 + i) (y (45 + i))) (15 + 6 * i) 6 (fun j7 => y (15 + 6 * i + j7)) j = y j := by
      have := layR_in (z := upd (upd (upd (cpM z y i) (5 + i) (y (5 + i))) (10 + i) (y (10 + i))) (45 + i) (y (45 + i))) (b := 15 + 6 * i) (n := 6) (f := fun j7 => y (15 + 6 * i + j7)) (j := j - (15 + 6 * i)) (by omega)
      rw [show 15 + 6 * i + (j - (15 + 6 * i)) = j by omega] at this
      rw [this]
    rw [e5]
    unfold cpM
    rw [if_pos (by omega)]
  · rw [layR_out (by omega)]
    by_cases e3 : j = 45 + i
    · subst e3
      rw [upd_s (α := Nat)]
      unfold cpM
      rw [if_pos (by omega)]
    · rw [upd_n e3]
      by_cases e2 : j = 10 + i
      · subst e2
        rw [upd_s (α := Nat)]
        unfold cpM
        rw [if_pos (by omega)]
      · rw [upd_n e2]
        by_cases e1 : j = 5 + i
        · subst e1
          rw [upd_s (α := Nat)]
          unfold cpM
          rw [if_pos (by omega)]
        · rw [upd_n e1]
          unfold cpM
          by_cases e0 : (5 ≤ j ∧ j < 5 + i) ∨ (10 ≤ j ∧ j < 10 + i) ∨ (45 ≤ j ∧ j < 45 + i) ∨ (15 ≤ j ∧ j < 15 + 6 * i)
          · rw [if_pos e0, if_pos (by omega)]
          · rw [if_neg e0, if_neg (by omega)]
theorem cpC_up {z y : Nat → Int32} {i : Nat} (hi : i < 6) : cpC1 (cpC z y i) y i = cpC z y (i + 1) := by
  funext j
  unfold cpC1
  by_cases e5 : j = 62 + i
  · subst e5
    rw [upd_s (α := Nat)]
    unfold cpC
    rw [if_pos (by omega)]
  · rw [upd_n e5]
    by_cases e4 : j = 56 + i
    · subst e4
      rw [upd_s (α := Nat)]
      unfold cpC
      rw [if_pos (by omega)]
    · rw [upd_n e4]
      by_cases e3 : j = 68 + i
      · subst e3
        rw [upd_s (α := Nat)]
        unfold cpC
        rw [if_pos (by omega)]
      · rw [upd_n e3]
        by_cases e2 : j = 74 + i
        · subst e2
          rw [upd_s (α := Nat)]
          unfold cpC
          rw [if_pos (by omega)]
        · rw [upd_n e2]
          by_cases e1 : j = 50 + i
          · subst e1
            rw [upd_s (α := Nat)]
            unfold cpC
            rw [if_pos (by omega)]
          · rw [upd_n e1]
            unfold cpC
            by_cases e0 : (50 ≤ j ∧ j < 50 + i) ∨ (74 ≤ j ∧ j < 74 + i) ∨ (68 ≤ j ∧ j < 68 + i) ∨ (56 ≤ j ∧ j < 56 + i) ∨ (62 ≤ j ∧ j < 62 + i)
            · rw [if_pos e0, if_pos (by omega)]
            · rw [if_neg e0, if_neg (by omega)]
theorem cpF_up {z y : Nat → Int32} {i : Nat} (hi : i < 3) : cpF1 (cpF z y i) y i = cpF z y (i + 1) := by
  funext j
  unfold cpF1
  by_cases e4 : 83 + 5 * i ≤ j ∧ j < 83 + 5 * i + 5
  · have e5 : layR (upd (cpF z y i) (80 + i) (y (80 + i))) (83 + 5 * i) 5 (fun j7 => y (83 + 5 * i + j7)) j = y j := by
      have := layR_in (z := upd (cpF z y i) (80 + i) (y (80 + i))) (b := 83 + 5 * i) (n := 5) (f := fun j7 => y (83 + 5 * i + j7)) (j := j - (83 + 5 * i)) (by omega)
      rw [show 83 + 5 * i + (j - (83 + 5 * i)) = j by omega] at this
      rw [this]
    rw [e5]
    unfold cpF
    rw [if_pos (by omega)]
  · rw [layR_out (by omega)]
    by_cases e1 : j = 80 + i
    · subst e1
      rw [upd_s (α := Nat)]
      unfold cpF
      rw [if_pos (by omega)]
    · rw [upd_n e1]
      unfold cpF
      by_cases e0 : (80 ≤ j ∧ j < 80 + i) ∨ (83 ≤ j ∧ j < 83 + 5 * i)
      · rw [if_pos e0, if_pos (by omega)]
      · rw [if_neg e0, if_neg (by omega)]
theorem cpP_up {P P2 : Nat → Option Nat} {i : Nat} : va_up (cpP P P2 i) i (P2 i) = cpP P P2 (i + 1) := by
  funext k
  by_cases e : k = i
  · subst e; rw [va_up_s]; unfold cpP; rw [if_pos (by omega)]
  · rw [va_up_n e]
    unfold cpP
    by_cases h : k < i
    · rw [if_pos h, if_pos (by omega)]
    · rw [if_neg h, if_neg (by omega)]
theorem cp_all {z y : Nat → Int32} : ∀ j, j < 98 → cpF (cpC (cpM (upd (upd (upd (upd (upd z 0 (y 0)) 1 (y 1)) 2 (y 2)) 3 (y 3)) 4 (y 4)) y 5) y 6) y 3 j = y j := fun j hj => by
  unfold cpF
  by_cases e1 : (80 ≤ j ∧ j < 80 + 3) ∨ (83 ≤ j ∧ j < 83 + 5 * 3)
  · rw [if_pos e1]
  · rw [if_neg e1]
    unfold cpC
    by_cases e2 : (50 ≤ j ∧ j < 50 + 6) ∨ (74 ≤ j ∧ j < 74 + 6) ∨ (68 ≤ j ∧ j < 68 + 6) ∨ (56 ≤ j ∧ j < 56 + 6) ∨ (62 ≤ j ∧ j < 62 + 6)
    · rw [if_pos e2]
    · rw [if_neg e2]
      unfold cpM
      by_cases e3 : (5 ≤ j ∧ j < 5 + 5) ∨ (10 ≤ j ∧ j < 10 + 5) ∨ (45 ≤ j ∧ j < 45 + 5) ∨ (15 ≤ j ∧ j < 15 + 6 * 5)
      · rw [if_pos e3]
      · rw [if_neg e3]
        rcases (show j = 0 ∨ j = 1 ∨ j = 2 ∨ j = 3 ∨ j = 4 by omega) with rfl | rfl | rfl | rfl | rfl
        · rw [upd_n (by omega), upd_n (by omega), upd_n (by omega), upd_n (by omega), upd_s (α := Nat)]
        · rw [upd_n (by omega), upd_n (by omega), upd_n (by omega), upd_s (α := Nat)]
        · rw [upd_n (by omega), upd_n (by omega), upd_s (α := Nat)]
        · rw [upd_n (by omega), upd_s (α := Nat)]
        · rw [upd_s (α := Nat)]
theorem i32_sub (a b : Int32) : a - b = a + -b := Int32.sub_eq_add_neg a b
def msN (q : Nat → Int32) (s c : Nat) : Nat → Int32
  | 0 => nI 0
  | f + 1 => msN q s c f + (if bitS s f = true then nI (cntC q f c (swF q f) (szF q f - swF q f)) else nI 0)
theorem msN_mis (q : Nat → Int32) (s c : Nat) : ∀ n, msN q s c n - q (50 + c) = misU q s c n
  | 0 => by
    show nI 0 - q (50 + c) = - q (50 + c)
    rw [nI_0, Int32.zero_sub]
  | n + 1 => by
    show msN q s c n + _ - q (50 + c) = misU q s c n + _
    rw [← msN_mis q s c n, i32_sub, i32_sub, Int32.add_assoc, Int32.add_assoc, Int32.add_comm (-q (50 + c))]
theorem misR_pos {q : Nat → Int32} {s c : Nat} : 0 < misR q s c ↔ ¬ misR q s c = 0 := by
  unfold misR
  by_cases h : misU q s c 3 ≤ 0
  · rw [if_pos h, nI_0]
    exact ⟨fun z => absurd z (by decide), fun z => absurd rfl z⟩
  · rw [if_neg h]
    refine ⟨fun z e => ?_, fun _ => Int32.not_le.mp h⟩
    rw [e] at z
    exact absurd z (by decide)
