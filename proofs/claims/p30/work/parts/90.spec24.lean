/-! the class's piece finder -/
/-- a place told by two numbers: a patch, or none -/
def NbR (w h : Nat) (x y : Int32) : Option Nat → Prop
  | none => x < 0 ∨ ∃ a, a < 2147483648 ∧ x = nI a ∧ (y < 0 ∨ ∃ b, b < 2147483648 ∧ y = nI b ∧ ¬ (a < w ∧ b < h))
  | some j => ∃ a b, x = nI a ∧ y = nI b ∧ a < w ∧ b < h ∧ j = b * w + a
/-- what the finder holds while it looks for the piece with the least patch i: M is found of it -/
def FI (lb : Nat → Nat) (n i : Nat) (M : Nat → Bool) (fd pc : Nat → Int32) (ps : Nat) : Prop :=
  (∀ j, j < 256 → fd j = bI (decide (lb j < i ∧ j < n) || M j)) ∧ ps = cntR M 0 n ∧ (∀ t, t < ps → ∃ x, pc t = nI x ∧ x < n ∧ M x = true) ∧ (∀ x, M x = true → x < n ∧ lb x = i ∧ ∃ t, t < ps ∧ pc t = nI x)
/-- all that touch the first k of the row are found -/
def FN (w n : Nat) (col : Nat → Nat) (M : Nat → Bool) (pc : Nat → Int32) (k : Nat) : Prop := ∀ t, t < k → ∀ x, x < n → pc t = nI x → ∀ y, (Edg w n col x y ∨ Edg w n col y x) → M y = true
theorem nI_inj {a b : Nat} (ha : a < 2147483648) (hb : b < 2147483648) (h : nI a = nI b) : a = b := by
  have h1 := congrArg Int32.toInt h
  rw [nI_toInt (by omega), nI_toInt (by omega)] at h1
  omega
theorem m1_neg : (nI 0 - nI 1 : Int32) < 0 := by decide
theorem nI_s1 {a : Nat} (h : 0 < a) : nI a - nI 1 = nI (a - 1) := by
  obtain ⟨b, rfl⟩ : ∃ b, a = b + 1 := ⟨a - 1, by omega⟩
  rw [Nat.add_sub_cancel, ← nI_add, Int32.add_sub_cancel]
section FIS
variable {lb : Nat → Nat} {n i : Nat} {M : Nat → Bool} {fd pc : Nat → Int32} {ps : Nat} {w h : Nat} {col : Nat → Nat}
theorem FI.ps_le (hf : FI lb n i M fd pc ps) : ps ≤ n := by
  rw [hf.2.1]
  exact cntR_le _ _ _
/-- a patch more -/
theorem FI.add {j : Nat} (hf : FI lb n i M fd pc ps) (hj : j < n) (hl : lb j = i) (hm : M j = false) : FI lb n i (fun z => if z = j then true else M z) (upd fd j (vp_nar .boolean (nI 1))) (upd pc ps (nI j)) (ps + 1) := by
  obtain ⟨h1, h2, h3, h4⟩ := hf
  refine ⟨fun z hz => ?_, ?_, fun t ht => ?_, fun x hx => ?_⟩
  · show upd fd j (vp_nar .boolean (nI 1)) z = bI (decide (lb z < i ∧ z < n) || (if z = j then true else M z))
    by_cases e : z = j
    · rw [e, upd_s (α := Nat), if_pos rfl, Bool.or_true]
      rfl
    · rw [upd_n e, if_neg e]
      exact h1 z hz
  · rw [cnt_up hm, if_pos hj, h2]
  · by_cases e : t = ps
    · exact ⟨j, by rw [e, upd_s (α := Nat)], hj, if_pos rfl⟩
    · obtain ⟨x, a1, a2, a3⟩ := h3 t (by omega)
      refine ⟨x, by rw [upd_n e]; exact a1, a2, ?_⟩
      show (if x = j then true else M x) = true
      rw [a3, ite_self]
  · by_cases e : x = j
    · rw [e]
      exact ⟨hj, hl, ps, Nat.lt_succ_self _, upd_s (α := Nat)⟩
    · have hx2 : M x = true := (if_neg e).symm.trans hx
      obtain ⟨a1, a2, t, a3, a4⟩ := h4 x hx2
      exact ⟨a1, a2, t, Nat.lt_succ_of_lt a3, by rw [upd_n (by omega)]; exact a4⟩
theorem FI.at_ {j : Nat} (hf : FI lb n i M fd pc ps) (hj : j < 256) (hl : lb j = i) : fd j = bI (M j) := by
  rw [hf.1 j hj, decide_eq_false (fun y => by omega), Bool.false_or]
theorem FI.first (hn : n ≤ 256) (hf : ∀ j, j < 256 → fd j = bI (decide (lb j < i ∧ j < n))) : FI lb n i (fun _ => false) fd pc 0 := by
  refine ⟨fun j hj => by rw [Bool.or_false]; exact hf j hj, ?_, fun t ht => absurd ht (Nat.not_lt_zero _), fun x hx => absurd hx Bool.false_ne_true⟩
  exact (cntR_none (P := fun _ => false) (fun _ => rfl) 0 n).symm
/-- at the end: all of the piece are found -/
theorem FI.all (hf : FI (labC w n col) n i M fd pc ps) (hN : FN w n col M pc ps) (hi : M i = true) {x : Nat} : M x = true ↔ x < n ∧ labC w n col x = i := by
  constructor
  · intro hx
    obtain ⟨a1, a2, _⟩ := hf.2.2.2 x hx
    exact ⟨a1, a2⟩
  · intro hx
    have hc : ClE w n col (fun z => M z = true) := fun a b hab => by
      constructor
      · intro ha
        obtain ⟨a1, a2, t, a3, a4⟩ := hf.2.2.2 a ha
        exact hN t a3 a a1 a4 b (Or.inl hab)
      · intro hb
        obtain ⟨a1, a2, t, a3, a4⟩ := hf.2.2.2 b hb
        exact hN t a3 b a1 a4 a (Or.inr hab)
    have h1 := (lab_cn (w := w) (n := n) (col := col) x) _ hc
    rw [hx.2] at h1
    exact h1.mp hi
theorem FI.size (hf : FI (labC w n col) n i M fd pc ps) (hN : FN w n col M pc ps) (hi : M i = true) : ps = szL (labC w n col) n i := by
  rw [hf.2.1]
  refine cntR_congr (fun k _ hk => ?_)
  by_cases z : labC w n col k = i
  · rw [(hf.all hN hi).mpr ⟨by omega, z⟩, decide_eq_true z]
  · rw [decide_eq_false z]
    cases hm : M k with
    | false => rfl
    | true => exact absurd ((hf.all hN hi).mp hm).2 z
theorem FI.done (hf : FI (labC w n col) n i M fd pc ps) (hN : FN w n col M pc ps) (hi : M i = true) : ∀ j, j < 256 → fd j = bI (decide (labC w n col j < i + 1 ∧ j < n)) := fun j hj => by
  rw [hf.1 j hj]
  refine congrArg bI ?_
  by_cases z : labC w n col j = i ∧ j < n
  · rw [(hf.all hN hi).mpr ⟨z.2, z.1⟩, Bool.or_true, decide_eq_true (by omega)]
  · have hm : M j = false := by
      cases hm : M j with
      | false => rfl
      | true => exact absurd ((hf.all hN hi).mp hm).symm z
    rw [hm, Bool.or_false]
    by_cases z2 : labC w n col j < i ∧ j < n
    · rw [decide_eq_true z2, decide_eq_true (by omega)]
    · rw [decide_eq_false z2, decide_eq_false (by omega)]
end FIS
/-- where there is no piece to begin -/
theorem fd_no {w n : Nat} {col : Nat → Nat} {fd : Nat → Int32} {i : Nat} (hf : ∀ j, j < 256 → fd j = bI (decide (labC w n col j < i ∧ j < n))) (hi : labC w n col i < i) : ∀ j, j < 256 → fd j = bI (decide (labC w n col j < i + 1 ∧ j < n)) := fun j hj => by
  rw [hf j hj]
  have h1 : ¬ labC w n col j = i := fun e => by
    have h2 := lab_lab (w := w) (n := n) (col := col) j
    rw [e] at h2
    omega
  by_cases z : labC w n col j < i ∧ j < n
  · rw [decide_eq_true z, decide_eq_true (by omega)]
  · rw [decide_eq_false z, decide_eq_false (by omega)]
/-! the four that may touch -/
section NBS
variable {w h x : Nat} {col : Nat → Nat}
def nbL (w x : Nat) : Option Nat := if 0 < x % w then some (x - 1) else none
def nbT (w x : Nat) : Option Nat := if x % w + 1 < w then some (x + 1) else none
def nbU (w x : Nat) : Option Nat := if 0 < x / w then some (x - w) else none
def nbD (w h x : Nat) : Option Nat := if x / w + 1 < h then some (x + w) else none
theorem nb_xy (hx : x < w * h) : 0 < w ∧ x % w < w ∧ x / w < h ∧ x / w * w + x % w = x := by
  have hw : 0 < w := by
    rcases Nat.eq_zero_or_pos w with z | z
    · rw [z, Nat.zero_mul] at hx; omega
    · exact z
  exact ⟨hw, Nat.mod_lt _ hw, Nat.div_lt_of_lt_mul hx, Nat.div_add_mod' x w⟩
theorem nbL_R (hw16 : w ≤ 16) (hh16 : h ≤ 16) (hx : x < w * h) : NbR w h (nI (x % w) - nI 1) (nI (x / w)) (nbL w x) := by
  obtain ⟨h1, h2, h3, h4⟩ := nb_xy hx
  unfold nbL
  by_cases z : 0 < x % w
  · rw [if_pos z]
    exact ⟨x % w - 1, x / w, nI_s1 z, rfl, by omega, h3, by omega⟩
  · rw [if_neg z, Nat.eq_zero_of_not_pos z]
    exact Or.inl m1_neg
theorem nbT_R (hw16 : w ≤ 16) (hh16 : h ≤ 16) (hx : x < w * h) : NbR w h (nI (x % w + 1)) (nI (x / w)) (nbT w x) := by
  obtain ⟨h1, h2, h3, h4⟩ := nb_xy hx
  unfold nbT
  by_cases z : x % w + 1 < w
  · rw [if_pos z]
    exact ⟨x % w + 1, x / w, rfl, rfl, z, h3, by omega⟩
  · rw [if_neg z]
    exact Or.inr ⟨x % w + 1, by omega, rfl, Or.inr ⟨x / w, by omega, rfl, fun y => z y.1⟩⟩
theorem nbU_R (hw16 : w ≤ 16) (hh16 : h ≤ 16) (hx : x < w * h) : NbR w h (nI (x % w)) (nI (x / w) - nI 1) (nbU w x) := by
  obtain ⟨h1, h2, h3, h4⟩ := nb_xy hx
  unfold nbU
  by_cases z : 0 < x / w
  · rw [if_pos z]
    obtain ⟨b, hb⟩ : ∃ b, x / w = b + 1 := ⟨x / w - 1, by omega⟩
    refine ⟨x % w, x / w - 1, rfl, nI_s1 z, h2, by omega, ?_⟩
    rw [hb, Nat.add_mul, Nat.one_mul] at h4
    rw [hb, Nat.add_sub_cancel]
    omega
  · rw [if_neg z, Nat.eq_zero_of_not_pos z]
    exact Or.inr ⟨x % w, by omega, rfl, Or.inl m1_neg⟩
theorem nbD_R (hw16 : w ≤ 16) (hh16 : h ≤ 16) (hx : x < w * h) : NbR w h (nI (x % w)) (nI (x / w + 1)) (nbD w h x) := by
  obtain ⟨h1, h2, h3, h4⟩ := nb_xy hx
  unfold nbD
  by_cases z : x / w + 1 < h
  · rw [if_pos z]
    refine ⟨x % w, x / w + 1, rfl, rfl, h2, z, ?_⟩
    rw [Nat.add_mul, Nat.one_mul]
    omega
  · rw [if_neg z]
    exact Or.inr ⟨x % w, by omega, rfl, Or.inr ⟨x / w + 1, by omega, rfl, fun y => z y.2⟩⟩
/-- the edges at x: where they lead -/
theorem nb_of {y : Nat} (hx : x < w * h) (e : Edg w (w * h) col x y ∨ Edg w (w * h) col y x) : nbL w x = some y ∨ nbT w x = some y ∨ nbU w x = some y ∨ nbD w h x = some y := by
  obtain ⟨h1, h2, h3, h4⟩ := nb_xy hx
  unfold nbL nbT nbU nbD
  rcases e with ⟨a1, a2, ⟨a3, rfl⟩ | rfl⟩ | ⟨a1, a2, ⟨a3, rfl⟩ | rfl⟩
  · exact Or.inr (Or.inl (if_pos a3))
  · have h5 : (x + w) / w < h := Nat.div_lt_of_lt_mul a1
    rw [Nat.add_div_right x h1] at h5
    exact Or.inr (Or.inr (Or.inr (if_pos h5)))
  · have h5 : (y + 1) % w = y % w + 1 := by
      have h6 := Nat.div_add_mod' y w
      have h7 := (lin_mod (w := w) (x := y % w + 1) (y := y / w) a3).1
      rw [← Nat.add_assoc, h6] at h7
      exact h7
    rw [h5, if_pos (Nat.succ_pos _)]
    exact Or.inl (by rw [Nat.add_sub_cancel])
  · rw [Nat.add_div_right y h1, if_pos (Nat.succ_pos _), Nat.add_sub_cancel]
    exact Or.inr (Or.inr (Or.inl rfl))
/-- what lies there, of the same colour, is of the same piece -/
theorem nb_cn {y : Nat} (hx : x < w * h) (e : nbL w x = some y ∨ nbT w x = some y ∨ nbU w x = some y ∨ nbD w h x = some y) : y < w * h ∧ (col y = col x → labC w (w * h) col y = labC w (w * h) col x) := by
  obtain ⟨h1, h2, h3, h4⟩ := nb_xy hx
  unfold nbL nbT nbU nbD at e
  rcases e with e | e | e | e
  · by_cases z : 0 < x % w
    · rw [if_pos z] at e
      obtain rfl : x - 1 = y := Option.some.inj e
      have h7 := (lin_mod (w := w) (x := x % w - 1) (y := x / w) (by omega)).1
      rw [show x / w * w + (x % w - 1) = x - 1 by omega] at h7
      exact ⟨by omega, fun hc => lab_eq (Edg.cnn ⟨hx, hc, Or.inl ⟨by omega, by omega⟩⟩)⟩
    · rw [if_neg z] at e; cases e
  · by_cases z : x % w + 1 < w
    · rw [if_pos z] at e
      obtain rfl : x + 1 = y := Option.some.inj e
      have h7 := edg_in hx z
      exact ⟨h7, fun hc => (lab_eq (Edg.cnn ⟨h7, hc.symm, Or.inl ⟨z, rfl⟩⟩)).symm⟩
    · rw [if_neg z] at e; cases e
  · by_cases z : 0 < x / w
    · rw [if_pos z] at e
      obtain rfl : x - w = y := Option.some.inj e
      have h8 : w ≤ x := by
        rcases Nat.lt_or_ge x w with y9 | y9
        · rw [Nat.div_eq_of_lt y9] at z; omega
        · exact y9
      exact ⟨by omega, fun hc => lab_eq (Edg.cnn ⟨hx, hc, Or.inr (by omega)⟩)⟩
    · rw [if_neg z] at e; cases e
  · by_cases z : x / w + 1 < h
    · rw [if_pos z] at e
      obtain rfl : x + w = y := Option.some.inj e
      have h8 : x + w < w * h := by
        have h9 : (x / w + 2) * w ≤ h * w := Nat.mul_le_mul_right w z
        rw [Nat.add_mul, Nat.mul_comm h w] at h9
        omega
      exact ⟨h8, fun hc => (lab_eq (Edg.cnn ⟨h8, hc.symm, Or.inr rfl⟩)).symm⟩
    · rw [if_neg z] at e; cases e
end NBS
theorem NbR.four {w h : Nat} {x y : Int32} {jo : Option Nat} (hn : NbR w h x y jo) : (jo = none ∧ x < 0) ∨ (jo = none ∧ ∃ a, a < 2147483648 ∧ x = nI a ∧ y < 0) ∨ (jo = none ∧ ∃ a b, a < 2147483648 ∧ b < 2147483648 ∧ x = nI a ∧ y = nI b ∧ ¬ (a < w ∧ b < h)) ∨ ∃ a b, x = nI a ∧ y = nI b ∧ a < w ∧ b < h ∧ jo = some (b * w + a) := by
  cases jo with
  | none =>
    rcases hn with z | ⟨a, h1, h2, z | ⟨b, h3, h4, h5⟩⟩
    · exact Or.inl ⟨rfl, z⟩
    · exact Or.inr (Or.inl ⟨rfl, a, h1, h2, z⟩)
    · exact Or.inr (Or.inr (Or.inl ⟨rfl, a, b, h1, h3, h2, h4, h5⟩))
  | some j =>
    obtain ⟨a, b, h1, h2, h3, h4, h5⟩ := hn
    exact Or.inr (Or.inr (Or.inr ⟨a, b, h1, h2, h3, h4, congrArg some h5⟩))
theorem FN.next {w n : Nat} {col : Nat → Nat} {M M2 : Nat → Bool} {pc pc2 : Nat → Int32} {k x5 : Nat} (hN : FN w n col M pc k) (hm : ∀ x, M x = true → M2 x = true) (hp : ∀ t, t < k + 1 → pc2 t = pc t) (hx : pc k = nI x5) (hx5 : x5 < n) (hn : n ≤ 256) (ha : ∀ y, (Edg w n col x5 y ∨ Edg w n col y x5) → M2 y = true) : FN w n col M2 pc2 (k + 1) := fun t ht x hxn hpx y e => by
  rw [hp t ht] at hpx
  by_cases e9 : t = k
  · rw [e9, hx] at hpx
    have h9 := nI_inj (by omega) (by omega) hpx
    rw [← h9] at e
    exact ha y e
  · exact hm y (hN t (by omega) x hxn hpx y e)
theorem max_gr {L : Nat → Nat} {n k : Nat} (hn : n ≤ 256) : (if nI (grN L n k) < nI (szL L n k) then nI (szL L n k) else nI (grN L n k)) = nI (grN L n (k + 1)) := by
  have h1 := szL_le L n k
  have h2 := grN_le L n k
  show _ = nI (if grN L n k < szL L n k then szL L n k else grN L n k)
  by_cases z : grN L n k < szL L n k
  · rw [if_pos z, if_pos ((nI_lt2 (by omega) (by omega)).mpr z)]
  · rw [if_neg z, if_neg (fun y => z ((nI_lt2 (by omega) (by omega)).mp y))]
