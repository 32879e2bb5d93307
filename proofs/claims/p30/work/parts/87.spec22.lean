/-! pieces: patches of one colour that touch -/
/-- y lies right of x or below it, of the same colour -/
def Edg (w n : Nat) (col : Nat → Nat) (x y : Nat) : Prop := y < n ∧ col x = col y ∧ ((x % w + 1 < w ∧ y = x + 1) ∨ y = x + w)
def ClE (w n : Nat) (col : Nat → Nat) (S : Nat → Prop) : Prop := ∀ x y, Edg w n col x y → (S x ↔ S y)
/-- x and y are in one piece -/
def Cnn (w n : Nat) (col : Nat → Nat) (x y : Nat) : Prop := ∀ S : Nat → Prop, ClE w n col S → (S x ↔ S y)
section CNN
variable {w n : Nat} {col : Nat → Nat}
theorem Cnn.rf (x : Nat) : Cnn w n col x x := fun _ _ => Iff.rfl
theorem Cnn.sy {x y : Nat} (h : Cnn w n col x y) : Cnn w n col y x := fun S hS => (h S hS).symm
theorem Cnn.tr {x y z : Nat} (h : Cnn w n col x y) (h2 : Cnn w n col y z) : Cnn w n col x z := fun S hS => (h S hS).trans (h2 S hS)
theorem Edg.cnn {x y : Nat} (h : Edg w n col x y) : Cnn w n col x y := fun _ hS => hS x y h
theorem Cnn.colr {x y : Nat} (h : Cnn w n col x y) : col x = col y := (h (fun z => col x = col z) (fun a b hab => by
  have h1 := hab.2.1
  constructor
  · intro h2; exact h2.trans h1
  · intro h2; exact h2.trans h1.symm)).mp rfl
theorem ex_least {p : Nat → Prop} (k : Nat) : p k → ∃ m, p m ∧ m ≤ k ∧ ∀ j, j < m → p j → False := by
  induction k using Nat.strongRecOn with
  | ind k ih =>
    intro hk
    by_cases z : ∃ j, j < k ∧ p j
    · obtain ⟨j, h1, h2⟩ := z
      obtain ⟨m, a1, a2, a3⟩ := ih j h1 h2
      exact ⟨m, a1, by omega, a3⟩
    · exact ⟨k, hk, Nat.le_refl _, fun j h1 h2 => z ⟨j, h1, h2⟩⟩
end CNN
/-- the least patch of the piece -/
noncomputable def labC (w n : Nat) (col : Nat → Nat) (k : Nat) : Nat := Classical.choose (ex_least (p := fun j => Cnn w n col j k) k (Cnn.rf k))
theorem labC_sp (w n : Nat) (col : Nat → Nat) (k : Nat) : Cnn w n col (labC w n col k) k ∧ labC w n col k ≤ k ∧ ∀ j, j < labC w n col k → Cnn w n col j k → False := Classical.choose_spec (ex_least (p := fun j => Cnn w n col j k) k (Cnn.rf k))
section LAB
variable {w n : Nat} {col : Nat → Nat}
theorem lab_cn (k : Nat) : Cnn w n col (labC w n col k) k := (labC_sp w n col k).1
theorem lab_le (k : Nat) : labC w n col k ≤ k := (labC_sp w n col k).2.1
theorem lab_mn {j k : Nat} (h : Cnn w n col j k) : labC w n col k ≤ j := Nat.le_of_not_lt (fun z => (labC_sp w n col k).2.2 j z h)
theorem lab_eq {x y : Nat} (h : Cnn w n col x y) : labC w n col x = labC w n col y := Nat.le_antisymm (lab_mn ((lab_cn y).tr h.sy)) (lab_mn ((lab_cn x).tr h))
theorem lab_lab (k : Nat) : labC w n col (labC w n col k) = labC w n col k := lab_eq (lab_cn k)
/-- labels that agree along all edges, each from its own piece and not above it, are the least ones -/
theorem lab_of {L : Nat → Nat} (h1 : ∀ k, k < n → L k ≤ k ∧ Cnn w n col (L k) k) (h2 : ∀ x y, Edg w n col x y → L x = L y) {k : Nat} (hk : k < n) : L k = labC w n col k := by
  have a1 := h1 k hk
  have a2 : L (labC w n col k) = L k := ((lab_cn k) (fun z => L z = L k) (fun x y hxy => show (L x = L k ↔ L y = L k) by rw [h2 x y hxy])).mpr rfl
  have a3 := (h1 (labC w n col k) (Nat.lt_of_le_of_lt (lab_le k) hk)).1
  have a4 := lab_mn a1.2
  omega
end LAB
/-- how many patches have the label k -/
def szL (L : Nat → Nat) (n k : Nat) : Nat := cntR (fun j => decide (L j = k)) 0 n
def pcN (L : Nat → Nat) (n i : Nat) : Nat := cntR (fun k => decide (0 < szL L n k)) 0 i
def grN (L : Nat → Nat) (n : Nat) : Nat → Nat
  | 0 => 0
  | k + 1 => if grN L n k < szL L n k then szL L n k else grN L n k
theorem cnt_ex {P : Nat → Bool} : ∀ {m : Nat}, 0 < cntR P 0 m → ∃ k, k < m ∧ P k = true
  | 0, h => absurd h (Nat.lt_irrefl 0)
  | m + 1, h => by
    by_cases z : P m = true
    · exact ⟨m, Nat.lt_succ_self m, z⟩
    · have h2 : 0 < cntR P 0 m := by
        have h3 : 0 < cntR P 0 m + (if P (0 + m) = true then 1 else 0) := h
        rw [Nat.zero_add, if_neg z] at h3
        exact h3
      obtain ⟨k, a1, a2⟩ := cnt_ex h2
      exact ⟨k, Nat.lt_succ_of_lt a1, a2⟩
theorem cnt_in {P : Nat → Bool} {k : Nat} (h : P k = true) : ∀ {m : Nat}, k < m → 0 < cntR P 0 m
  | 0, hk => absurd hk (Nat.not_lt_zero _)
  | m + 1, hk => by
    show 0 < cntR P 0 m + (if P (0 + m) = true then 1 else 0)
    by_cases e : k = m
    · rw [Nat.zero_add, ← e, if_pos h]; omega
    · have := cnt_in h (m := m) (by omega)
      omega
theorem cnt_up {M : Nat → Bool} {j : Nat} (hj : M j = false) : ∀ {m : Nat}, cntR (fun z => if z = j then true else M z) 0 m = cntR M 0 m + (if j < m then 1 else 0)
  | 0 => by rw [if_neg (Nat.not_lt_zero _)]; rfl
  | m + 1 => by
    show cntR (fun z => if z = j then true else M z) 0 m + (if (if 0 + m = j then true else M (0 + m)) = true then 1 else 0) = cntR M 0 m + (if M (0 + m) = true then 1 else 0) + (if j < m + 1 then 1 else 0)
    rw [cnt_up hj (m := m), Nat.zero_add]
    by_cases e : m = j
    · subst e
      rw [if_pos rfl, if_pos rfl, hj, if_neg (Nat.lt_irrefl _), if_neg (by decide), if_pos (Nat.lt_succ_self _)]
    · rw [if_neg e]
      by_cases z : j < m
      · rw [if_pos z, if_pos (Nat.lt_succ_of_lt z)]
        omega
      · rw [if_neg z, if_neg (show ¬ j < m + 1 by omega), Nat.add_zero, Nat.add_zero]
theorem cnt_lt {M : Nat → Bool} {j m : Nat} (hj : M j = false) (hm : j < m) : cntR M 0 m < m := by
  have h1 := cnt_up hj (m := m)
  rw [if_pos hm] at h1
  have h2 := cntR_le (fun z => if z = j then true else M z) 0 m
  omega
section CNTS
variable {w n : Nat} {col : Nat → Nat}
theorem szL_pos {k : Nat} (hk : k < n) : 0 < szL (labC w n col) n k ↔ labC w n col k = k := by
  constructor
  · intro h
    obtain ⟨j, a1, a2⟩ := cnt_ex h
    have a3 := of_decide_eq_true a2
    rw [← a3]
    exact lab_lab j
  · intro h
    exact cnt_in (decide_eq_true h) hk
theorem pcN_s {k : Nat} (hk : k < n) : pcN (labC w n col) n (k + 1) = pcN (labC w n col) n k + (if labC w n col k = k then 1 else 0) := by
  show cntR _ 0 k + (if decide (0 < szL (labC w n col) n (0 + k)) = true then 1 else 0) = _
  rw [Nat.zero_add]
  by_cases z : labC w n col k = k
  · rw [if_pos z, if_pos (decide_eq_true ((szL_pos hk).mpr z))]; rfl
  · rw [if_neg z, if_neg (by rw [decide_eq_false (fun y => z ((szL_pos hk).mp y))]; decide)]; rfl
theorem grN_no {k : Nat} (hk : k < n) (z : ¬ labC w n col k = k) : grN (labC w n col) n (k + 1) = grN (labC w n col) n k := by
  show (if grN (labC w n col) n k < szL (labC w n col) n k then szL (labC w n col) n k else grN (labC w n col) n k) = _
  have h1 : szL (labC w n col) n k = 0 := by
    have := mt (szL_pos (w := w) (col := col) hk).mp z
    omega
  rw [h1, if_neg (Nat.not_lt_zero _)]
end CNTS
theorem szL_le (L : Nat → Nat) (n k : Nat) : szL L n k ≤ n := cntR_le _ _ _
theorem pcN_le (L : Nat → Nat) (n i : Nat) : pcN L n i ≤ i := cntR_le _ _ _
theorem grN_le (L : Nat → Nat) (n : Nat) : ∀ i, grN L n i ≤ n
  | 0 => Nat.zero_le _
  | i + 1 => by
    show (if grN L n i < szL L n i then szL L n i else grN L n i) ≤ n
    split
    · exact szL_le _ _ _
    · exact grN_le L n i
theorem szL_cg {L L2 : Nat → Nat} {n k : Nat} (h : ∀ j, j < n → L j = L2 j) : szL L n k = szL L2 n k := cntR_congr (fun j _ h2 => by rw [h j (by omega)])
theorem pcN_cg {L L2 : Nat → Nat} {n i : Nat} (h : ∀ j, j < n → L j = L2 j) : pcN L n i = pcN L2 n i := cntR_congr (fun j _ h2 => by rw [szL_cg h])
theorem grN_cg {L L2 : Nat → Nat} {n : Nat} (h : ∀ j, j < n → L j = L2 j) : ∀ i, grN L n i = grN L2 n i
  | 0 => rfl
  | i + 1 => by
    show (if grN L n i < szL L n i then szL L n i else grN L n i) = (if grN L2 n i < szL L2 n i then szL L2 n i else grN L2 n i)
    rw [grN_cg h i, szL_cg h]
theorem edg_in {w h k : Nat} (hk : k < w * h) (h1 : k % w + 1 < w) : k + 1 < w * h := by
  have h2 : k / w < h := Nat.div_lt_of_lt_mul hk
  have h3 : (k / w + 1) * w ≤ h * w := Nat.mul_le_mul_right w h2
  have h4 := Nat.div_add_mod' k w
  rw [Nat.add_mul, Nat.one_mul, Nat.mul_comm h w] at h3
  omega
