/-! what is sound, 1: sums, counts, seams, pieces, symmetries -/
theorem sum_zero {f : Nat → Int32} : ∀ {n : Nat}, (∀ j, j < n → f j = 0) → bx_sum f n = 0
  | 0, _ => rfl
  | n + 1, h => by
    show bx_sum f n + f n = 0
    rw [sum_zero (fun j hj => h j (by omega)), h n (by omega)]
    rfl
theorem sum_cut {f : Nat → Int32} {a : Nat} : ∀ (d9 : Nat), (∀ j, a ≤ j → j < a + d9 → f j = 0) → bx_sum f (a + d9) = bx_sum f a
  | 0, _ => rfl
  | d9 + 1, h => by
    show bx_sum f (a + d9) + f (a + d9) = bx_sum f a
    rw [h (a + d9) (by omega) (by omega), Int32.add_zero, sum_cut d9 (fun j h1 h2 => h j h1 (by omega))]
theorem sum_cut5 {f : Nat → Int32} {a n : Nat} (ha : a ≤ n) (h : ∀ j, a ≤ j → j < n → f j = 0) : bx_sum f n = bx_sum f a := by
  have h1 := sum_cut (f := f) (a := a) (n - a) (fun j h1 h2 => h j h1 (by omega))
  rw [show a + (n - a) = n by omega] at h1
  exact h1
theorem i32_4 (a b c d : Int32) : (a + b) + (c + d) = (a + c) + (b + d) := by
  rw [Int32.add_assoc, Int32.add_assoc, ← Int32.add_assoc b c d, ← Int32.add_assoc c b d, Int32.add_comm b c]
theorem sum_plus {f h9 : Nat → Int32} : ∀ (n : Nat), bx_sum (fun j => f j + h9 j) n = bx_sum f n + bx_sum h9 n
  | 0 => by show (0 : Int32) = 0 + 0; rfl
  | n + 1 => by
    show bx_sum (fun j => f j + h9 j) n + (f n + h9 n) = (bx_sum f n + f n) + (bx_sum h9 n + h9 n)
    rw [sum_plus n, i32_4]
theorem sum_flip {f : Nat → Nat → Int32} : ∀ (a b : Nat), bx_sum (fun i => bx_sum (f i) b) a = bx_sum (fun j => bx_sum (fun i => f i j) a) b
  | 0, b => (sum_zero (fun _ _ => rfl)).symm
  | a + 1, b => by
    show bx_sum (fun i => bx_sum (f i) b) a + bx_sum (f a) b = bx_sum (fun j => bx_sum (fun i => f i j) a + f a j) b
    rw [sum_flip a b, sum_plus]
def sumN (h9 : Nat → Nat) : Nat → Nat
  | 0 => 0
  | n + 1 => sumN h9 n + h9 n
theorem sumN_cg {h9 k9 : Nat → Nat} : ∀ {n : Nat}, (∀ j, j < n → h9 j = k9 j) → sumN h9 n = sumN k9 n
  | 0, _ => rfl
  | n + 1, h => by
    show sumN h9 n + h9 n = sumN k9 n + k9 n
    rw [sumN_cg (fun j hj => h j (by omega)), h n (by omega)]
theorem sumN_plus {h9 k9 : Nat → Nat} : ∀ (n : Nat), sumN (fun j => h9 j + k9 j) n = sumN h9 n + sumN k9 n
  | 0 => rfl
  | n + 1 => by
    show sumN (fun j => h9 j + k9 j) n + (h9 n + k9 n) = (sumN h9 n + h9 n) + (sumN k9 n + k9 n)
    rw [sumN_plus n]
    omega
theorem sum_nI {f : Nat → Int32} {h9 : Nat → Nat} : ∀ (n : Nat), (∀ j, j < n → f j = nI (h9 j)) → bx_sum f n = nI (sumN h9 n)
  | 0, _ => by show (0 : Int32) = nI 0; rw [nI_0]
  | n + 1, h => by
    show bx_sum f n + f n = nI (sumN h9 n + h9 n)
    rw [sum_nI n (fun j hj => h j (by omega)), h n (by omega), nI_add]
theorem sumN_le {h9 : Nat → Nat} {b : Nat} : ∀ (n : Nat), (∀ j, j < n → h9 j ≤ b) → sumN h9 n ≤ n * b
  | 0, _ => Nat.zero_le _
  | n + 1, h => by
    show sumN h9 n + h9 n ≤ (n + 1) * b
    have h1 := sumN_le n (fun j hj => h j (by omega))
    have h2 := h n (by omega)
    rw [Nat.succ_mul]
    omega
theorem sumN_in {h9 : Nat → Nat} {j : Nat} : ∀ (n : Nat), j < n → h9 j ≤ sumN h9 n
  | 0, h => absurd h (Nat.not_lt_zero _)
  | n + 1, h => by
    show h9 j ≤ sumN h9 n + h9 n
    by_cases e : j = n
    · rw [e]; omega
    · have := sumN_in (h9 := h9) n (show j < n by omega); omega
theorem one6 : ∀ x, x < 6 → sumN (fun c => if decide (x = c) = true then 1 else 0) 6 = 1 := by decide
theorem zer6 : sumN (fun _ => 0) 6 = 0 := by decide
/-- patches with R, by colours -/
theorem cnt_part {R : Nat → Bool} {cl : Nat → Nat} {a : Nat} : ∀ (n : Nat), (∀ k, a ≤ k → k < a + n → cl k < 6) → sumN (fun c => cntR (fun k => R k && decide (cl k = c)) a n) 6 = cntR R a n
  | 0, _ => zer6
  | n + 1, h => by
    have h1 := cnt_part (R := R) n (fun k h1 h2 => h k h1 (by omega))
    have h2 := h (a + n) (by omega) (by omega)
    show sumN (fun c => cntR (fun k => R k && decide (cl k = c)) a n + (if (R (a + n) && decide (cl (a + n) = c)) = true then 1 else 0)) 6 = cntR R a n + (if R (a + n) = true then 1 else 0)
    rw [sumN_plus, h1]
    cases hR : R (a + n) with
    | true =>
      have h3 := one6 _ h2
      rw [if_pos rfl]
      simp only [Bool.true_and]
      rw [h3]
    | false =>
      rw [if_neg (by decide)]
      simp only [Bool.false_and]
      exact congrArg _ zer6
theorem cnt_all {a : Nat} : ∀ (n : Nat), cntR (fun _ => true) a n = n
  | 0 => rfl
  | n + 1 => by
    show cntR (fun _ => true) a n + (if true = true then 1 else 0) = n + 1
    rw [cnt_all n, if_pos rfl]
theorem cnt_col {cl : Nat → Nat} {a : Nat} (n : Nat) (h : ∀ k, a ≤ k → k < a + n → cl k < 6) : sumN (fun c => cntR (fun k => decide (cl k = c)) a n) 6 = n := by
  have h1 := cnt_part (R := fun _ => true) n h
  rw [cnt_all n] at h1
  exact h1
/-- the patches of the first i colours among the first n -/
def cntS (q : Nat → Int32) (f n i : Nat) : Nat := sumN (fun c => cntC q f c 0 n) i
theorem cntS_6 {q : Nat → Int32} {f n : Nat} (hF : WFf q f) (hn : n ≤ 256) : cntS q f n 6 = n := cnt_col n (fun k _ h2 => hF.c6 (by omega))
theorem cntS_le {q : Nat → Int32} {f n i : Nat} (hi : i ≤ 6) (hn : n ≤ 256) : cntS q f n i ≤ 1536 := by
  have h1 := sumN_le (h9 := fun c => cntC q f c 0 n) (b := 256) i (fun j _ => Nat.le_trans (cntR_le _ _ _) hn)
  have h2 : i * 256 ≤ 6 * 256 := Nat.mul_le_mul_right _ hi
  exact Nat.le_trans h1 h2
theorem cnt_sumle {Q9 : Nat → Bool} {h9 : Nat → Nat} : ∀ (n : Nat), (∀ c, c < n → Q9 c = true → 0 < h9 c) → cntR Q9 0 n ≤ sumN h9 n
  | 0, _ => Nat.le_refl _
  | n + 1, h => by
    have h1 := cnt_sumle n (fun c hc => h c (by omega))
    show cntR Q9 0 n + (if Q9 (0 + n) = true then 1 else 0) ≤ sumN h9 n + h9 n
    rw [Nat.zero_add]
    by_cases e : Q9 n = true
    · have h2 := h n (by omega) e
      rw [if_pos e]; omega
    · rw [if_neg e]; omega
/-- no fewer pieces than colours -/
theorem pcN_ge {w n : Nat} {col : Nat → Nat} (hc : ∀ k, k < n → col k < 6) : cntR (fun c => decide (0 < cntR (fun k => decide (col k = c)) 0 n)) 0 6 ≤ pcN (labC w n col) n n := by
  have h1 := cnt_part (R := fun k => decide (0 < szL (labC w n col) n k)) (cl := col) (a := 0) n (fun k _ h2 => hc k (by omega))
  refine Nat.le_trans ?_ (Nat.le_of_eq h1)
  refine cnt_sumle 6 (fun c _ h2 => ?_)
  obtain ⟨k, hk, hk2⟩ := cnt_ex (of_decide_eq_true h2)
  have hr : labC w n col k ≤ k := lab_le k
  have hcr : col (labC w n col k) = col k := (lab_cn k).colr
  refine cnt_in (k := labC w n col k) ?_ (show labC w n col k < n by omega)
  have h3 : 0 < szL (labC w n col) n (labC w n col k) := (szL_pos (by omega)).mpr (lab_lab k)
  show (decide _ && decide _) = true
  rw [decide_eq_true h3, hcr, hk2]
  rfl
theorem grN_up {L : Nat → Nat} {n k : Nat} : ∀ (i : Nat), k < i → szL L n k ≤ grN L n i
  | 0, h => absurd h (Nat.not_lt_zero _)
  | i + 1, h => by
    show szL L n k ≤ (if grN L n i < szL L n i then szL L n i else grN L n i)
    by_cases e : k = i
    · subst e
      split <;> omega
    · have h1 := grN_up (L := L) (n := n) i (show k < i by omega)
      split <;> omega
theorem grN_pos {w n : Nat} {col : Nat → Nat} (hn : 0 < n) : 0 < grN (labC w n col) n n := by
  have h0 : labC w n col 0 = 0 := Nat.le_zero.mp (lab_le 0)
  have h1 : 0 < szL (labC w n col) n 0 := (szL_pos hn).mpr h0
  exact Nat.lt_of_lt_of_le h1 (grN_up n hn)
/-! seams -/
theorem se_x {w h k : Nat} (hk : k < w * h) : 0 < w ∧ k % w < w ∧ k / w < h ∧ k / w * w + k % w = k := by
  have hw : 0 < w := Nat.pos_of_ne_zero (fun z => by rw [z, Nat.zero_mul] at hk; omega)
  refine ⟨hw, Nat.mod_lt _ hw, Nat.div_lt_of_lt_mul hk, ?_⟩
  rw [Nat.mul_comm]
  exact Nat.div_add_mod k w
theorem se_y {w h k : Nat} (hw : 0 < w) : k / w + 1 < h ↔ k + w < w * h := by
  rw [← Nat.add_div_right k hw, Nat.div_lt_iff_lt_mul hw, Nat.mul_comm]
theorem seam_s {w sz k a b : Nat} {col : Nat → Nat} (ha : a = if k % w < w - 1 ∧ ¬ col k = col (k + 1) then 1 else 0) (hb9 : b = if k + w < sz ∧ ¬ col k = col (k + w) then 1 else 0) : seamN w sz col k + a + b = seamN w sz col (k + 1) := by
  subst ha
  subst hb9
  rfl
theorem pat_0 {q : Nat → Int32} {f k : Nat} (hk : k < szF q f) : patV q f (k % wdF q f) (k / wdF q f) = nI (clF q f k) := by
  obtain ⟨h1, h2, h3, h4⟩ := se_x hk
  unfold patV
  rw [if_pos ⟨h2, h3⟩, h4]
theorem pat_1 {q : Nat → Int32} {f k : Nat} (hk : k < szF q f) (hx : k % wdF q f + 1 < wdF q f) : patV q f (k % wdF q f + 1) (k / wdF q f) = nI (clF q f (k + 1)) := by
  obtain ⟨h1, h2, h3, h4⟩ := se_x hk
  unfold patV
  rw [if_pos ⟨hx, h3⟩, ← Nat.add_assoc, h4]
theorem pat_2 {q : Nat → Int32} {f k : Nat} (hk : k < szF q f) (hy : k / wdF q f + 1 < htF q f) : patV q f (k % wdF q f) (k / wdF q f + 1) = nI (clF q f (k + wdF q f)) := by
  obtain ⟨h1, h2, h3, h4⟩ := se_x hk
  unfold patV
  rw [if_pos ⟨h2, hy⟩, Nat.succ_mul, Nat.add_right_comm, h4]
theorem pat_w {q : Nat → Int32} {f b : Nat} : patV q f (wdF q f) b = -9 := by
  unfold patV
  rw [if_neg (fun z => by omega)]
/-! symmetries -/
theorem sam21 {q : Nat → Int32} {f : Nat} (h : samB q f 2 = true) : samB q f 1 = true ∧ wdF q f = htF q f := by
  have h0 : aftB q f f false 1 = true := h
  unfold aftB at h0
  rw [Bool.and_eq_true] at h0
  obtain ⟨h1, h2⟩ := h0
  have h3 := of_decide_eq_true h1
  have hwh : wdF q f = htF q f := h3.2
  refine ⟨?_, hwh⟩
  have h4 := eqB_iff.mp h2
  show aftB q f f false 2 = true
  unfold aftB
  rw [Bool.and_eq_true]
  refine ⟨decide_eq_true ⟨rfl, rfl⟩, eqB_iff.mpr (fun k hk => ?_)⟩
  have hk2 : k < htF q f * wdF q f := by rw [Nat.mul_comm]; exact hk
  have e1 : clF q f (turI (wdF q f) (htF q f) k) = clF q f k := h4 k hk2
  have hk3 : turI (htF q f) (wdF q f) k < htF q f * wdF q f := turI_lt (w := htF q f) (h := wdF q f) hk2
  have e2 : clF q f (turI (wdF q f) (htF q f) (turI (htF q f) (wdF q f) k)) = clF q f (turI (htF q f) (wdF q f) k) := h4 _ hk3
  show clF q f (turI (wdF q f) (htF q f) (turI (htF q f) (wdF q f) k)) = clF q f k
  rw [e2]
  have e3 : turI (htF q f) (wdF q f) k = turI (wdF q f) (htF q f) k := by rw [hwh]
  rw [e3, e1]
theorem bec_self {q : Nat → Int32} {f : Nat} (h0 : 0 < szF q f) : becV q f f = nI 0 := by
  unfold becV
  rw [if_pos ⟨h0, h0⟩]
  refine becG_t (k := 0) (by omega) ?_
  show aftB q f f false 0 = true
  unfold aftB
  rw [Bool.and_eq_true]
  exact ⟨decide_eq_true ⟨rfl, rfl⟩, eqB_iff.mpr (fun k _ => rfl)⟩
theorem bec_none {q : Nat → Int32} {f : Nat} (h0 : szF q f = 0) : becV q f f = -9 := by
  unfold becV
  rw [if_neg (fun z => by omega)]
