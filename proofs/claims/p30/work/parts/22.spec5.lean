/-! rows of the kit's laws/BITS, pasted; scripts and simulations -/
theorem wb_tb (n : Nat) : (lN n).toBitVec = BitVec.ofNat 64 n := rfl
theorem wb_inj {a b : Int64} (h : a.toBitVec = b.toBitVec) : a = b := Int64.toBitVec_inj.mp h
theorem wb_tn {n : Nat} (h : n < 2 ^ 64) : (lN n).toBitVec.toNat = n := by rw [wb_tb, BitVec.toNat_ofNat, Nat.mod_eq_of_lt h]
theorem wb_of (x : Int64) : ∃ n, n < 2 ^ 64 ∧ x = lN n := ⟨x.toBitVec.toNat, x.toBitVec.isLt, wb_inj (by rw [wb_tb]; simp)⟩
theorem wb_cu : ∀ k, k < 64 → ((nI k).toInt64.toUInt64 &&& Int64.toUInt64 63) = UInt64.ofNat k := by decide +kernel
theorem wb_shr {n k : Nat} (hn : n < 2 ^ 64) (hk : k < 64) : ((lN n).toUInt64 >>> ((nI k).toInt64.toUInt64 &&& Int64.toUInt64 63)).toInt64 = lN (n / 2 ^ k) := by
  rw [wb_cu k hk]
  apply wb_inj
  apply BitVec.eq_of_toNat_eq
  show ((lN n).toUInt64 >>> UInt64.ofNat k).toNat = (BitVec.ofNat 64 _).toNat
  have h1 : (UInt64.ofNat k).toNat = k := by
    show (BitVec.ofNat 64 k).toNat = k
    rw [BitVec.toNat_ofNat, Nat.mod_eq_of_lt (by omega)]
  have h2 : (lN n).toUInt64.toNat = n := wb_tn hn
  rw [UInt64.toNat_shiftRight, h1, h2, Nat.mod_eq_of_lt hk, Nat.shiftRight_eq_div_pow, BitVec.toNat_ofNat, Nat.mod_eq_of_lt (Nat.lt_of_le_of_lt (Nat.div_le_self _ _) hn)]
def p10k (n : Nat) : Nat := 10000 ^ n
theorem p10k_s (n : Nat) : p10k (n + 1) = p10k n * 10000 := Nat.pow_succ 10000 n
theorem p10k_pos (n : Nat) : 0 < p10k n := Nat.pow_pos (by omega)
theorem p10k_le {n : Nat} (h : n ≤ 4) : p10k n ≤ 10000000000000000 := by
  rcases (show n = 0 ∨ n = 1 ∨ n = 2 ∨ n = 3 ∨ n = 4 by omega) with rfl | rfl | rfl | rfl | rfl <;> exact Nat.le_of_ble_eq_true rfl
theorem p10k_div {k n : Nat} (h : k < n) : p10k (n - k) / 10000 = p10k (n - (k + 1)) := by
  rw [show n - k = (n - (k + 1)) + 1 by omega, p10k_s]
  exact Nat.mul_div_cancel _ (by omega)
theorem lN_ne0 {a : Nat} (h0 : 0 < a) (h : a < 9223372036854775808) : ¬ lN a = 0 := by
  intro z
  have h1 := pk_lT (n := a) h
  rw [z] at h1
  have h2 : (0 : Int64).toInt = 0 := by decide
  omega
theorem inL_nI {k : Nat} (hk : k < 2147483648) (a b : Int64) (x y : Int) (ha : a.toInt = x) (hb : b.toInt = y) : inL (nI k).toInt64 a b = decide (x ≤ (k : Int) ∧ (k : Int) ≤ y) := by
  unfold inL
  rw [i32_l, nI_toInt' hk, ha, hb]
theorem inL_14 {k : Nat} (h1 : 0 < k) (h2 : k ≤ 4) : inL (nI k).toInt64 1 4 = true := by
  rw [inL_nI (by omega) 1 4 1 4 (by decide) (by decide)]
  simp only [decide_eq_true_eq]
  omega
/-- what a script answers: rem commands are left -/
def scG (sn n0 : Nat) : Nat → (Nat → Int32) → Int32
  | 0, _ => -9
  | rem + 1, q => if cmdB q (sn / p10k rem % 10000) = true then scG sn n0 rem (cmdQ q (sn / p10k rem % 10000)) else nI (n0 - (rem + 1))
theorem scG_t {sn n0 k : Nat} {q : Nat → Int32} (h : cmdB q (sn / p10k (n0 - (k + 1)) % 10000) = true) (hk : k < n0) : scG sn n0 (n0 - k) q = scG sn n0 (n0 - (k + 1)) (cmdQ q (sn / p10k (n0 - (k + 1)) % 10000)) := by
  rw [show n0 - k = (n0 - (k + 1)) + 1 by omega]
  exact if_pos h
theorem scG_f {sn n0 k : Nat} {q : Nat → Int32} (h : cmdB q (sn / p10k (n0 - (k + 1)) % 10000) = false) (hk : k < n0) : scG sn n0 (n0 - k) q = nI k := by
  rw [show n0 - k = (n0 - (k + 1)) + 1 by omega]
  refine (if_neg (by rw [h]; decide)).trans ?_
  rw [show n0 - (n0 - (k + 1) + 1) = k by omega]
/-- the evenings of a simulation -/
def smX (y : Int64) : Nat → Int64
  | 0 => y
  | k + 1 => smX y k * (6364136223846793005) + (1442695040888963407)
def smR (y : Int64) (k : Nat) : Nat := (smX y (k + 1)).toBitVec.toNat / 2 ^ 33
theorem smR_lt (y : Int64) (k : Nat) : smR y k < 2147483648 := by
  unfold smR
  exact Nat.div_lt_of_lt_mul (smX y (k + 1)).toBitVec.isLt
theorem sm_r (x : Int64) : ((x.toUInt64 >>> ((nI 33).toInt64.toUInt64 &&& Int64.toUInt64 63)).toInt64).toInt32 = nI (x.toBitVec.toNat / 2 ^ 33) := by
  obtain ⟨n, hn, rfl⟩ := wb_of x
  rw [wb_shr hn (by omega), lN_i, wb_tn hn]
def smQ (q : Nat → Int32) (y : Int64) : Nat → Nat → Int32
  | 0 => q
  | k + 1 => evQ (smQ q y k) (smR y k)
def smA (q : Nat → Int32) (y : Int64) : Nat → Nat
  | 0 => 0
  | k + 1 => smA q y k + evA (smQ q y k) (smR y k)
def smS (q : Nat → Int32) (y : Int64) : Nat → Nat
  | 0 => 0
  | k + 1 => smS q y k + evS (smQ q y k) (smR y k)
theorem smQ_WF {q : Nat → Int32} {y : Int64} (h : WF q) : ∀ k, WF (smQ q y k) := by
  intro k
  induction k with
  | zero => exact h
  | succ k ih => exact evQ_WF ih
theorem smS_le (q : Nat → Int32) (y : Int64) : ∀ k, smS q y k ≤ 9 * k := by
  intro k
  induction k with
  | zero => exact Nat.le_refl _
  | succ k ih =>
    have := evS_le (smQ q y k) (smR y k)
    show smS q y k + _ ≤ _
    omega
def simV (q : Nat → Int32) (y : Int64) (n : Nat) : Nat := 1000 * smA q y n + (if 999 < smS q y n then 999 else smS q y n)
