/-! the class's patterns: pure words -/
def clO (w h : Nat) (col : Nat → Nat) (k : Nat) : Int32 := if k < w * h then nI (col k) else -9
def caO (w h : Nat) (col : Nat → Nat) (x y : Nat) : Int32 := if x < w ∧ y < h then nI (col (y * w + x)) else -9
def cnP (col : Nat → Nat) (c a n : Nat) : Nat := cntR (fun k => decide (col k = c)) a n
def smB (w h : Nat) (col : Nat → Nat) (x y x2 y2 : Nat) : Bool := decide (x2 < w ∧ y2 < h ∧ ¬ col (y2 * w + x2) = col (y * w + x))
theorem m9ne {n : Nat} (h : n < 2147483648) : ¬ nI n = -9 := fun e => by
  have h1 := congrArg Int32.toInt e
  rw [nI_toInt' h, show (-9 : Int32).toInt = -9 from by decide] at h1
  omega
theorem caO_in {w h : Nat} {col : Nat → Nat} {x y : Nat} (hx : x < w) (hy : y < h) : caO w h col x y = nI (col (y * w + x)) := if_pos ⟨hx, hy⟩
theorem caO_out {w h : Nat} {col : Nat → Nat} {x y : Nat} (hx : ¬ (x < w ∧ y < h)) : caO w h col x y = -9 := if_neg hx
theorem seamN_s (w sz : Nat) (col : Nat → Nat) (n : Nat) : seamN w sz col (n + 1) = seamN w sz col n + (if n % w < w - 1 ∧ ¬ col n = col (n + 1) then 1 else 0) + (if n + w < sz ∧ ¬ col n = col (n + w) then 1 else 0) := rfl
theorem lin_mod {w x y : Nat} (hx : x < w) : (y * w + x) % w = x ∧ (y * w + x) / w = y := by
  have h1 : w * y + x = y * w + x := by rw [Nat.mul_comm]
  rw [← h1]
  exact ⟨by rw [Nat.mul_add_mod]; exact Nat.mod_eq_of_lt hx, by rw [Nat.mul_add_div (by omega), Nat.div_eq_of_lt hx, Nat.add_zero]⟩
/-- what a pattern is, mirrored or not and turned, beside another one -/
def aftG (w h : Nat) (col : Nat → Nat) (w2 h2 : Nat) (col2 : Nat → Nat) (n : Nat) : Bool := decide (rtW w h (n % 4) = w2 ∧ rtW h w (n % 4) = h2) && eqB (rtC w h (afC (decide (3 < n)) w col) (n % 4)) col2 (rtW w h (n % 4) * rtW h w (n % 4))
def allA (P : Nat → Prop) : Nat → Prop := fun n => ∀ k, k < n → P k
theorem seam_r {w h x y : Nat} {col : Nat → Nat} (hx : x < w) (hy : y < h) : (smB w h col x y (x + 1) y = true ↔ (y * w + x) % w < w - 1 ∧ ¬ col (y * w + x) = col (y * w + x + 1)) := by
  unfold smB
  rw [(lin_mod hx).1, decide_eq_true_eq, show y * w + (x + 1) = y * w + x + 1 by omega]
  exact ⟨fun z => ⟨by omega, fun e => z.2.2 e.symm⟩, fun z => ⟨by omega, hy, fun e => z.2 e.symm⟩⟩
theorem seam_d {w h x y : Nat} {col : Nat → Nat} (hx : x < w) (hy : y < h) : (smB w h col x y x (y + 1) = true ↔ y * w + x + w < w * h ∧ ¬ col (y * w + x) = col (y * w + x + w)) := by
  unfold smB
  rw [decide_eq_true_eq, show (y + 1) * w + x = y * w + x + w by rw [Nat.add_mul, Nat.one_mul]; omega]
  refine ⟨fun z => ⟨?_, fun e => z.2.2 e.symm⟩, fun z => ⟨hx, ?_, fun e => z.2 e.symm⟩⟩
  · have h1 := idx_lt (a := x) (b := y + 1) hx z.2.1
    rw [Nat.add_mul, Nat.one_mul] at h1
    omega
  · rcases Nat.lt_or_ge (y + 1) h with q | q
    · exact q
    · exfalso
      have h1 := Nat.mul_le_mul_right w q
      rw [Nat.add_mul, Nat.one_mul, Nat.mul_comm h w] at h1
      omega
def seamX (w h : Nat) (col : Nat → Nat) (x y : Nat) : Nat := seamN w (w * h) col (y * w + x) + (if smB w h col x y (x + 1) y = true then 1 else 0)
theorem seamX_s {w h x y : Nat} {col : Nat → Nat} (hx : x < w) (hy : y < h) : seamX w h col x y + (if smB w h col x y x (y + 1) = true then 1 else 0) = seamN w (w * h) col (y * w + (x + 1)) := by
  unfold seamX
  rw [show y * w + (x + 1) = (y * w + x) + 1 by omega, seamN_s]
  simp only [seam_r hx hy, seam_d hx hy]
theorem rt_back {w h t x y : Nat} {cb : Nat → Nat} (hx : x < rtW w h (t + 1)) (hy : y < rtW h w (t + 1)) : rtC w h cb (t + 1) (y * rtW w h (t + 1) + x) = rtC w h cb t ((rtW h w t - 1 - x) * rtW w h t + y) := by
  rw [rtW_s] at hx
  show rtC w h cb t (turI (rtW w h t) (rtW h w t) _) = _
  unfold turI
  rw [rtW_s, (lin_mod hx).1, (lin_mod hx).2]
theorem afC_at {m : Bool} {w x y : Nat} {col : Nat → Nat} (hx : x < w) : afC m w col (y * w + x) = col (y * w + (if m = true then w - 1 - x else x)) := by
  cases m with
  | false => rfl
  | true =>
    show col (mirI w (y * w + x)) = _
    unfold mirI
    rw [(lin_mod hx).1, (lin_mod hx).2, if_pos rfl, show y * w + w - 1 - x = y * w + (w - 1 - x) by omega]
theorem nI_dec {a : Nat} : nI (a + 1) + Int32.ofInt (-1) = nI a := by
  rw [← nI_1, Int32.add_assoc, show (1 : Int32) + Int32.ofInt (-1) = 0 from by decide, Int32.add_zero]
theorem rtC_lt {w h : Nat} {cb : Nat → Nat} : ∀ {n : Nat}, (∀ k, k < w * h → cb k < 6) → ∀ {k : Nat}, k < rtW w h n * rtW h w n → rtC w h cb n k < 6
  | 0, hc, k, hk => hc k hk
  | n + 1, hc, k, hk => rtC_lt (n := n) hc (turI_lt (w := rtW w h n) (h := rtW h w n) (by rw [rtW_s, rtW_s, Nat.mul_comm] at hk; exact hk))
theorem afC_lt {m : Bool} {w h : Nat} {col : Nat → Nat} (hc : ∀ k, k < w * h → col k < 6) : ∀ k, k < w * h → afC m w col k < 6 := fun k hk => by
  cases m with
  | false => exact hc k hk
  | true => exact hc _ (mirI_lt hk)
theorem i2b6 : ∀ c, c < 6 → (nI c).toInt8.toInt32 = nI c := by decide
theorem nar6 : ∀ c, c < 6 → vp_nar .byte (nI c) = nI c := by decide
theorem rtW_h (w h n : Nat) : rtW h w n = if n % 2 = 0 then h else w := rfl

def rm_c_X4_patches : Room := { frames := 0, cells := 0, slots := 0, locals := 0 }
set_option maxRecDepth 100000 in
set_option maxHeartbeats 400000 in
theorem c_X4_patches (l : Launch) (g : GG) (H0 : Heap) (pa : Nat) (pb : Nat) (w : Nat) (h : Nat) (col : Nat → Nat) (hpb : PatB g pa pb w h col H0) : Ct l yX4_patches cX4_patches 1 (some .int) rm_c_X4_patches g [.ref pa] H0 (ftA (fun _ => False) H0.size) (fun v H1 => v = some (.int (nI (w * h))) ∧ H0 = H1) := by
  refine Ct.of (by decide) (fun _ h => Or.inr h) (Nat.le_of_ble_eq_true rfl) ?_
  intro p e s m below meth c ls hB hin hS hH hl
  have hx := hB.x
  have hb := hB.b
  have hl : lv_has ls 1 [(0, .ref pa)] := hl
  have hw0 := hpb.2.2.1
  have hw16 := hpb.2.2.2.1
  have hh0 := hpb.2.2.2.2.1
  have hh16 := hpb.2.2.2.2.2.1
  have hwh := hpb.2.2.2.2.2.2.1
  have hcol := hpb.2.2.2.2.2.2.2
  refine lv_aload_n hx hb dX4_patches_0 rfl (lv_at hl 0 rfl) ?_
  refine gf_X4_18 hB hpb.1 rfl dX4_patches_1 ?_
  refine mh_alen hB 1 rfl hpb.2.1 dX4_patches_4 ?_
  refine mh_iret hB ⟨Nat.le_of_ble_eq_true rfl, Nat.le_of_ble_eq_true rfl⟩ hS dX4_patches_5 ⟨?_, rfl⟩
  · rfl

def rm_c_X4_colourOf : Room := { frames := 0, cells := 0, slots := 0, locals := 0 }
set_option maxRecDepth 100000 in
set_option maxHeartbeats 400000 in
theorem c_X4_colourOf (l : Launch) (g : GG) (H0 : Heap) (pa : Nat) (pb : Nat) (w : Nat) (h : Nat) (col : Nat → Nat) (k : Nat) (hpb : PatB g pa pb w h col H0) (hk : k < 2147483648) : Ct l yX4_colourOf cX4_colourOf 2 (some .int) rm_c_X4_colourOf g [.ref pa, .int (nI k)] H0 (ftA (fun _ => False) H0.size) (fun v H1 => v = some (.int (clO w h col k)) ∧ H0 = H1) := by
  refine Ct.of (by decide) (fun _ h => Or.inr h) (Nat.le_of_ble_eq_true rfl) ?_
  intro p e s m below meth c ls hB hin hS hH hl
  have hx := hB.x
  have hb := hB.b
  have hl : lv_has ls 2 [(0, .ref pa), (1, .int (nI k))] := hl
  have hw0 := hpb.2.2.1
  have hw16 := hpb.2.2.2.1
  have hh0 := hpb.2.2.2.2.1
  have hh16 := hpb.2.2.2.2.2.1
  have hwh := hpb.2.2.2.2.2.2.1
  have hcol := hpb.2.2.2.2.2.2.2
  refine lv_iload_n hx hb dX4_colourOf_0 rfl (lv_at hl 1 rfl) ?_
  refine mn_if_lt (tgt := 22) hB dX4_colourOf_1 (by decide) (by omega) (fun h => by exfalso; omega) (fun h_1 => ?_)
  refine lv_iload_n hx hb dX4_colourOf_4 rfl (lv_at hl 1 rfl) ?_
  refine lv_aload_n hx hb dX4_colourOf_5 rfl (lv_at hl 0 rfl) ?_
  refine gf_X4_18 hB hpb.1 rfl dX4_colourOf_6 ?_
  refine mh_alen hB 1 rfl hpb.2.1 dX4_colourOf_9 ?_
  refine mn_icmp_ge (tgt := 22) hB dX4_colourOf_10 (by decide) (by omega) (by omega) (fun h_10 => ?_) (fun h_10 => ?_)
  · skip
    refine lv_bipush (v := (-9)) hx hb dX4_colourOf_22 (by decide) ?_
    refine mh_iret hB ⟨Nat.le_of_ble_eq_true rfl, Nat.le_of_ble_eq_true rfl⟩ hS dX4_colourOf_24 ⟨?_, rfl⟩
    · first | (unfold clO; rw [if_pos (by omega)]; done) | (unfold clO; rw [if_neg (by omega)]; done)
  · skip
    refine lv_aload_n hx hb dX4_colourOf_13 rfl (lv_at hl 0 rfl) ?_
    refine gf_X4_18 hB hpb.1 rfl dX4_colourOf_14 ?_
    refine lv_iload_n hx hb dX4_colourOf_17 rfl (lv_at hl 1 rfl) ?_
    refine mn_bald hB hpb.2.1 (by omega) (by omega) dX4_colourOf_18 ?_
    refine lv_goto (tgt := 24) hx hb dX4_colourOf_19 (by decide) ?_
    refine mh_iret hB ⟨Nat.le_of_ble_eq_true rfl, Nat.le_of_ble_eq_true rfl⟩ hS dX4_colourOf_24 ⟨?_, rfl⟩
    · first | (unfold clO; rw [if_pos (by omega)]; done) | (unfold clO; rw [if_neg (by omega)]; done)

def rm_c_X4_colourAt : Room := { frames := 1, cells := 0, slots := 0, locals := 21 }
set_option maxRecDepth 100000 in
set_option maxHeartbeats 400000 in
theorem c_X4_colourAt (l : Launch) (g : GG) (H0 : Heap) (pa : Nat) (pb : Nat) (w : Nat) (h : Nat) (col : Nat → Nat) (x : Nat) (y : Nat) (hpb : PatB g pa pb w h col H0) (hx9 : x < 2147483648) (hy9 : y < 2147483648) : Ct l yX4_colourAt cX4_colourAt 3 (some .int) rm_c_X4_colourAt g [.ref pa, .int (nI x), .int (nI y)] H0 (ftA (fun _ => False) H0.size) (fun v H1 => v = some (.int (caO w h col x y)) ∧ H0 = H1) := by
  refine Ct.of (by decide) (fun _ h => Or.inr h) (Nat.le_of_ble_eq_true rfl) ?_
  intro p e s m below meth c ls hB hin hS hH hl
  have hx := hB.x
  have hb := hB.b
  have hl : lv_has ls 3 [(0, .ref pa), (1, .int (nI x)), (2, .int (nI y))] := hl
  have hw0 := hpb.2.2.1
  have hw16 := hpb.2.2.2.1
  have hh0 := hpb.2.2.2.2.1
  have hh16 := hpb.2.2.2.2.2.1
  have hwh := hpb.2.2.2.2.2.2.1
  have hcol := hpb.2.2.2.2.2.2.2
  refine lv_iload_n hx hb dX4_colourAt_0 rfl (lv_at hl 1 rfl) ?_
  refine mn_if_lt (tgt := 39) hB dX4_colourAt_1 (by decide) (by omega) (fun h => by exfalso; omega) (fun h_1 => ?_)
  refine lv_iload_n hx hb dX4_colourAt_4 rfl (lv_at hl 1 rfl) ?_
  refine lv_aload_n hx hb dX4_colourAt_5 rfl (lv_at hl 0 rfl) ?_
  refine gf_X4_9 hB hpb.1 rfl dX4_colourAt_6 ?_
  refine mn_icmp_ge (tgt := 39) hB dX4_colourAt_9 (by decide) (by omega) (by omega) (fun h_9 => ?_) (fun h_9 => ?_)
  · skip
    refine lv_bipush (v := (-9)) hx hb dX4_colourAt_39 (by decide) ?_
    refine mh_top (y := .int (caO w h col x y)) (by rw [caO_out (by omega)]) ?_
    refine mh_iret hB ⟨Nat.le_of_ble_eq_true rfl, Nat.le_of_ble_eq_true rfl⟩ hS dX4_colourAt_41 ⟨?_, rfl⟩
    · rfl
  · skip
    refine lv_iload_n hx hb dX4_colourAt_12 rfl (lv_at hl 2 rfl) ?_
    refine mn_if_lt (tgt := 39) hB dX4_colourAt_13 (by decide) (by omega) (fun h => by exfalso; omega) (fun h_13 => ?_)
    refine lv_iload_n hx hb dX4_colourAt_16 rfl (lv_at hl 2 rfl) ?_
    refine lv_aload_n hx hb dX4_colourAt_17 rfl (lv_at hl 0 rfl) ?_
    refine gf_X4_15 hB hpb.1 rfl dX4_colourAt_18 ?_
    refine mn_icmp_ge (tgt := 39) hB dX4_colourAt_21 (by decide) (by omega) (by omega) (fun h_21 => ?_) (fun h_21 => ?_)
    · skip
      refine lv_bipush (v := (-9)) hx hb dX4_colourAt_39 (by decide) ?_
      refine mh_top (y := .int (caO w h col x y)) (by rw [caO_out (by omega)]) ?_
      refine mh_iret hB ⟨Nat.le_of_ble_eq_true rfl, Nat.le_of_ble_eq_true rfl⟩ hS dX4_colourAt_41 ⟨?_, rfl⟩
      · rfl
    · skip
      refine lv_aload_n hx hb dX4_colourAt_24 rfl (lv_at hl 0 rfl) ?_
      refine lv_iload_n hx hb dX4_colourAt_25 rfl (lv_at hl 2 rfl) ?_
      refine lv_aload_n hx hb dX4_colourAt_26 rfl (lv_at hl 0 rfl) ?_
      refine gf_X4_9 hB hpb.1 rfl dX4_colourAt_27 ?_
      refine mn_imul hB dX4_colourAt_30 ?_
      refine lv_iload_n hx hb dX4_colourAt_31 rfl (lv_at hl 1 rfl) ?_
      refine mn_iadd hB dX4_colourAt_32 ?_
      have hk9 := idx_lt (a := x) (b := y) (w := w) (h := h) (by omega) (by omega)
      refine cl_X4_22 (As := [.int (nI ((y * w) + x))]) (rest := []) hB (c_X4_colourOf l g H0 pa pb w h col ((y * w) + x) hpb (by first | assumption | omega)) hpb.1 rfl hl.1 (Nat.le_of_ble_eq_true rfl) dX4_colourAt_33 ⟨Nat.le_of_ble_eq_true rfl, Nat.le_of_ble_eq_true rfl⟩ ⟨Nat.le_of_ble_eq_true rfl, Nat.le_of_ble_eq_true rfl⟩ hS (by have hz9 := hS.1; rintro q (h | h) <;> first | exact Or.inr (by omega) | exact h.elim | exact Or.inl h | (simp only [ftA] at h ⊢; omega)) (fun v H1 locs hpo hfr hS => ?_)
      obtain ⟨rfl, rfl⟩ := hpo
      refine W.widen (k := 0) (n := 0) (Nat.le_of_ble_eq_true rfl) (Nat.le_of_ble_eq_true rfl) ?_
      refine mh_top (y := .int (caO w h col x y)) (by rw [caO_in (by omega) (by omega)]; unfold clO; rw [if_pos hk9]) ?_
      refine lv_goto (tgt := 41) hx hb dX4_colourAt_36 (by decide) ?_
      refine mh_iret hB ⟨Nat.le_of_ble_eq_true rfl, Nat.le_of_ble_eq_true rfl⟩ hS dX4_colourAt_41 ⟨?_, rfl⟩
      · rfl

def rm_c_X4_colourAt_nx : Room := { frames := 0, cells := 0, slots := 0, locals := 0 }
set_option maxRecDepth 100000 in
set_option maxHeartbeats 400000 in
theorem c_X4_colourAt_nx (l : Launch) (g : GG) (H0 : Heap) (pa : Nat) (pb : Nat) (w : Nat) (h : Nat) (col : Nat → Nat) (x : Int32) (y : Int32) (hpb : PatB g pa pb w h col H0) (hx9 : x < 0) : Ct l yX4_colourAt cX4_colourAt 3 (some .int) rm_c_X4_colourAt_nx g [.ref pa, .int x, .int y] H0 (ftA (fun _ => False) H0.size) (fun v H1 => v = some (.int (-9)) ∧ H0 = H1) := by
  refine Ct.of (by decide) (fun _ h => Or.inr h) (Nat.le_of_ble_eq_true rfl) ?_
  intro p e s m below meth c ls hB hin hS hH hl
  have hx := hB.x
  have hb := hB.b
  have hl : lv_has ls 3 [(0, .ref pa), (1, .int x), (2, .int y)] := hl
  have hw0 := hpb.2.2.1
  have hw16 := hpb.2.2.2.1
  have hh0 := hpb.2.2.2.2.1
  have hh16 := hpb.2.2.2.2.2.1
  have hwh := hpb.2.2.2.2.2.2.1
  have hcol := hpb.2.2.2.2.2.2.2
  refine lv_iload_n hx hb dX4_colourAt_0 rfl (lv_at hl 1 rfl) ?_
  refine lv_if_lt (tgt := 39) hx hb dX4_colourAt_1 (by decide) (fun h_1 => ?_) (fun h => absurd hx9 h)
  refine lv_bipush (v := (-9)) hx hb dX4_colourAt_39 (by decide) ?_
  refine mh_iret hB ⟨Nat.le_of_ble_eq_true rfl, Nat.le_of_ble_eq_true rfl⟩ hS dX4_colourAt_41 ⟨?_, rfl⟩
  · rfl

def rm_c_X4_colourAt_ny : Room := { frames := 0, cells := 0, slots := 0, locals := 0 }
set_option maxRecDepth 100000 in
set_option maxHeartbeats 400000 in
theorem c_X4_colourAt_ny (l : Launch) (g : GG) (H0 : Heap) (pa : Nat) (pb : Nat) (w : Nat) (h : Nat) (col : Nat → Nat) (x : Nat) (y : Int32) (hpb : PatB g pa pb w h col H0) (hx8 : x < 2147483648) (hx9 : y < 0) : Ct l yX4_colourAt cX4_colourAt 3 (some .int) rm_c_X4_colourAt_ny g [.ref pa, .int (nI x), .int y] H0 (ftA (fun _ => False) H0.size) (fun v H1 => v = some (.int (-9)) ∧ H0 = H1) := by
  refine Ct.of (by decide) (fun _ h => Or.inr h) (Nat.le_of_ble_eq_true rfl) ?_
  intro p e s m below meth c ls hB hin hS hH hl
  have hx := hB.x
  have hb := hB.b
  have hl : lv_has ls 3 [(0, .ref pa), (1, .int (nI x)), (2, .int y)] := hl
  have hw0 := hpb.2.2.1
  have hw16 := hpb.2.2.2.1
  have hh0 := hpb.2.2.2.2.1
  have hh16 := hpb.2.2.2.2.2.1
  have hwh := hpb.2.2.2.2.2.2.1
  have hcol := hpb.2.2.2.2.2.2.2
  refine lv_iload_n hx hb dX4_colourAt_0 rfl (lv_at hl 1 rfl) ?_
  refine mn_if_lt (tgt := 39) hB dX4_colourAt_1 (by decide) (by omega) (fun h => by exfalso; omega) (fun h_1 => ?_)
  refine lv_iload_n hx hb dX4_colourAt_4 rfl (lv_at hl 1 rfl) ?_
  refine lv_aload_n hx hb dX4_colourAt_5 rfl (lv_at hl 0 rfl) ?_
  refine gf_X4_9 hB hpb.1 rfl dX4_colourAt_6 ?_
  refine mn_icmp_ge (tgt := 39) hB dX4_colourAt_9 (by decide) (by omega) (by omega) (fun h_9 => ?_) (fun h_9 => ?_)
  · skip
    refine lv_bipush (v := (-9)) hx hb dX4_colourAt_39 (by decide) ?_
    refine mh_iret hB ⟨Nat.le_of_ble_eq_true rfl, Nat.le_of_ble_eq_true rfl⟩ hS dX4_colourAt_41 ⟨?_, rfl⟩
    · rfl
  · skip
    refine lv_iload_n hx hb dX4_colourAt_12 rfl (lv_at hl 2 rfl) ?_
    refine lv_if_lt (tgt := 39) hx hb dX4_colourAt_13 (by decide) (fun h_13 => ?_) (fun h => absurd hx9 h)
    refine lv_bipush (v := (-9)) hx hb dX4_colourAt_39 (by decide) ?_
    refine mh_iret hB ⟨Nat.le_of_ble_eq_true rfl, Nat.le_of_ble_eq_true rfl⟩ hS dX4_colourAt_41 ⟨?_, rfl⟩
    · rfl

def rm_c_X4_patchesOf : Room := { frames := 1, cells := 0, slots := 0, locals := 21 }
set_option maxRecDepth 100000 in
set_option maxHeartbeats 400000 in
theorem c_X4_patchesOf (l : Launch) (g : GG) (H0 : Heap) (pa : Nat) (pb : Nat) (w : Nat) (h : Nat) (col : Nat → Nat) (c0 : Nat) (a : Nat) (z9 : Nat) (hpb : PatB g pa pb w h col H0) (hc : c0 < 2147483648) (hab : a ≤ z9) (hz9 : z9 ≤ w * h) : Ct l yX4_patchesOf cX4_patchesOf 6 (some .int) rm_c_X4_patchesOf g [.ref pa, .int (nI c0), .int (nI a), .int (nI z9)] H0 (ftA (fun _ => False) H0.size) (fun v H1 => v = some (.int (nI (cnP col c0 a (z9 - a)))) ∧ H0 = H1) := by
  refine Ct.of (by decide) (fun _ h => Or.inr h) (Nat.le_of_ble_eq_true rfl) ?_
  intro p e s m below meth c ls hB hin hS hH hl
  have hx := hB.x
  have hb := hB.b
  have hl : lv_has ls 6 [(0, .ref pa), (1, .int (nI c0)), (2, .int (nI a)), (3, .int (nI z9))] := hl
  have hw0 := hpb.2.2.1
  have hw16 := hpb.2.2.2.1
  have hh0 := hpb.2.2.2.2.1
  have hh16 := hpb.2.2.2.2.2.1
  have hwh := hpb.2.2.2.2.2.2.1
  have hcol := hpb.2.2.2.2.2.2.2
  refine lv_iconst (v := nI 0) hx hb dX4_patchesOf_0 (by decide) ?_
  refine lv_istore (lv' := [(4, .int (nI 0)), (0, .ref pa), (1, .int (nI c0)), (2, .int (nI a)), (3, .int (nI z9))]) hx hb dX4_patchesOf_1 hl (by decide) rfl (fun ls hl => ?_)
  refine lv_iload_n hx hb dX4_patchesOf_3 rfl (lv_at hl 3 rfl) ?_
  refine lv_istore (lv' := [(5, .int (nI a)), (4, .int (nI 0)), (0, .ref pa), (1, .int (nI c0)), (2, .int (nI a)), (3, .int (nI z9))]) hx hb dX4_patchesOf_4 hl (by decide) rfl (fun ls hl => ?_)
  refine mh_loopR (σ := Nat) (fun xx9 locs ls => match xx9 with | i => i ≤ z9 - a ∧ va_S (ftA (fun _ => False) H0.size) H0 H0 locs ∧ lv_has ls 6 [(0, .ref pa), (1, .int (nI c0)), (2, .int (nI a)), (3, .int (nI z9)), (4, .int (nI (cnP col c0 a i))), (5, .int (nI (a + i)))]) (fun xx9 => match xx9 with | i => z9 - a - i) ?_ 0 ⟨(by omega), hS, lv_sub hl [2, 3, 4, 5, 1, 0] rfl⟩
  rintro i locs ls ⟨hi, hS, hl⟩ ih
  have ih6 := ih
  refine lv_iload hx hb dX4_patchesOf_6 (lv_at hl 5 rfl) ?_
  refine lv_iload_n hx hb dX4_patchesOf_8 rfl (lv_at hl 3 rfl) ?_
  refine mn_icmp_ge (tgt := 41) hB dX4_patchesOf_9 (by decide) (by omega) (by omega) (fun h_9 => ?_) (fun h_9 => ?_)
  · skip
    have hin : i = z9 - a := by omega
    subst hin
    refine lv_iload hx hb dX4_patchesOf_41 (lv_at hl 4 rfl) ?_
    refine mh_iret hB ⟨Nat.le_of_ble_eq_true rfl, Nat.le_of_ble_eq_true rfl⟩ hS dX4_patchesOf_43 ⟨?_, rfl⟩
    · rfl
  · skip
    refine lv_iload hx hb dX4_patchesOf_12 (lv_at hl 5 rfl) ?_
    refine lv_aload_n hx hb dX4_patchesOf_14 rfl (lv_at hl 0 rfl) ?_
    refine gf_X4_18 hB hpb.1 rfl dX4_patchesOf_15 ?_
    refine mh_alen hB 1 rfl hpb.2.1 dX4_patchesOf_18 ?_
    refine mn_icmp_ge (tgt := 41) hB dX4_patchesOf_19 (by decide) (by omega) (by omega) (fun h => by exfalso; omega) (fun h_19 => ?_)
    refine lv_aload_n hx hb dX4_patchesOf_22 rfl (lv_at hl 0 rfl) ?_
    refine lv_iload hx hb dX4_patchesOf_23 (lv_at hl 5 rfl) ?_
    refine cl_X4_22 (As := [.int (nI (a + i))]) (rest := []) hB (c_X4_colourOf l g H0 pa pb w h col (a + i) hpb (by first | assumption | omega)) hpb.1 rfl hl.1 (Nat.le_of_ble_eq_true rfl) dX4_patchesOf_25 ⟨Nat.le_of_ble_eq_true rfl, Nat.le_of_ble_eq_true rfl⟩ ⟨Nat.le_of_ble_eq_true rfl, Nat.le_of_ble_eq_true rfl⟩ hS (by have hz9 := hS.1; rintro q (h | h) <;> first | exact Or.inr (by omega) | exact h.elim | exact Or.inl h | (simp only [ftA] at h ⊢; omega)) (fun v H1 locs hpo hfr hS => ?_)
    obtain ⟨rfl, rfl⟩ := hpo
    refine W.widen (k := 0) (n := 0) (Nat.le_of_ble_eq_true rfl) (Nat.le_of_ble_eq_true rfl) ?_
    refine mh_top (y := .int (nI (col (a + i)))) (by unfold clO; rw [if_pos (by omega)]) ?_
    refine lv_iload_n hx hb dX4_patchesOf_28 rfl (lv_at hl 1 rfl) ?_
    refine mn_icmp_ne (tgt := 35) hB dX4_patchesOf_29 (by decide) (by have := hcol (a + i) (by omega); omega) (by omega) (fun h_29 => ?_) (fun h_29 => ?_)
    · skip
      have e35 : cnP col c0 a i = cnP col c0 a (i + 1) := by simp [cnP, cntR, h_29]
      rw [e35] at hl
      refine lv_iinc (v := nI (a + i + 1)) (lv' := [(5, .int (nI (a + i + 1))), (0, .ref pa), (1, .int (nI c0)), (2, .int (nI a)), (3, .int (nI z9)), (4, .int (nI (cnP col c0 a (i + 1))))]) hx hb dX4_patchesOf_35 hl (k := 5) rfl (nI_1 _) (by decide) rfl (fun ls hl => ?_)
      refine lv_goto (tgt := 6) hx hb dX4_patchesOf_38 (by decide) ?_
      refine ih6 (i + 1) _ _ ⟨(by omega), hS, lv_sub hl [1, 2, 3, 4, 5, 0] rfl⟩ (by dsimp only; omega)
    · skip
      refine lv_iinc (v := nI (cnP col c0 a i + 1)) (lv' := [(4, .int (nI (cnP col c0 a i + 1))), (0, .ref pa), (1, .int (nI c0)), (2, .int (nI a)), (3, .int (nI z9)), (5, .int (nI (a + i)))]) hx hb dX4_patchesOf_32 hl (k := 4) rfl (nI_1 _) (by decide) rfl (fun ls hl => ?_)
      have e35 : cnP col c0 a i + 1 = cnP col c0 a (i + 1) := by simp [cnP, cntR, h_29]
      rw [e35] at hl
      refine lv_iinc (v := nI (a + i + 1)) (lv' := [(5, .int (nI (a + i + 1))), (4, .int (nI (cnP col c0 a (i + 1)))), (0, .ref pa), (1, .int (nI c0)), (2, .int (nI a)), (3, .int (nI z9))]) hx hb dX4_patchesOf_35 hl (k := 5) rfl (nI_1 _) (by decide) rfl (fun ls hl => ?_)
      refine lv_goto (tgt := 6) hx hb dX4_patchesOf_38 (by decide) ?_
      refine ih6 (i + 1) _ _ ⟨(by omega), hS, lv_sub hl [2, 3, 4, 5, 1, 0] rfl⟩ (by dsimp only; omega)

def rm_c_X4_differentColours : Room := { frames := 2, cells := 0, slots := 0, locals := 46 }
set_option maxRecDepth 100000 in
set_option maxHeartbeats 400000 in
theorem c_X4_differentColours (l : Launch) (g : GG) (H0 : Heap) (pa : Nat) (pb : Nat) (w : Nat) (h : Nat) (col : Nat → Nat) (hpb : PatB g pa pb w h col H0) : Ct l yX4_differentColours cX4_differentColours 3 (some .int) rm_c_X4_differentColours g [.ref pa] H0 (ftA (fun _ => False) H0.size) (fun v H1 => v = some (.int (nI (cntR (fun j9 => decide (0 < cnP col j9 0 (w * h))) 0 6))) ∧ H0 = H1) := by
  refine Ct.of (by decide) (fun _ h => Or.inr h) (Nat.le_of_ble_eq_true rfl) ?_
  intro p e s m below meth c ls hB hin hS hH hl
  have hx := hB.x
  have hb := hB.b
  have hl : lv_has ls 3 [(0, .ref pa)] := hl
  have hw0 := hpb.2.2.1
  have hw16 := hpb.2.2.2.1
  have hh0 := hpb.2.2.2.2.1
  have hh16 := hpb.2.2.2.2.2.1
  have hwh := hpb.2.2.2.2.2.2.1
  have hcol := hpb.2.2.2.2.2.2.2
  refine lv_iconst (v := nI 0) hx hb dX4_differentColours_0 (by decide) ?_
  refine lv_istore_n (lv' := [(1, .int (nI 0)), (0, .ref pa)]) hx hb dX4_differentColours_1 rfl hl (by decide) rfl (fun ls hl => ?_)
  refine lv_iconst (v := nI 0) hx hb dX4_differentColours_2 (by decide) ?_
  refine lv_istore_n (lv' := [(2, .int (nI 0)), (1, .int (nI 0)), (0, .ref pa)]) hx hb dX4_differentColours_3 rfl hl (by decide) rfl (fun ls hl => ?_)
  refine mh_loopR (σ := Nat) (fun xx9 locs ls => match xx9 with | i => i ≤ 6 ∧ va_S (ftA (fun _ => False) H0.size) H0 H0 locs ∧ lv_has ls 3 [(0, .ref pa), (1, .int (nI (cntR (fun j9 => decide (0 < cnP col j9 0 (w * h))) 0 i))), (2, .int (nI i))]) (fun xx9 => match xx9 with | i => 6 - i) ?_ 0 ⟨(by omega), hS, lv_sub hl [2, 1, 0] rfl⟩
  rintro i locs ls ⟨hi, hS, hl⟩ ih
  have ih4 := ih
  refine lv_iload_n hx hb dX4_differentColours_4 rfl (lv_at hl 2 rfl) ?_
  refine lv_bipush (v := nI 6) hx hb dX4_differentColours_5 (by decide) ?_
  refine mn_icmp_ge (tgt := 32) hB dX4_differentColours_7 (by decide) (by omega) (by omega) (fun h_7 => ?_) (fun h_7 => ?_)
  · skip
    have hin9 : i = 6 := by omega
    subst hin9
    refine lv_iload_n hx hb dX4_differentColours_32 rfl (lv_at hl 1 rfl) ?_
    refine mh_iret hB ⟨Nat.le_of_ble_eq_true rfl, Nat.le_of_ble_eq_true rfl⟩ hS dX4_differentColours_33 ⟨?_, rfl⟩
    · rfl
  · skip
    refine lv_aload_n hx hb dX4_differentColours_10 rfl (lv_at hl 0 rfl) ?_
    refine lv_iload_n hx hb dX4_differentColours_11 rfl (lv_at hl 2 rfl) ?_
    refine lv_iconst (v := nI 0) hx hb dX4_differentColours_12 (by decide) ?_
    refine lv_aload_n hx hb dX4_differentColours_13 rfl (lv_at hl 0 rfl) ?_
    refine cl_X4_26 (As := []) (rest := [.int (nI 0), .int (nI i), .ref pa]) hB (c_X4_patches l g H0 pa pb w h col hpb) hpb.1 rfl hl.1 (Nat.le_of_ble_eq_true rfl) dX4_differentColours_14 ⟨Nat.le_of_ble_eq_true rfl, Nat.le_of_ble_eq_true rfl⟩ ⟨Nat.le_of_ble_eq_true rfl, Nat.le_of_ble_eq_true rfl⟩ hS (by have hz9 := hS.1; rintro q (h | h) <;> first | exact Or.inr (by omega) | exact h.elim | exact Or.inl h | (simp only [ftA] at h ⊢; omega)) (fun v H1 locs hpo hfr hS => ?_)
    obtain ⟨rfl, rfl⟩ := hpo
    refine W.widen (k := 0) (n := 0) (Nat.le_of_ble_eq_true rfl) (Nat.le_of_ble_eq_true rfl) ?_
    refine cl_X4_30 (As := [.int (nI i), .int (nI 0), .int (nI (w * h))]) (rest := []) hB (c_X4_patchesOf l g H0 pa pb w h col i 0 (w * h) hpb (by first | assumption | omega) (by first | assumption | omega) (by first | assumption | omega)) hpb.1 rfl hl.1 (Nat.le_of_ble_eq_true rfl) dX4_differentColours_17 ⟨Nat.le_of_ble_eq_true rfl, Nat.le_of_ble_eq_true rfl⟩ ⟨Nat.le_of_ble_eq_true rfl, Nat.le_of_ble_eq_true rfl⟩ hS (by have hz9 := hS.1; rintro q (h | h) <;> first | exact Or.inr (by omega) | exact h.elim | exact Or.inl h | (simp only [ftA] at h ⊢; omega)) (fun v H1 locs hpo hfr hS => ?_)
    obtain ⟨rfl, rfl⟩ := hpo
    refine W.widen (k := 0) (n := 0) (Nat.le_of_ble_eq_true rfl) (Nat.le_of_ble_eq_true rfl) ?_
    refine mh_top (y := .int (nI (cnP col i 0 (w * h)))) (rfl) ?_
    refine mn_if_le (tgt := 26) hB dX4_differentColours_20 (by decide) (by have := cntR_le (fun k => decide (col k = i)) 0 (w * h); unfold cnP; omega) (fun h_20 => ?_) (fun h_20 => ?_)
    · skip
      have e26 : cntR (fun j9 => decide (0 < cnP col j9 0 (w * h))) 0 i = cntR (fun j9 => decide (0 < cnP col j9 0 (w * h))) 0 (i + 1) := by simp [cntR, h_20]
      rw [e26] at hl
      refine lv_iinc (v := nI (i + 1)) (lv' := [(2, .int (nI (i + 1))), (0, .ref pa), (1, .int (nI (cntR (fun j9 => decide (0 < cnP col j9 0 (w * h))) 0 (i + 1))))]) hx hb dX4_differentColours_26 hl (k := 2) rfl (nI_1 _) (by decide) rfl (fun ls hl => ?_)
      refine lv_goto (tgt := 4) hx hb dX4_differentColours_29 (by decide) ?_
      refine ih4 (i + 1) _ _ ⟨(by omega), hS, lv_sub hl [1, 2, 0] rfl⟩ (by dsimp only; omega)
    · skip
      refine lv_iinc (v := nI (cntR (fun j9 => decide (0 < cnP col j9 0 (w * h))) 0 i + 1)) (lv' := [(1, .int (nI (cntR (fun j9 => decide (0 < cnP col j9 0 (w * h))) 0 i + 1))), (0, .ref pa), (2, .int (nI i))]) hx hb dX4_differentColours_23 hl (k := 1) rfl (nI_1 _) (by decide) rfl (fun ls hl => ?_)
      have e26 : cntR (fun j9 => decide (0 < cnP col j9 0 (w * h))) 0 i + 1 = cntR (fun j9 => decide (0 < cnP col j9 0 (w * h))) 0 (i + 1) := by simp [cntR, h_20]
      rw [e26] at hl
      refine lv_iinc (v := nI (i + 1)) (lv' := [(2, .int (nI (i + 1))), (1, .int (nI (cntR (fun j9 => decide (0 < cnP col j9 0 (w * h))) 0 (i + 1)))), (0, .ref pa)]) hx hb dX4_differentColours_26 hl (k := 2) rfl (nI_1 _) (by decide) rfl (fun ls hl => ?_)
      refine lv_goto (tgt := 4) hx hb dX4_differentColours_29 (by decide) ?_
      refine ih4 (i + 1) _ _ ⟨(by omega), hS, lv_sub hl [2, 1, 0] rfl⟩ (by dsimp only; omega)

def rm_c_X4_isSeam : Room := { frames := 2, cells := 0, slots := 0, locals := 43 }
set_option maxRecDepth 100000 in
set_option maxHeartbeats 400000 in
theorem c_X4_isSeam (l : Launch) (g : GG) (H0 : Heap) (pa : Nat) (pb : Nat) (w : Nat) (h : Nat) (col : Nat → Nat) (x : Nat) (y : Nat) (x2 : Nat) (y2 : Nat) (hpb : PatB g pa pb w h col H0) (hxw : x < w) (hyh : y < h) (hx2 : x2 < 2147483648) (hy2 : y2 < 2147483648) : Ct l yX4_isSeam cX4_isSeam 6 (some .boolean) rm_c_X4_isSeam g [.ref pa, .int (nI x), .int (nI y), .int (nI x2), .int (nI y2)] H0 (ftA (fun _ => False) H0.size) (fun v H1 => v = some (.int (bI (smB w h col x y x2 y2))) ∧ H0 = H1) := by
  refine Ct.of (by decide) (fun _ h => Or.inr h) (Nat.le_of_ble_eq_true rfl) ?_
  intro p e s m below meth c ls hB hin hS hH hl
  have hx := hB.x
  have hb := hB.b
  have hl : lv_has ls 6 [(0, .ref pa), (1, .int (nI x)), (2, .int (nI y)), (3, .int (nI x2)), (4, .int (nI y2))] := hl
  have hw0 := hpb.2.2.1
  have hw16 := hpb.2.2.2.1
  have hh0 := hpb.2.2.2.2.1
  have hh16 := hpb.2.2.2.2.2.1
  have hwh := hpb.2.2.2.2.2.2.1
  have hcol := hpb.2.2.2.2.2.2.2
  refine lv_aload_n hx hb dX4_isSeam_0 rfl (lv_at hl 0 rfl) ?_
  refine lv_iload_n hx hb dX4_isSeam_1 rfl (lv_at hl 3 rfl) ?_
  refine lv_iload hx hb dX4_isSeam_2 (lv_at hl 4 rfl) ?_
  refine cl_X4_38 (As := [.int (nI x2), .int (nI y2)]) (rest := []) hB (c_X4_colourAt l g H0 pa pb w h col x2 y2 hpb (by first | assumption | omega) (by first | assumption | omega)) hpb.1 rfl hl.1 (Nat.le_of_ble_eq_true rfl) dX4_isSeam_4 ⟨Nat.le_of_ble_eq_true rfl, Nat.le_of_ble_eq_true rfl⟩ ⟨Nat.le_of_ble_eq_true rfl, Nat.le_of_ble_eq_true rfl⟩ hS (by have hz9 := hS.1; rintro q (h | h) <;> first | exact Or.inr (by omega) | exact h.elim | exact Or.inl h | (simp only [ftA] at h ⊢; omega)) (fun v H1 locs hpo hfr hS => ?_)
  obtain ⟨rfl, rfl⟩ := hpo
  refine W.widen (k := 0) (n := 0) (Nat.le_of_ble_eq_true rfl) (Nat.le_of_ble_eq_true rfl) ?_
  refine lv_istore (lv' := [(5, .int (caO w h col x2 y2)), (0, .ref pa), (1, .int (nI x)), (2, .int (nI y)), (3, .int (nI x2)), (4, .int (nI y2))]) hx hb dX4_isSeam_7 hl (by decide) rfl (fun ls hl => ?_)
  refine lv_iload hx hb dX4_isSeam_9 (lv_at hl 0 rfl) ?_
  refine lv_bipush (v := (-9)) hx hb dX4_isSeam_11 (by decide) ?_
  refine lv_icmp_eq (tgt := 31) hx hb dX4_isSeam_13 (by decide) (fun h_13 => ?_) (fun h_13 => ?_)
  · skip
    have hs9 : smB w h col x y x2 y2 = false := by
      unfold smB
      refine decide_eq_false (fun z => ?_)
      rw [caO_in z.1 z.2.1] at h_13
      have := hcol _ (idx_lt z.1 z.2.1)
      exact m9ne (by omega) h_13
    refine lv_iconst (v := nI 0) hx hb dX4_isSeam_31 (by decide) ?_
    refine mh_zret hB ⟨Nat.le_of_ble_eq_true rfl, Nat.le_of_ble_eq_true rfl⟩ hS dX4_isSeam_32 (by first | rfl | decide | (split <;> rfl)) ⟨?_, rfl⟩
    · rw [hs9]; rfl
  · skip
    have hs8 : x2 < w ∧ y2 < h := Decidable.byContradiction (fun z => h_13 (caO_out z))
    have hc8 := hcol _ (idx_lt hs8.1 hs8.2)
    have hc7 := hcol _ (idx_lt hxw hyh)
    refine lv_iload hx hb dX4_isSeam_16 (lv_at hl 0 rfl) ?_
    refine lv_aload_n hx hb dX4_isSeam_18 rfl (lv_at hl 1 rfl) ?_
    refine lv_iload_n hx hb dX4_isSeam_19 rfl (lv_at hl 2 rfl) ?_
    refine lv_iload_n hx hb dX4_isSeam_20 rfl (lv_at hl 3 rfl) ?_
    refine cl_X4_38 (As := [.int (nI x), .int (nI y)]) (rest := [.int (caO w h col x2 y2)]) hB (c_X4_colourAt l g H0 pa pb w h col x y hpb (by first | assumption | omega) (by first | assumption | omega)) hpb.1 rfl hl.1 (Nat.le_of_ble_eq_true rfl) dX4_isSeam_21 ⟨Nat.le_of_ble_eq_true rfl, Nat.le_of_ble_eq_true rfl⟩ ⟨Nat.le_of_ble_eq_true rfl, Nat.le_of_ble_eq_true rfl⟩ hS (by have hz9 := hS.1; rintro q (h | h) <;> first | exact Or.inr (by omega) | exact h.elim | exact Or.inl h | (simp only [ftA] at h ⊢; omega)) (fun v H1 locs hpo hfr hS => ?_)
    obtain ⟨rfl, rfl⟩ := hpo
    refine W.widen (k := 0) (n := 0) (Nat.le_of_ble_eq_true rfl) (Nat.le_of_ble_eq_true rfl) ?_
    refine mh_top (y := .int (nI (col (y * w + x)))) (by rw [caO_in hxw hyh]) ?_
    refine lv_icmp_eq (tgt := 31) hx hb dX4_isSeam_24 (by decide) (fun h_24 => ?_) (fun h_24 => ?_)
    · skip
      have hs9 : smB w h col x y x2 y2 = false := by
        unfold smB
        refine decide_eq_false (fun z => z.2.2 ?_)
        rw [caO_in z.1 z.2.1] at h_24
        exact (nI_eq (by omega) (by omega)).mp h_24
      refine lv_iconst (v := nI 0) hx hb dX4_isSeam_31 (by decide) ?_
      refine mh_zret hB ⟨Nat.le_of_ble_eq_true rfl, Nat.le_of_ble_eq_true rfl⟩ hS dX4_isSeam_32 (by first | rfl | decide | (split <;> rfl)) ⟨?_, rfl⟩
      · rw [hs9]; rfl
    · skip
      have hs9 : smB w h col x y x2 y2 = true := by
        unfold smB
        refine decide_eq_true ⟨hs8.1, hs8.2, fun z => h_24 ?_⟩
        rw [caO_in hs8.1 hs8.2, z]
      refine lv_iconst (v := nI 1) hx hb dX4_isSeam_27 (by decide) ?_
      refine lv_goto (tgt := 32) hx hb dX4_isSeam_28 (by decide) ?_
      refine mh_zret hB ⟨Nat.le_of_ble_eq_true rfl, Nat.le_of_ble_eq_true rfl⟩ hS dX4_isSeam_32 (by first | rfl | decide | (split <;> rfl)) ⟨?_, rfl⟩
      · rw [hs9]; rfl

def rm_c_X4_seams : Room := { frames := 3, cells := 0, slots := 0, locals := 68 }
set_option maxRecDepth 100000 in
set_option maxHeartbeats 400000 in
theorem c_X4_seams (l : Launch) (g : GG) (H0 : Heap) (pa : Nat) (pb : Nat) (w : Nat) (h : Nat) (col : Nat → Nat) (hpb : PatB g pa pb w h col H0) : Ct l yX4_seams cX4_seams 4 (some .int) rm_c_X4_seams g [.ref pa] H0 (ftA (fun _ => False) H0.size) (fun v H1 => v = some (.int (nI (seamN w (w * h) col (w * h)))) ∧ H0 = H1) := by
  refine Ct.of (by decide) (fun _ h => Or.inr h) (Nat.le_of_ble_eq_true rfl) ?_
  intro p e s m below meth c ls hB hin hS hH hl
  have hx := hB.x
  have hb := hB.b
  have hl : lv_has ls 4 [(0, .ref pa)] := hl
  have hw0 := hpb.2.2.1
  have hw16 := hpb.2.2.2.1
  have hh0 := hpb.2.2.2.2.1
  have hh16 := hpb.2.2.2.2.2.1
  have hwh := hpb.2.2.2.2.2.2.1
  have hcol := hpb.2.2.2.2.2.2.2
  have hsl := fun n => seamN_le w (w * h) col n
  refine lv_iconst (v := nI 0) hx hb dX4_seams_0 (by decide) ?_
  refine lv_istore_n (lv' := [(1, .int (nI 0)), (0, .ref pa)]) hx hb dX4_seams_1 rfl hl (by decide) rfl (fun ls hl => ?_)
  refine lv_iconst (v := nI 0) hx hb dX4_seams_2 (by decide) ?_
  refine lv_istore_n (lv' := [(2, .int (nI 0)), (1, .int (nI 0)), (0, .ref pa)]) hx hb dX4_seams_3 rfl hl (by decide) rfl (fun ls hl => ?_)
  refine mh_loopR (σ := Nat) (fun xx9 locs ls => match xx9 with | y9 => y9 ≤ h ∧ va_S (ftA (fun _ => False) H0.size) H0 H0 locs ∧ lv_has ls 4 [(0, .ref pa), (1, .int (nI (seamN w (w * h) col (w * y9)))), (2, .int (nI y9))]) (fun xx9 => match xx9 with | y9 => h - y9) ?_ 0 ⟨(by omega), hS, lv_sub hl [2, 1, 0] rfl⟩
  rintro y9 locs ls ⟨hy9, hS, hl⟩ ih
  have ih4 := ih
  refine lv_iload_n hx hb dX4_seams_4 rfl (lv_at hl 2 rfl) ?_
  refine lv_aload_n hx hb dX4_seams_5 rfl (lv_at hl 0 rfl) ?_
  refine gf_X4_15 hB hpb.1 rfl dX4_seams_6 ?_
  refine mn_icmp_ge (tgt := 76) hB dX4_seams_9 (by decide) (by omega) (by omega) (fun h_9 => ?_) (fun h_9 => ?_)
  · skip
    have hin9 : h = y9 := by omega
    subst hin9
    refine lv_iload_n hx hb dX4_seams_76 rfl (lv_at hl 1 rfl) ?_
    refine mh_iret hB ⟨Nat.le_of_ble_eq_true rfl, Nat.le_of_ble_eq_true rfl⟩ hS dX4_seams_77 ⟨?_, rfl⟩
    · rfl
  · skip
    rw [show w * y9 = y9 * w + 0 from by rw [Nat.mul_comm]; rfl] at hl
    refine lv_iconst (v := nI 0) hx hb dX4_seams_12 (by decide) ?_
    refine lv_istore_n (lv' := [(3, .int (nI 0)), (0, .ref pa), (1, .int (nI (seamN w (w * h) col (y9 * w + 0)))), (2, .int (nI y9))]) hx hb dX4_seams_13 rfl hl (by decide) rfl (fun ls hl => ?_)
    refine mh_loopR (σ := Nat) (fun xx9 locs ls => match xx9 with | x9 => x9 ≤ w ∧ va_S (ftA (fun _ => False) H0.size) H0 H0 locs ∧ lv_has ls 4 [(0, .ref pa), (1, .int (nI (seamN w (w * h) col (y9 * w + x9)))), (2, .int (nI y9)), (3, .int (nI x9))]) (fun xx9 => match xx9 with | x9 => w - x9) ?_ 0 ⟨(by omega), hS, lv_sub hl [1, 2, 3, 0] rfl⟩
    rintro x9 locs ls ⟨hx9, hS, hl⟩ ih
    have ih14 := ih
    refine lv_iload_n hx hb dX4_seams_14 rfl (lv_at hl 3 rfl) ?_
    refine lv_aload_n hx hb dX4_seams_15 rfl (lv_at hl 0 rfl) ?_
    refine gf_X4_9 hB hpb.1 rfl dX4_seams_16 ?_
    refine mn_icmp_ge (tgt := 70) hB dX4_seams_19 (by decide) (by omega) (by omega) (fun h_19 => ?_) (fun h_19 => ?_)
    · skip
      have hin9 : w = x9 := by omega
      subst hin9
      rw [show y9 * w + w = w * (y9 + 1) from by rw [Nat.mul_add, Nat.mul_comm, Nat.mul_one]] at hl
      refine lv_iinc (v := nI (y9 + 1)) (lv' := [(2, .int (nI (y9 + 1))), (0, .ref pa), (1, .int (nI (seamN w (w * h) col (w * (y9 + 1))))), (3, .int (nI w))]) hx hb dX4_seams_70 hl (k := 2) rfl (nI_1 _) (by decide) rfl (fun ls hl => ?_)
      refine lv_goto (tgt := 4) hx hb dX4_seams_73 (by decide) ?_
      refine ih4 (y9 + 1) _ _ ⟨(by omega), hS, lv_sub hl [1, 2, 0] rfl⟩ (by dsimp only; omega)
    · skip
      refine lv_iload_n hx hb dX4_seams_22 rfl (lv_at hl 1 rfl) ?_
      refine lv_aload_n hx hb dX4_seams_23 rfl (lv_at hl 0 rfl) ?_
      refine lv_iload_n hx hb dX4_seams_24 rfl (lv_at hl 3 rfl) ?_
      refine lv_iload_n hx hb dX4_seams_25 rfl (lv_at hl 2 rfl) ?_
      refine lv_iload_n hx hb dX4_seams_26 rfl (lv_at hl 3 rfl) ?_
      refine lv_iconst (v := nI 1) hx hb dX4_seams_27 (by decide) ?_
      refine mn_iadd hB dX4_seams_28 ?_
      refine lv_iload_n hx hb dX4_seams_29 rfl (lv_at hl 2 rfl) ?_
      refine cl_X4_34 (As := [.int (nI x9), .int (nI y9), .int (nI (x9 + 1)), .int (nI y9)]) (rest := [.int (nI (seamN w (w * h) col (y9 * w + x9)))]) hB (c_X4_isSeam l g H0 pa pb w h col x9 y9 (x9 + 1) y9 hpb (by first | assumption | omega) (by first | assumption | omega) (by omega) (by omega)) hpb.1 rfl hl.1 (Nat.le_of_ble_eq_true rfl) dX4_seams_30 ⟨Nat.le_of_ble_eq_true rfl, Nat.le_of_ble_eq_true rfl⟩ ⟨Nat.le_of_ble_eq_true rfl, Nat.le_of_ble_eq_true rfl⟩ hS (by have hz9 := hS.1; rintro q (h | h) <;> first | exact Or.inr (by omega) | exact h.elim | exact Or.inl h | (simp only [ftA] at h ⊢; omega)) (fun v H1 locs hpo hfr hS => ?_)
      obtain ⟨rfl, rfl⟩ := hpo
      refine W.widen (k := 0) (n := 0) (Nat.le_of_ble_eq_true rfl) (Nat.le_of_ble_eq_true rfl) ?_
      refine mb_if_eq (tgt := 40) hB dX4_seams_33 (by decide) (fun h_33 => ?_) (fun h_33 => ?_)
      · skip
        refine lv_iconst (v := nI 0) hx hb dX4_seams_40 (by decide) ?_
        refine mn_iadd hB dX4_seams_41 ?_
        refine mh_top (y := .int (nI (seamX w h col x9 y9))) (by unfold seamX; rw [h_33]; rfl) ?_
        refine lv_istore_n (lv' := [(1, .int (nI (seamX w h col x9 y9))), (0, .ref pa), (2, .int (nI y9)), (3, .int (nI x9))]) hx hb dX4_seams_42 rfl hl (by decide) rfl (fun ls hl => ?_)
        refine lv_iload_n hx hb dX4_seams_43 rfl (lv_at hl 0 rfl) ?_
        refine lv_aload_n hx hb dX4_seams_44 rfl (lv_at hl 1 rfl) ?_
        refine lv_iload_n hx hb dX4_seams_45 rfl (lv_at hl 3 rfl) ?_
        refine lv_iload_n hx hb dX4_seams_46 rfl (lv_at hl 2 rfl) ?_
        refine lv_iload_n hx hb dX4_seams_47 rfl (lv_at hl 3 rfl) ?_
        refine lv_iload_n hx hb dX4_seams_48 rfl (lv_at hl 2 rfl) ?_
        refine lv_iconst (v := nI 1) hx hb dX4_seams_49 (by decide) ?_
        refine mn_iadd hB dX4_seams_50 ?_
        refine cl_X4_34 (As := [.int (nI x9), .int (nI y9), .int (nI x9), .int (nI (y9 + 1))]) (rest := [.int (nI (seamX w h col x9 y9))]) hB (c_X4_isSeam l g H0 pa pb w h col x9 y9 x9 (y9 + 1) hpb (by first | assumption | omega) (by first | assumption | omega) (by omega) (by omega)) hpb.1 rfl hl.1 (Nat.le_of_ble_eq_true rfl) dX4_seams_51 ⟨Nat.le_of_ble_eq_true rfl, Nat.le_of_ble_eq_true rfl⟩ ⟨Nat.le_of_ble_eq_true rfl, Nat.le_of_ble_eq_true rfl⟩ hS (by have hz9 := hS.1; rintro q (h | h) <;> first | exact Or.inr (by omega) | exact h.elim | exact Or.inl h | (simp only [ftA] at h ⊢; omega)) (fun v H1 locs hpo hfr hS => ?_)
        obtain ⟨rfl, rfl⟩ := hpo
        refine W.widen (k := 0) (n := 0) (Nat.le_of_ble_eq_true rfl) (Nat.le_of_ble_eq_true rfl) ?_
        refine mb_if_eq (tgt := 61) hB dX4_seams_54 (by decide) (fun h_54 => ?_) (fun h_54 => ?_)
        · skip
          refine lv_iconst (v := nI 0) hx hb dX4_seams_61 (by decide) ?_
          refine mn_iadd hB dX4_seams_62 ?_
          refine mh_top (y := .int (nI (seamN w (w * h) col (y9 * w + (x9 + 1))))) (by rw [← seamX_s (by omega) (by omega), h_54]; rfl) ?_
          refine lv_istore_n (lv' := [(1, .int (nI (seamN w (w * h) col (y9 * w + (x9 + 1))))), (0, .ref pa), (2, .int (nI y9)), (3, .int (nI x9))]) hx hb dX4_seams_63 rfl hl (by decide) rfl (fun ls hl => ?_)
          refine lv_iinc (v := nI (x9 + 1)) (lv' := [(3, .int (nI (x9 + 1))), (1, .int (nI (seamN w (w * h) col (y9 * w + (x9 + 1))))), (0, .ref pa), (2, .int (nI y9))]) hx hb dX4_seams_64 hl (k := 3) rfl (nI_1 _) (by decide) rfl (fun ls hl => ?_)
          refine lv_goto (tgt := 14) hx hb dX4_seams_67 (by decide) ?_
          refine ih14 (x9 + 1) _ _ ⟨(by omega), hS, lv_sub hl [2, 1, 3, 0] rfl⟩ (by dsimp only; omega)
        · skip
          refine lv_iconst (v := nI 1) hx hb dX4_seams_57 (by decide) ?_
          refine lv_goto (tgt := 62) hx hb dX4_seams_58 (by decide) ?_
          refine mn_iadd hB dX4_seams_62 ?_
          refine mh_top (y := .int (nI (seamN w (w * h) col (y9 * w + (x9 + 1))))) (by rw [← seamX_s (by omega) (by omega), h_54]; rfl) ?_
          refine lv_istore_n (lv' := [(1, .int (nI (seamN w (w * h) col (y9 * w + (x9 + 1))))), (0, .ref pa), (2, .int (nI y9)), (3, .int (nI x9))]) hx hb dX4_seams_63 rfl hl (by decide) rfl (fun ls hl => ?_)
          refine lv_iinc (v := nI (x9 + 1)) (lv' := [(3, .int (nI (x9 + 1))), (1, .int (nI (seamN w (w * h) col (y9 * w + (x9 + 1))))), (0, .ref pa), (2, .int (nI y9))]) hx hb dX4_seams_64 hl (k := 3) rfl (nI_1 _) (by decide) rfl (fun ls hl => ?_)
          refine lv_goto (tgt := 14) hx hb dX4_seams_67 (by decide) ?_
          refine ih14 (x9 + 1) _ _ ⟨(by omega), hS, lv_sub hl [2, 1, 3, 0] rfl⟩ (by dsimp only; omega)
      · skip
        refine lv_iconst (v := nI 1) hx hb dX4_seams_36 (by decide) ?_
        refine lv_goto (tgt := 41) hx hb dX4_seams_37 (by decide) ?_
        refine mn_iadd hB dX4_seams_41 ?_
        refine mh_top (y := .int (nI (seamX w h col x9 y9))) (by unfold seamX; rw [h_33]; rfl) ?_
        refine lv_istore_n (lv' := [(1, .int (nI (seamX w h col x9 y9))), (0, .ref pa), (2, .int (nI y9)), (3, .int (nI x9))]) hx hb dX4_seams_42 rfl hl (by decide) rfl (fun ls hl => ?_)
        refine lv_iload_n hx hb dX4_seams_43 rfl (lv_at hl 0 rfl) ?_
        refine lv_aload_n hx hb dX4_seams_44 rfl (lv_at hl 1 rfl) ?_
        refine lv_iload_n hx hb dX4_seams_45 rfl (lv_at hl 3 rfl) ?_
        refine lv_iload_n hx hb dX4_seams_46 rfl (lv_at hl 2 rfl) ?_
        refine lv_iload_n hx hb dX4_seams_47 rfl (lv_at hl 3 rfl) ?_
        refine lv_iload_n hx hb dX4_seams_48 rfl (lv_at hl 2 rfl) ?_
        refine lv_iconst (v := nI 1) hx hb dX4_seams_49 (by decide) ?_
        refine mn_iadd hB dX4_seams_50 ?_
        refine cl_X4_34 (As := [.int (nI x9), .int (nI y9), .int (nI x9), .int (nI (y9 + 1))]) (rest := [.int (nI (seamX w h col x9 y9))]) hB (c_X4_isSeam l g H0 pa pb w h col x9 y9 x9 (y9 + 1) hpb (by first | assumption | omega) (by first | assumption | omega) (by omega) (by omega)) hpb.1 rfl hl.1 (Nat.le_of_ble_eq_true rfl) dX4_seams_51 ⟨Nat.le_of_ble_eq_true rfl, Nat.le_of_ble_eq_true rfl⟩ ⟨Nat.le_of_ble_eq_true rfl, Nat.le_of_ble_eq_true rfl⟩ hS (by have hz9 := hS.1; rintro q (h | h) <;> first | exact Or.inr (by omega) | exact h.elim | exact Or.inl h | (simp only [ftA] at h ⊢; omega)) (fun v H1 locs hpo hfr hS => ?_)
        obtain ⟨rfl, rfl⟩ := hpo
        refine W.widen (k := 0) (n := 0) (Nat.le_of_ble_eq_true rfl) (Nat.le_of_ble_eq_true rfl) ?_
        refine mb_if_eq (tgt := 61) hB dX4_seams_54 (by decide) (fun h_54 => ?_) (fun h_54 => ?_)
        · skip
          refine lv_iconst (v := nI 0) hx hb dX4_seams_61 (by decide) ?_
          refine mn_iadd hB dX4_seams_62 ?_
          refine mh_top (y := .int (nI (seamN w (w * h) col (y9 * w + (x9 + 1))))) (by rw [← seamX_s (by omega) (by omega), h_54]; rfl) ?_
          refine lv_istore_n (lv' := [(1, .int (nI (seamN w (w * h) col (y9 * w + (x9 + 1))))), (0, .ref pa), (2, .int (nI y9)), (3, .int (nI x9))]) hx hb dX4_seams_63 rfl hl (by decide) rfl (fun ls hl => ?_)
          refine lv_iinc (v := nI (x9 + 1)) (lv' := [(3, .int (nI (x9 + 1))), (1, .int (nI (seamN w (w * h) col (y9 * w + (x9 + 1))))), (0, .ref pa), (2, .int (nI y9))]) hx hb dX4_seams_64 hl (k := 3) rfl (nI_1 _) (by decide) rfl (fun ls hl => ?_)
          refine lv_goto (tgt := 14) hx hb dX4_seams_67 (by decide) ?_
          refine ih14 (x9 + 1) _ _ ⟨(by omega), hS, lv_sub hl [2, 1, 3, 0] rfl⟩ (by dsimp only; omega)
        · skip
          refine lv_iconst (v := nI 1) hx hb dX4_seams_57 (by decide) ?_
          refine lv_goto (tgt := 62) hx hb dX4_seams_58 (by decide) ?_
          refine mn_iadd hB dX4_seams_62 ?_
          refine mh_top (y := .int (nI (seamN w (w * h) col (y9 * w + (x9 + 1))))) (by rw [← seamX_s (by omega) (by omega), h_54]; rfl) ?_
          refine lv_istore_n (lv' := [(1, .int (nI (seamN w (w * h) col (y9 * w + (x9 + 1))))), (0, .ref pa), (2, .int (nI y9)), (3, .int (nI x9))]) hx hb dX4_seams_63 rfl hl (by decide) rfl (fun ls hl => ?_)
          refine lv_iinc (v := nI (x9 + 1)) (lv' := [(3, .int (nI (x9 + 1))), (1, .int (nI (seamN w (w * h) col (y9 * w + (x9 + 1))))), (0, .ref pa), (2, .int (nI y9))]) hx hb dX4_seams_64 hl (k := 3) rfl (nI_1 _) (by decide) rfl (fun ls hl => ?_)
          refine lv_goto (tgt := 14) hx hb dX4_seams_67 (by decide) ?_
          refine ih14 (x9 + 1) _ _ ⟨(by omega), hS, lv_sub hl [2, 1, 3, 0] rfl⟩ (by dsimp only; omega)

def rm_c_X4_changedColourAt : Room := { frames := 2, cells := 0, slots := 0, locals := 43 }
set_option maxRecDepth 100000 in
set_option maxHeartbeats 400000 in
theorem c_X4_changedColourAt (l : Launch) (g : GG) (H0 : Heap) (pa : Nat) (pb : Nat) (w : Nat) (h : Nat) (col : Nat → Nat) (n : Nat) (x : Nat) (y : Nat) (hpb : PatB g pa pb w h col H0) (hn8 : n < 8) (hxw : x < rtW w h (n % 4)) (hyh : y < rtW h w (n % 4)) : Ct l yX4_changedColourAt cX4_changedColourAt 9 (some .int) rm_c_X4_changedColourAt g [.ref pa, .int (nI n), .int (nI x), .int (nI y)] H0 (ftA (fun _ => False) H0.size) (fun v H1 => v = some (.int (nI (rtC w h (afC (decide (3 < n)) w col) (n % 4) (y * rtW w h (n % 4) + x)))) ∧ H0 = H1) := by
  refine Ct.of (by decide) (fun _ h => Or.inr h) (Nat.le_of_ble_eq_true rfl) ?_
  intro p e s m below meth c ls hB hin hS hH hl
  have hx := hB.x
  have hb := hB.b
  have hl : lv_has ls 9 [(0, .ref pa), (1, .int (nI n)), (2, .int (nI x)), (3, .int (nI y))] := hl
  have hw0 := hpb.2.2.1
  have hw16 := hpb.2.2.2.1
  have hh0 := hpb.2.2.2.2.1
  have hh16 := hpb.2.2.2.2.2.1
  have hwh := hpb.2.2.2.2.2.2.1
  have hcol := hpb.2.2.2.2.2.2.2
  have hrt := fun t => (rtW_in (n := t) ⟨hw0, hw16⟩ ⟨hh0, hh16⟩ : 0 < rtW w h t ∧ rtW w h t ≤ 16)
  have hrt2 := fun t => (rtW_in (n := t) ⟨hh0, hh16⟩ ⟨hw0, hw16⟩ : 0 < rtW h w t ∧ rtW h w t ≤ 16)
  have hq7 := hrt (n % 4)
  have hq8 := hrt2 (n % 4)
  refine lv_iload_n hx hb dX4_changedColourAt_0 rfl (lv_at hl 2 rfl) ?_
  refine lv_istore (lv' := [(4, .int (nI x)), (0, .ref pa), (1, .int (nI n)), (2, .int (nI x)), (3, .int (nI y))]) hx hb dX4_changedColourAt_1 hl (by decide) rfl (fun ls hl => ?_)
  refine lv_iload_n hx hb dX4_changedColourAt_3 rfl (lv_at hl 4 rfl) ?_
  refine lv_istore (lv' := [(5, .int (nI y)), (4, .int (nI x)), (0, .ref pa), (1, .int (nI n)), (2, .int (nI x)), (3, .int (nI y))]) hx hb dX4_changedColourAt_4 hl (by decide) rfl (fun ls hl => ?_)
  refine lv_iload_n hx hb dX4_changedColourAt_6 rfl (lv_at hl 3 rfl) ?_
  refine lv_iconst (v := nI 4) hx hb dX4_changedColourAt_7 (by decide) ?_
  refine mn_irem hB dX4_changedColourAt_8 (by omega) (by omega) (by omega) ?_
  refine lv_istore (lv' := [(6, .int (nI (n % 4))), (5, .int (nI y)), (4, .int (nI x)), (0, .ref pa), (1, .int (nI n)), (2, .int (nI x)), (3, .int (nI y))]) hx hb dX4_changedColourAt_9 hl (by decide) rfl (fun ls hl => ?_)
  refine mh_loopR (σ := Nat × Nat × Nat) (fun xx9 locs ls => match xx9 with | (j9, x9, y9) => j9 < 4 ∧ x9 < rtW w h j9 ∧ y9 < rtW h w j9 ∧ rtC w h (afC (decide (3 < n)) w col) (n % 4) (y * rtW w h (n % 4) + x) = rtC w h (afC (decide (3 < n)) w col) j9 (y9 * rtW w h j9 + x9) ∧ va_S (ftA (fun _ => False) H0.size) H0 H0 locs ∧ lv_has ls 9 [(0, .ref pa), (1, .int (nI n)), (4, .int (nI x9)), (5, .int (nI y9)), (6, .int (nI j9))]) (fun xx9 => match xx9 with | (j9, x9, y9) => j9) ?_ (n % 4, x, y) ⟨(by omega), (hxw), (hyh), (rfl), hS, lv_sub hl [3, 4, 2, 1, 0] rfl⟩
  rintro ⟨j9, x9, y9⟩ locs ls ⟨hj9, hx9, hy9, hk9, hS, hl⟩ ih
  have ih11 := ih
  refine lv_iload hx hb dX4_changedColourAt_11 (lv_at hl 4 rfl) ?_
  refine mn_if_le (tgt := 59) hB dX4_changedColourAt_13 (by decide) (by omega) (fun h_13 => ?_) (fun h_13 => ?_)
  · skip
    have hj0 : j9 = 0 := by omega
    subst hj0
    have hx7 : x9 < w := hx9
    have hy7 : y9 < h := hy9
    refine lv_aload_n hx hb dX4_changedColourAt_59 rfl (lv_at hl 0 rfl) ?_
    refine lv_iload_n hx hb dX4_changedColourAt_60 rfl (lv_at hl 1 rfl) ?_
    refine lv_iconst (v := nI 4) hx hb dX4_changedColourAt_61 (by decide) ?_
    refine mn_icmp_lt (tgt := 77) hB dX4_changedColourAt_62 (by decide) (by omega) (by omega) (fun h_62 => ?_) (fun h_62 => ?_)
    · skip
      refine lv_iload hx hb dX4_changedColourAt_77 (lv_at hl 2 rfl) ?_
      refine lv_iload hx hb dX4_changedColourAt_79 (lv_at hl 3 rfl) ?_
      refine cl_X4_38 (As := [.int (nI x9), .int (nI y9)]) (rest := []) hB (c_X4_colourAt l g H0 pa pb w h col x9 y9 hpb (by omega) (by omega)) hpb.1 rfl hl.1 (Nat.le_of_ble_eq_true rfl) dX4_changedColourAt_81 ⟨Nat.le_of_ble_eq_true rfl, Nat.le_of_ble_eq_true rfl⟩ ⟨Nat.le_of_ble_eq_true rfl, Nat.le_of_ble_eq_true rfl⟩ hS (by have hz9 := hS.1; rintro q (h | h) <;> first | exact Or.inr (by omega) | exact h.elim | exact Or.inl h | (simp only [ftA] at h ⊢; omega)) (fun v H1 locs hpo hfr hS => ?_)
      obtain ⟨rfl, rfl⟩ := hpo
      refine W.widen (k := 0) (n := 0) (Nat.le_of_ble_eq_true rfl) (Nat.le_of_ble_eq_true rfl) ?_
      refine mh_top (y := .int (nI (rtC w h (afC (decide (3 < n)) w col) (n % 4) (y * rtW w h (n % 4) + x)))) (by rw [caO_in (by omega) (by omega), hk9]; show _ = Value.int (nI (afC _ w col (y9 * w + x9))); rw [afC_at (by omega)]; first | rw [if_pos (decide_eq_true (by omega))] | rw [if_neg (by rw [decide_eq_false (by omega)]; decide)]) ?_
      refine mh_iret hB ⟨Nat.le_of_ble_eq_true rfl, Nat.le_of_ble_eq_true rfl⟩ hS dX4_changedColourAt_84 ⟨?_, rfl⟩
      · rfl
    · skip
      refine lv_aload_n hx hb dX4_changedColourAt_65 rfl (lv_at hl 0 rfl) ?_
      refine gf_X4_9 hB hpb.1 rfl dX4_changedColourAt_66 ?_
      refine lv_iconst (v := nI 1) hx hb dX4_changedColourAt_69 (by decide) ?_
      refine mn_isub hB dX4_changedColourAt_70 (by omega) ?_
      refine lv_iload hx hb dX4_changedColourAt_71 (lv_at hl 2 rfl) ?_
      refine mn_isub hB dX4_changedColourAt_73 (by omega) ?_
      refine lv_goto (tgt := 79) hx hb dX4_changedColourAt_74 (by decide) ?_
      refine lv_iload hx hb dX4_changedColourAt_79 (lv_at hl 3 rfl) ?_
      refine cl_X4_38 (As := [.int (nI ((w - 1) - x9)), .int (nI y9)]) (rest := []) hB (c_X4_colourAt l g H0 pa pb w h col ((w - 1) - x9) y9 hpb (by omega) (by omega)) hpb.1 rfl hl.1 (Nat.le_of_ble_eq_true rfl) dX4_changedColourAt_81 ⟨Nat.le_of_ble_eq_true rfl, Nat.le_of_ble_eq_true rfl⟩ ⟨Nat.le_of_ble_eq_true rfl, Nat.le_of_ble_eq_true rfl⟩ hS (by have hz9 := hS.1; rintro q (h | h) <;> first | exact Or.inr (by omega) | exact h.elim | exact Or.inl h | (simp only [ftA] at h ⊢; omega)) (fun v H1 locs hpo hfr hS => ?_)
      obtain ⟨rfl, rfl⟩ := hpo
      refine W.widen (k := 0) (n := 0) (Nat.le_of_ble_eq_true rfl) (Nat.le_of_ble_eq_true rfl) ?_
      refine mh_top (y := .int (nI (rtC w h (afC (decide (3 < n)) w col) (n % 4) (y * rtW w h (n % 4) + x)))) (by rw [caO_in (by omega) (by omega), hk9]; show _ = Value.int (nI (afC _ w col (y9 * w + x9))); rw [afC_at (by omega)]; first | rw [if_pos (decide_eq_true (by omega))] | rw [if_neg (by rw [decide_eq_false (by omega)]; decide)]) ?_
      refine mh_iret hB ⟨Nat.le_of_ble_eq_true rfl, Nat.le_of_ble_eq_true rfl⟩ hS dX4_changedColourAt_84 ⟨?_, rfl⟩
      · rfl
  · skip
    obtain ⟨t9, rfl⟩ : ∃ t9, j9 = t9 + 1 := ⟨j9 - 1, by omega⟩
    have hq5 := hrt t9
    have hq6 := hrt2 t9
    have hq4 := hrt (t9 + 1)
    have hq3 := hrt2 (t9 + 1)
    have hs9 := rtW_s w h t9
    refine lv_iload hx hb dX4_changedColourAt_16 (lv_at hl 4 rfl) ?_
    refine lv_iconst (v := nI 2) hx hb dX4_changedColourAt_18 (by decide) ?_
    refine mn_irem hB dX4_changedColourAt_19 (by omega) (by omega) (by omega) ?_
    refine mn_if_eq (tgt := 30) hB dX4_changedColourAt_20 (by decide) (by omega) (fun h_20 => ?_) (fun h_20 => ?_)
    · skip
      refine lv_aload_n hx hb dX4_changedColourAt_30 rfl (lv_at hl 0 rfl) ?_
      refine gf_X4_9 hB hpb.1 rfl dX4_changedColourAt_31 ?_
      have hv9 := rtW_h w h t9
      first | rw [if_pos (by omega)] at hv9 | rw [if_neg (by omega)] at hv9
      refine lv_istore (lv' := [(7, .int (nI w)), (0, .ref pa), (1, .int (nI n)), (4, .int (nI x9)), (5, .int (nI y9)), (6, .int (nI (t9 + 1)))]) hx hb dX4_changedColourAt_34 hl (by decide) rfl (fun ls hl => ?_)
      refine lv_iload hx hb dX4_changedColourAt_36 (lv_at hl 3 rfl) ?_
      refine lv_istore (lv' := [(8, .int (nI x9)), (7, .int (nI w)), (0, .ref pa), (1, .int (nI n)), (4, .int (nI x9)), (5, .int (nI y9)), (6, .int (nI (t9 + 1)))]) hx hb dX4_changedColourAt_38 hl (by decide) rfl (fun ls hl => ?_)
      refine lv_iload hx hb dX4_changedColourAt_40 (lv_at hl 5 rfl) ?_
      refine lv_istore (lv' := [(4, .int (nI y9)), (8, .int (nI x9)), (7, .int (nI w)), (0, .ref pa), (1, .int (nI n)), (5, .int (nI y9)), (6, .int (nI (t9 + 1)))]) hx hb dX4_changedColourAt_42 hl (by decide) rfl (fun ls hl => ?_)
      refine lv_iload hx hb dX4_changedColourAt_44 (lv_at hl 2 rfl) ?_
      refine mh_top (y := .int (nI (rtW h w t9))) (by rw [hv9]) ?_
      refine lv_iconst (v := nI 1) hx hb dX4_changedColourAt_46 (by decide) ?_
      refine mn_isub hB dX4_changedColourAt_47 (by omega) ?_
      refine lv_iload hx hb dX4_changedColourAt_48 (lv_at hl 1 rfl) ?_
      refine mn_isub hB dX4_changedColourAt_50 (by omega) ?_
      refine lv_istore (lv' := [(5, .int (nI (((rtW h w t9) - 1) - x9))), (4, .int (nI y9)), (8, .int (nI x9)), (7, .int (nI w)), (0, .ref pa), (1, .int (nI n)), (6, .int (nI (t9 + 1)))]) hx hb dX4_changedColourAt_51 hl (by decide) rfl (fun ls hl => ?_)
      refine lv_iinc (v := nI t9) (lv' := [(6, .int (nI t9)), (5, .int (nI (((rtW h w t9) - 1) - x9))), (4, .int (nI y9)), (8, .int (nI x9)), (7, .int (nI w)), (0, .ref pa), (1, .int (nI n))]) hx hb dX4_changedColourAt_53 hl (k := 6) rfl (nI_dec) (by decide) rfl (fun ls hl => ?_)
      refine lv_goto (tgt := 11) hx hb dX4_changedColourAt_56 (by decide) ?_
      refine ih11 (t9, y9, rtW h w t9 - 1 - x9) _ _ ⟨(by omega), (by rw [rtW_s] at hy9; exact hy9), (by omega), (hk9.trans (rt_back hx9 hy9)), hS, lv_sub hl [5, 6, 2, 1, 0] rfl⟩ (by dsimp only; omega)
    · skip
      refine lv_aload_n hx hb dX4_changedColourAt_23 rfl (lv_at hl 0 rfl) ?_
      refine gf_X4_15 hB hpb.1 rfl dX4_changedColourAt_24 ?_
      refine lv_goto (tgt := 34) hx hb dX4_changedColourAt_27 (by decide) ?_
      have hv9 := rtW_h w h t9
      first | rw [if_pos (by omega)] at hv9 | rw [if_neg (by omega)] at hv9
      refine lv_istore (lv' := [(7, .int (nI h)), (0, .ref pa), (1, .int (nI n)), (4, .int (nI x9)), (5, .int (nI y9)), (6, .int (nI (t9 + 1)))]) hx hb dX4_changedColourAt_34 hl (by decide) rfl (fun ls hl => ?_)
      refine lv_iload hx hb dX4_changedColourAt_36 (lv_at hl 3 rfl) ?_
      refine lv_istore (lv' := [(8, .int (nI x9)), (7, .int (nI h)), (0, .ref pa), (1, .int (nI n)), (4, .int (nI x9)), (5, .int (nI y9)), (6, .int (nI (t9 + 1)))]) hx hb dX4_changedColourAt_38 hl (by decide) rfl (fun ls hl => ?_)
      refine lv_iload hx hb dX4_changedColourAt_40 (lv_at hl 5 rfl) ?_
      refine lv_istore (lv' := [(4, .int (nI y9)), (8, .int (nI x9)), (7, .int (nI h)), (0, .ref pa), (1, .int (nI n)), (5, .int (nI y9)), (6, .int (nI (t9 + 1)))]) hx hb dX4_changedColourAt_42 hl (by decide) rfl (fun ls hl => ?_)
      refine lv_iload hx hb dX4_changedColourAt_44 (lv_at hl 2 rfl) ?_
      refine mh_top (y := .int (nI (rtW h w t9))) (by rw [hv9]) ?_
      refine lv_iconst (v := nI 1) hx hb dX4_changedColourAt_46 (by decide) ?_
      refine mn_isub hB dX4_changedColourAt_47 (by omega) ?_
      refine lv_iload hx hb dX4_changedColourAt_48 (lv_at hl 1 rfl) ?_
      refine mn_isub hB dX4_changedColourAt_50 (by omega) ?_
      refine lv_istore (lv' := [(5, .int (nI (((rtW h w t9) - 1) - x9))), (4, .int (nI y9)), (8, .int (nI x9)), (7, .int (nI h)), (0, .ref pa), (1, .int (nI n)), (6, .int (nI (t9 + 1)))]) hx hb dX4_changedColourAt_51 hl (by decide) rfl (fun ls hl => ?_)
      refine lv_iinc (v := nI t9) (lv' := [(6, .int (nI t9)), (5, .int (nI (((rtW h w t9) - 1) - x9))), (4, .int (nI y9)), (8, .int (nI x9)), (7, .int (nI h)), (0, .ref pa), (1, .int (nI n))]) hx hb dX4_changedColourAt_53 hl (k := 6) rfl (nI_dec) (by decide) rfl (fun ls hl => ?_)
      refine lv_goto (tgt := 11) hx hb dX4_changedColourAt_56 (by decide) ?_
      refine ih11 (t9, y9, rtW h w t9 - 1 - x9) _ _ ⟨(by omega), (by rw [rtW_s] at hy9; exact hy9), (by omega), (hk9.trans (rt_back hx9 hy9)), hS, lv_sub hl [5, 6, 2, 1, 0] rfl⟩ (by dsimp only; omega)

def rm_c_X4_becomesBy : Room := { frames := 3, cells := 0, slots := 0, locals := 71 }
set_option maxRecDepth 100000 in
set_option maxHeartbeats 400000 in
theorem c_X4_becomesBy (l : Launch) (g : GG) (H0 : Heap) (pa : Nat) (pb : Nat) (w : Nat) (h : Nat) (col : Nat → Nat) (n : Nat) (p2 : Nat) (b2 : Nat) (w2 : Nat) (h2 : Nat) (col2 : Nat → Nat) (hpb : PatB g pa pb w h col H0) (hpo : PatB g p2 b2 w2 h2 col2 H0) (hn8 : n < 8) : Ct l yX4_becomesBy cX4_becomesBy 6 (some .boolean) rm_c_X4_becomesBy g [.ref pa, .int (nI n), .ref p2] H0 (ftA (fun _ => False) H0.size) (fun v H1 => v = some (.int (bI (aftG w h col w2 h2 col2 n))) ∧ H0 = H1) := by
  refine Ct.of (by decide) (fun _ h => Or.inr h) (Nat.le_of_ble_eq_true rfl) ?_
  intro p e s m below meth c ls hB hin hS hH hl
  have hx := hB.x
  have hb := hB.b
  have hl : lv_has ls 6 [(0, .ref pa), (1, .int (nI n)), (2, .ref p2)] := hl
  have hw0 := hpb.2.2.1
  have hw16 := hpb.2.2.2.1
  have hh0 := hpb.2.2.2.2.1
  have hh16 := hpb.2.2.2.2.2.1
  have hwh := hpb.2.2.2.2.2.2.1
  have hcol := hpb.2.2.2.2.2.2.2
  have how0 := hpo.2.2.1
  have how16 := hpo.2.2.2.1
  have hoh0 := hpo.2.2.2.2.1
  have hoh16 := hpo.2.2.2.2.2.1
  have howh := hpo.2.2.2.2.2.2.1
  have hocol := hpo.2.2.2.2.2.2.2
  have hrc := fun k hk => rtC_lt (cb := (afC (decide (3 < n)) w col)) (n := n % 4) (w := w) (h := h) (afC_lt hcol) (k := k) hk
  refine lv_iload_n hx hb dX4_becomesBy_0 rfl (lv_at hl 1 rfl) ?_
  refine lv_iconst (v := nI 2) hx hb dX4_becomesBy_1 (by decide) ?_
  refine mn_irem hB dX4_becomesBy_2 (by omega) (by omega) (by omega) ?_
  refine mn_if_eq (tgt := 10) hB dX4_becomesBy_3 (by decide) (by omega) (fun h_3 => ?_) (fun h_3 => ?_)
  · skip
    have hrw : rtW w h (n % 4) = w := if_pos (by omega)
    have hrh : rtW h w (n % 4) = h := if_pos (by omega)
    refine lv_iconst (v := nI 0) hx hb dX4_becomesBy_10 (by decide) ?_
    refine lv_istore_n (lv' := [(3, .int (nI 0)), (0, .ref pa), (1, .int (nI n)), (2, .ref p2)]) hx hb dX4_becomesBy_11 rfl hl (by decide) rfl (fun ls hl => ?_)
    refine lv_aload_n hx hb dX4_becomesBy_12 rfl (lv_at hl 3 rfl) ?_
    refine gf_X4_9 hB hpo.1 rfl dX4_becomesBy_13 ?_
    refine lv_iload_n hx hb dX4_becomesBy_16 rfl (lv_at hl 0 rfl) ?_
    refine mn_if_eq (tgt := 27) hB dX4_becomesBy_17 (by decide) (by omega) (fun h_17 => ?_) (fun h => by exfalso; omega)
    refine lv_aload_n hx hb dX4_becomesBy_27 rfl (lv_at hl 1 rfl) ?_
    refine gf_X4_9 hB hpb.1 rfl dX4_becomesBy_28 ?_
    refine mn_icmp_ne (tgt := 56) hB dX4_becomesBy_31 (by decide) (by omega) (by omega) (fun h_31 => ?_) (fun h_31 => ?_)
    · skip
      refine lv_iconst (v := nI 0) hx hb dX4_becomesBy_56 (by decide) ?_
      refine mh_zret hB ⟨Nat.le_of_ble_eq_true rfl, Nat.le_of_ble_eq_true rfl⟩ hS dX4_becomesBy_57 (by first | rfl | decide | (split <;> rfl)) ⟨?_, rfl⟩
      · rw [show aftG w h col w2 h2 col2 n = false from by unfold aftG; rw [decide_eq_false (by omega)]; rfl]; rfl
    · skip
      refine lv_aload_n hx hb dX4_becomesBy_34 rfl (lv_at hl 3 rfl) ?_
      refine gf_X4_15 hB hpo.1 rfl dX4_becomesBy_35 ?_
      refine lv_iload_n hx hb dX4_becomesBy_38 rfl (lv_at hl 0 rfl) ?_
      refine mn_if_eq (tgt := 49) hB dX4_becomesBy_39 (by decide) (by omega) (fun h_39 => ?_) (fun h => by exfalso; omega)
      refine lv_aload_n hx hb dX4_becomesBy_49 rfl (lv_at hl 1 rfl) ?_
      refine gf_X4_15 hB hpb.1 rfl dX4_becomesBy_50 ?_
      refine mn_icmp_eq (tgt := 58) hB dX4_becomesBy_53 (by decide) (by omega) (by omega) (fun h_53 => ?_) (fun h_53 => ?_)
      · skip
        have hw7 : rtW w h (n % 4) = w2 := by omega
        have hh7 : rtW h w (n % 4) = h2 := by omega
        rw [hw7, hh7] at hrc
        refine lv_iconst (v := nI 0) hx hb dX4_becomesBy_58 (by decide) ?_
        refine lv_istore (lv' := [(4, .int (nI 0)), (3, .int (nI 0)), (0, .ref pa), (1, .int (nI n)), (2, .ref p2)]) hx hb dX4_becomesBy_59 hl (by decide) rfl (fun ls hl => ?_)
        refine mh_loopR (σ := Nat) (fun xx9 locs ls => match xx9 with | y9 => y9 ≤ h2 ∧ (∀ k, k < w2 * y9 → rtC w h (afC (decide (3 < n)) w col) (n % 4) k = col2 k) ∧ va_S (ftA (fun _ => False) H0.size) H0 H0 locs ∧ lv_has ls 6 [(0, .ref pa), (1, .int (nI n)), (2, .ref p2), (4, .int (nI y9))]) (fun xx9 => match xx9 with | y9 => h2 - y9) ?_ 0 ⟨(by omega), (fun k hk => absurd hk (Nat.not_lt_zero _)), hS, lv_sub hl [2, 3, 4, 0] rfl⟩
        rintro y9 locs ls ⟨hy9, ha9, hS, hl⟩ ih
        have ih61 := ih
        refine lv_iload hx hb dX4_becomesBy_61 (lv_at hl 3 rfl) ?_
        refine lv_aload_n hx hb dX4_becomesBy_63 rfl (lv_at hl 2 rfl) ?_
        refine gf_X4_15 hB hpo.1 rfl dX4_becomesBy_64 ?_
        refine mn_icmp_ge (tgt := 116) hB dX4_becomesBy_67 (by decide) (by omega) (by omega) (fun h_67 => ?_) (fun h_67 => ?_)
        · skip
          have hin9 : h2 = y9 := by omega
          subst hin9
          refine lv_iconst (v := nI 1) hx hb dX4_becomesBy_116 (by decide) ?_
          refine mh_zret hB ⟨Nat.le_of_ble_eq_true rfl, Nat.le_of_ble_eq_true rfl⟩ hS dX4_becomesBy_117 (by first | rfl | decide | (split <;> rfl)) ⟨?_, rfl⟩
          · rw [show aftG w h col w2 h2 col2 n = true from by unfold aftG; rw [hw7, hh7, decide_eq_true ⟨rfl, rfl⟩, Bool.true_and]; exact eqB_iff.mpr ha9]; rfl
        · skip
          refine lv_iconst (v := nI 0) hx hb dX4_becomesBy_70 (by decide) ?_
          refine lv_istore (lv' := [(5, .int (nI 0)), (0, .ref pa), (1, .int (nI n)), (2, .ref p2), (4, .int (nI y9))]) hx hb dX4_becomesBy_71 hl (by decide) rfl (fun ls hl => ?_)
          refine mh_loopR (σ := Nat) (fun xx9 locs ls => match xx9 with | x9 => x9 ≤ w2 ∧ (∀ k, k < y9 * w2 + x9 → rtC w h (afC (decide (3 < n)) w col) (n % 4) k = col2 k) ∧ va_S (ftA (fun _ => False) H0.size) H0 H0 locs ∧ lv_has ls 6 [(0, .ref pa), (1, .int (nI n)), (2, .ref p2), (4, .int (nI y9)), (5, .int (nI x9))]) (fun xx9 => match xx9 with | x9 => w2 - x9) ?_ 0 ⟨(by omega), (fun k hk => ha9 k (by rw [Nat.mul_comm]; omega)), hS, lv_sub hl [1, 2, 3, 4, 0] rfl⟩
          rintro x9 locs ls ⟨hx9, hb9, hS, hl⟩ ih
          have ih73 := ih
          refine lv_iload hx hb dX4_becomesBy_73 (lv_at hl 4 rfl) ?_
          refine lv_aload_n hx hb dX4_becomesBy_75 rfl (lv_at hl 2 rfl) ?_
          refine gf_X4_9 hB hpo.1 rfl dX4_becomesBy_76 ?_
          refine mn_icmp_ge (tgt := 110) hB dX4_becomesBy_79 (by decide) (by omega) (by omega) (fun h_79 => ?_) (fun h_79 => ?_)
          · skip
            have hin9 : w2 = x9 := by omega
            subst hin9
            refine lv_iinc (v := nI (y9 + 1)) (lv' := [(4, .int (nI (y9 + 1))), (0, .ref pa), (1, .int (nI n)), (2, .ref p2), (5, .int (nI w2))]) hx hb dX4_becomesBy_110 hl (k := 3) rfl (nI_1 _) (by decide) rfl (fun ls hl => ?_)
            refine lv_goto (tgt := 61) hx hb dX4_becomesBy_113 (by decide) ?_
            refine ih61 (y9 + 1) _ _ ⟨(by omega), (fun k hk => hb9 k (by rw [Nat.mul_add, Nat.mul_one, Nat.mul_comm] at hk; omega)), hS, lv_sub hl [1, 2, 3, 0] rfl⟩ (by dsimp only; omega)
          · skip
            refine lv_aload_n hx hb dX4_becomesBy_82 rfl (lv_at hl 2 rfl) ?_
            refine lv_iload hx hb dX4_becomesBy_83 (lv_at hl 4 rfl) ?_
            refine lv_iload hx hb dX4_becomesBy_85 (lv_at hl 3 rfl) ?_
            have hi9 := idx_lt (a := x9) (b := y9) (w := w2) (h := h2) (by omega) (by omega)
            have hc9 := hocol _ hi9
            have hc8 := hrc _ hi9
            refine cl_X4_38 (As := [.int (nI x9), .int (nI y9)]) (rest := []) hB (c_X4_colourAt l g H0 p2 b2 w2 h2 col2 x9 y9 hpo (by omega) (by omega)) hpo.1 rfl hl.1 (Nat.le_of_ble_eq_true rfl) dX4_becomesBy_87 ⟨Nat.le_of_ble_eq_true rfl, Nat.le_of_ble_eq_true rfl⟩ ⟨Nat.le_of_ble_eq_true rfl, Nat.le_of_ble_eq_true rfl⟩ hS (by have hz9 := hS.1; rintro q (h | h) <;> first | exact Or.inr (by omega) | exact h.elim | exact Or.inl h | (simp only [ftA] at h ⊢; omega)) (fun v H1 locs hpo hfr hS => ?_)
            obtain ⟨rfl, rfl⟩ := hpo
            refine W.widen (k := 0) (n := 0) (Nat.le_of_ble_eq_true rfl) (Nat.le_of_ble_eq_true rfl) ?_
            refine mh_top (y := .int (nI (col2 (y9 * w2 + x9)))) (by rw [caO_in (by omega) (by omega)]) ?_
            refine lv_aload_n hx hb dX4_becomesBy_90 rfl (lv_at hl 0 rfl) ?_
            refine lv_iload_n hx hb dX4_becomesBy_91 rfl (lv_at hl 1 rfl) ?_
            refine lv_iload hx hb dX4_becomesBy_92 (lv_at hl 4 rfl) ?_
            refine lv_iload hx hb dX4_becomesBy_94 (lv_at hl 3 rfl) ?_
            refine cl_X4_42 (As := [.int (nI n), .int (nI x9), .int (nI y9)]) (rest := [.int (nI (col2 (y9 * w2 + x9)))]) hB (c_X4_changedColourAt l g H0 pa pb w h col n x9 y9 hpb (by first | assumption | omega) (by omega) (by omega)) hpb.1 rfl hl.1 (Nat.le_of_ble_eq_true rfl) dX4_becomesBy_96 ⟨Nat.le_of_ble_eq_true rfl, Nat.le_of_ble_eq_true rfl⟩ ⟨Nat.le_of_ble_eq_true rfl, Nat.le_of_ble_eq_true rfl⟩ hS (by have hz9 := hS.1; rintro q (h | h) <;> first | exact Or.inr (by omega) | exact h.elim | exact Or.inl h | (simp only [ftA] at h ⊢; omega)) (fun v H1 locs hpo hfr hS => ?_)
            obtain ⟨rfl, rfl⟩ := hpo
            refine W.widen (k := 0) (n := 0) (Nat.le_of_ble_eq_true rfl) (Nat.le_of_ble_eq_true rfl) ?_
            refine mh_top (y := .int (nI (rtC w h (afC (decide (3 < n)) w col) (n % 4) (y9 * w2 + x9)))) (by rw [hw7]) ?_
            refine mn_icmp_eq (tgt := 104) hB dX4_becomesBy_99 (by decide) (by omega) (by omega) (fun h_99 => ?_) (fun h_99 => ?_)
            · skip
              refine lv_iinc (v := nI (x9 + 1)) (lv' := [(5, .int (nI (x9 + 1))), (0, .ref pa), (1, .int (nI n)), (2, .ref p2), (4, .int (nI y9))]) hx hb dX4_becomesBy_104 hl (k := 4) rfl (nI_1 _) (by decide) rfl (fun ls hl => ?_)
              refine lv_goto (tgt := 73) hx hb dX4_becomesBy_107 (by decide) ?_
              refine ih73 (x9 + 1) _ _ ⟨(by omega), (fun k hk => by rcases Nat.lt_or_ge k (y9 * w2 + x9) with z | z; exact hb9 k z; rw [show k = y9 * w2 + x9 by omega]; exact h_99.symm), hS, lv_sub hl [1, 2, 3, 4, 0] rfl⟩ (by dsimp only; omega)
            · skip
              refine lv_iconst (v := nI 0) hx hb dX4_becomesBy_102 (by decide) ?_
              refine mh_zret hB ⟨Nat.le_of_ble_eq_true rfl, Nat.le_of_ble_eq_true rfl⟩ hS dX4_becomesBy_103 (by first | rfl | decide | (split <;> rfl)) ⟨?_, rfl⟩
              · rw [show aftG w h col w2 h2 col2 n = false from by unfold aftG; rw [hw7, hh7]; refine (Bool.and_eq_false_iff.mpr (Or.inr ?_)); cases hz9 : eqB (rtC w h (afC (decide (3 < n)) w col) (n % 4)) col2 (w2 * h2) with | false => rfl | true => exact absurd (eqB_iff.mp hz9 _ hi9).symm h_99]; rfl
      · skip
        refine lv_iconst (v := nI 0) hx hb dX4_becomesBy_56 (by decide) ?_
        refine mh_zret hB ⟨Nat.le_of_ble_eq_true rfl, Nat.le_of_ble_eq_true rfl⟩ hS dX4_becomesBy_57 (by first | rfl | decide | (split <;> rfl)) ⟨?_, rfl⟩
        · rw [show aftG w h col w2 h2 col2 n = false from by unfold aftG; rw [decide_eq_false (by omega)]; rfl]; rfl
  · skip
    have hrw : rtW w h (n % 4) = h := if_neg (by omega)
    have hrh : rtW h w (n % 4) = w := if_neg (by omega)
    refine lv_iconst (v := nI 1) hx hb dX4_becomesBy_6 (by decide) ?_
    refine lv_goto (tgt := 11) hx hb dX4_becomesBy_7 (by decide) ?_
    refine lv_istore_n (lv' := [(3, .int (nI 1)), (0, .ref pa), (1, .int (nI n)), (2, .ref p2)]) hx hb dX4_becomesBy_11 rfl hl (by decide) rfl (fun ls hl => ?_)
    refine lv_aload_n hx hb dX4_becomesBy_12 rfl (lv_at hl 3 rfl) ?_
    refine gf_X4_9 hB hpo.1 rfl dX4_becomesBy_13 ?_
    refine lv_iload_n hx hb dX4_becomesBy_16 rfl (lv_at hl 0 rfl) ?_
    refine mn_if_eq (tgt := 27) hB dX4_becomesBy_17 (by decide) (by omega) (fun h => by exfalso; omega) (fun h_17 => ?_)
    refine lv_aload_n hx hb dX4_becomesBy_20 rfl (lv_at hl 1 rfl) ?_
    refine gf_X4_15 hB hpb.1 rfl dX4_becomesBy_21 ?_
    refine lv_goto (tgt := 31) hx hb dX4_becomesBy_24 (by decide) ?_
    refine mn_icmp_ne (tgt := 56) hB dX4_becomesBy_31 (by decide) (by omega) (by omega) (fun h_31 => ?_) (fun h_31 => ?_)
    · skip
      refine lv_iconst (v := nI 0) hx hb dX4_becomesBy_56 (by decide) ?_
      refine mh_zret hB ⟨Nat.le_of_ble_eq_true rfl, Nat.le_of_ble_eq_true rfl⟩ hS dX4_becomesBy_57 (by first | rfl | decide | (split <;> rfl)) ⟨?_, rfl⟩
      · rw [show aftG w h col w2 h2 col2 n = false from by unfold aftG; rw [decide_eq_false (by omega)]; rfl]; rfl
    · skip
      refine lv_aload_n hx hb dX4_becomesBy_34 rfl (lv_at hl 3 rfl) ?_
      refine gf_X4_15 hB hpo.1 rfl dX4_becomesBy_35 ?_
      refine lv_iload_n hx hb dX4_becomesBy_38 rfl (lv_at hl 0 rfl) ?_
      refine mn_if_eq (tgt := 49) hB dX4_becomesBy_39 (by decide) (by omega) (fun h => by exfalso; omega) (fun h_39 => ?_)
      refine lv_aload_n hx hb dX4_becomesBy_42 rfl (lv_at hl 1 rfl) ?_
      refine gf_X4_9 hB hpb.1 rfl dX4_becomesBy_43 ?_
      refine lv_goto (tgt := 53) hx hb dX4_becomesBy_46 (by decide) ?_
      refine mn_icmp_eq (tgt := 58) hB dX4_becomesBy_53 (by decide) (by omega) (by omega) (fun h_53 => ?_) (fun h_53 => ?_)
      · skip
        have hw7 : rtW w h (n % 4) = w2 := by omega
        have hh7 : rtW h w (n % 4) = h2 := by omega
        rw [hw7, hh7] at hrc
        refine lv_iconst (v := nI 0) hx hb dX4_becomesBy_58 (by decide) ?_
        refine lv_istore (lv' := [(4, .int (nI 0)), (3, .int (nI 1)), (0, .ref pa), (1, .int (nI n)), (2, .ref p2)]) hx hb dX4_becomesBy_59 hl (by decide) rfl (fun ls hl => ?_)
        refine mh_loopR (σ := Nat) (fun xx9 locs ls => match xx9 with | y9 => y9 ≤ h2 ∧ (∀ k, k < w2 * y9 → rtC w h (afC (decide (3 < n)) w col) (n % 4) k = col2 k) ∧ va_S (ftA (fun _ => False) H0.size) H0 H0 locs ∧ lv_has ls 6 [(0, .ref pa), (1, .int (nI n)), (2, .ref p2), (4, .int (nI y9))]) (fun xx9 => match xx9 with | y9 => h2 - y9) ?_ 0 ⟨(by omega), (fun k hk => absurd hk (Nat.not_lt_zero _)), hS, lv_sub hl [2, 3, 4, 0] rfl⟩
        rintro y9 locs ls ⟨hy9, ha9, hS, hl⟩ ih
        have ih61 := ih
        refine lv_iload hx hb dX4_becomesBy_61 (lv_at hl 3 rfl) ?_
        refine lv_aload_n hx hb dX4_becomesBy_63 rfl (lv_at hl 2 rfl) ?_
        refine gf_X4_15 hB hpo.1 rfl dX4_becomesBy_64 ?_
        refine mn_icmp_ge (tgt := 116) hB dX4_becomesBy_67 (by decide) (by omega) (by omega) (fun h_67 => ?_) (fun h_67 => ?_)
        · skip
          have hin9 : h2 = y9 := by omega
          subst hin9
          refine lv_iconst (v := nI 1) hx hb dX4_becomesBy_116 (by decide) ?_
          refine mh_zret hB ⟨Nat.le_of_ble_eq_true rfl, Nat.le_of_ble_eq_true rfl⟩ hS dX4_becomesBy_117 (by first | rfl | decide | (split <;> rfl)) ⟨?_, rfl⟩
          · rw [show aftG w h col w2 h2 col2 n = true from by unfold aftG; rw [hw7, hh7, decide_eq_true ⟨rfl, rfl⟩, Bool.true_and]; exact eqB_iff.mpr ha9]; rfl
        · skip
          refine lv_iconst (v := nI 0) hx hb dX4_becomesBy_70 (by decide) ?_
          refine lv_istore (lv' := [(5, .int (nI 0)), (0, .ref pa), (1, .int (nI n)), (2, .ref p2), (4, .int (nI y9))]) hx hb dX4_becomesBy_71 hl (by decide) rfl (fun ls hl => ?_)
          refine mh_loopR (σ := Nat) (fun xx9 locs ls => match xx9 with | x9 => x9 ≤ w2 ∧ (∀ k, k < y9 * w2 + x9 → rtC w h (afC (decide (3 < n)) w col) (n % 4) k = col2 k) ∧ va_S (ftA (fun _ => False) H0.size) H0 H0 locs ∧ lv_has ls 6 [(0, .ref pa), (1, .int (nI n)), (2, .ref p2), (4, .int (nI y9)), (5, .int (nI x9))]) (fun xx9 => match xx9 with | x9 => w2 - x9) ?_ 0 ⟨(by omega), (fun k hk => ha9 k (by rw [Nat.mul_comm]; omega)), hS, lv_sub hl [1, 2, 3, 4, 0] rfl⟩
          rintro x9 locs ls ⟨hx9, hb9, hS, hl⟩ ih
          have ih73 := ih
          refine lv_iload hx hb dX4_becomesBy_73 (lv_at hl 4 rfl) ?_
          refine lv_aload_n hx hb dX4_becomesBy_75 rfl (lv_at hl 2 rfl) ?_
          refine gf_X4_9 hB hpo.1 rfl dX4_becomesBy_76 ?_
          refine mn_icmp_ge (tgt := 110) hB dX4_becomesBy_79 (by decide) (by omega) (by omega) (fun h_79 => ?_) (fun h_79 => ?_)
          · skip
            have hin9 : w2 = x9 := by omega
            subst hin9
            refine lv_iinc (v := nI (y9 + 1)) (lv' := [(4, .int (nI (y9 + 1))), (0, .ref pa), (1, .int (nI n)), (2, .ref p2), (5, .int (nI w2))]) hx hb dX4_becomesBy_110 hl (k := 3) rfl (nI_1 _) (by decide) rfl (fun ls hl => ?_)
            refine lv_goto (tgt := 61) hx hb dX4_becomesBy_113 (by decide) ?_
            refine ih61 (y9 + 1) _ _ ⟨(by omega), (fun k hk => hb9 k (by rw [Nat.mul_add, Nat.mul_one, Nat.mul_comm] at hk; omega)), hS, lv_sub hl [1, 2, 3, 0] rfl⟩ (by dsimp only; omega)
          · skip
            refine lv_aload_n hx hb dX4_becomesBy_82 rfl (lv_at hl 2 rfl) ?_
            refine lv_iload hx hb dX4_becomesBy_83 (lv_at hl 4 rfl) ?_
            refine lv_iload hx hb dX4_becomesBy_85 (lv_at hl 3 rfl) ?_
            have hi9 := idx_lt (a := x9) (b := y9) (w := w2) (h := h2) (by omega) (by omega)
            have hc9 := hocol _ hi9
            have hc8 := hrc _ hi9
            refine cl_X4_38 (As := [.int (nI x9), .int (nI y9)]) (rest := []) hB (c_X4_colourAt l g H0 p2 b2 w2 h2 col2 x9 y9 hpo (by omega) (by omega)) hpo.1 rfl hl.1 (Nat.le_of_ble_eq_true rfl) dX4_becomesBy_87 ⟨Nat.le_of_ble_eq_true rfl, Nat.le_of_ble_eq_true rfl⟩ ⟨Nat.le_of_ble_eq_true rfl, Nat.le_of_ble_eq_true rfl⟩ hS (by have hz9 := hS.1; rintro q (h | h) <;> first | exact Or.inr (by omega) | exact h.elim | exact Or.inl h | (simp only [ftA] at h ⊢; omega)) (fun v H1 locs hpo hfr hS => ?_)
            obtain ⟨rfl, rfl⟩ := hpo
            refine W.widen (k := 0) (n := 0) (Nat.le_of_ble_eq_true rfl) (Nat.le_of_ble_eq_true rfl) ?_
            refine mh_top (y := .int (nI (col2 (y9 * w2 + x9)))) (by rw [caO_in (by omega) (by omega)]) ?_
            refine lv_aload_n hx hb dX4_becomesBy_90 rfl (lv_at hl 0 rfl) ?_
            refine lv_iload_n hx hb dX4_becomesBy_91 rfl (lv_at hl 1 rfl) ?_
            refine lv_iload hx hb dX4_becomesBy_92 (lv_at hl 4 rfl) ?_
            refine lv_iload hx hb dX4_becomesBy_94 (lv_at hl 3 rfl) ?_
            refine cl_X4_42 (As := [.int (nI n), .int (nI x9), .int (nI y9)]) (rest := [.int (nI (col2 (y9 * w2 + x9)))]) hB (c_X4_changedColourAt l g H0 pa pb w h col n x9 y9 hpb (by first | assumption | omega) (by omega) (by omega)) hpb.1 rfl hl.1 (Nat.le_of_ble_eq_true rfl) dX4_becomesBy_96 ⟨Nat.le_of_ble_eq_true rfl, Nat.le_of_ble_eq_true rfl⟩ ⟨Nat.le_of_ble_eq_true rfl, Nat.le_of_ble_eq_true rfl⟩ hS (by have hz9 := hS.1; rintro q (h | h) <;> first | exact Or.inr (by omega) | exact h.elim | exact Or.inl h | (simp only [ftA] at h ⊢; omega)) (fun v H1 locs hpo hfr hS => ?_)
            obtain ⟨rfl, rfl⟩ := hpo
            refine W.widen (k := 0) (n := 0) (Nat.le_of_ble_eq_true rfl) (Nat.le_of_ble_eq_true rfl) ?_
            refine mh_top (y := .int (nI (rtC w h (afC (decide (3 < n)) w col) (n % 4) (y9 * w2 + x9)))) (by rw [hw7]) ?_
            refine mn_icmp_eq (tgt := 104) hB dX4_becomesBy_99 (by decide) (by omega) (by omega) (fun h_99 => ?_) (fun h_99 => ?_)
            · skip
              refine lv_iinc (v := nI (x9 + 1)) (lv' := [(5, .int (nI (x9 + 1))), (0, .ref pa), (1, .int (nI n)), (2, .ref p2), (4, .int (nI y9))]) hx hb dX4_becomesBy_104 hl (k := 4) rfl (nI_1 _) (by decide) rfl (fun ls hl => ?_)
              refine lv_goto (tgt := 73) hx hb dX4_becomesBy_107 (by decide) ?_
              refine ih73 (x9 + 1) _ _ ⟨(by omega), (fun k hk => by rcases Nat.lt_or_ge k (y9 * w2 + x9) with z | z; exact hb9 k z; rw [show k = y9 * w2 + x9 by omega]; exact h_99.symm), hS, lv_sub hl [1, 2, 3, 4, 0] rfl⟩ (by dsimp only; omega)
            · skip
              refine lv_iconst (v := nI 0) hx hb dX4_becomesBy_102 (by decide) ?_
              refine mh_zret hB ⟨Nat.le_of_ble_eq_true rfl, Nat.le_of_ble_eq_true rfl⟩ hS dX4_becomesBy_103 (by first | rfl | decide | (split <;> rfl)) ⟨?_, rfl⟩
              · rw [show aftG w h col w2 h2 col2 n = false from by unfold aftG; rw [hw7, hh7]; refine (Bool.and_eq_false_iff.mpr (Or.inr ?_)); cases hz9 : eqB (rtC w h (afC (decide (3 < n)) w col) (n % 4)) col2 (w2 * h2) with | false => rfl | true => exact absurd (eqB_iff.mp hz9 _ hi9).symm h_99]; rfl
      · skip
        refine lv_iconst (v := nI 0) hx hb dX4_becomesBy_56 (by decide) ?_
        refine mh_zret hB ⟨Nat.le_of_ble_eq_true rfl, Nat.le_of_ble_eq_true rfl⟩ hS dX4_becomesBy_57 (by first | rfl | decide | (split <;> rfl)) ⟨?_, rfl⟩
        · rw [show aftG w h col w2 h2 col2 n = false from by unfold aftG; rw [decide_eq_false (by omega)]; rfl]; rfl

def rm_c_X4_init : Room := { frames := 1, cells := 0, slots := 0, locals := 20 }
set_option maxRecDepth 100000 in
set_option maxHeartbeats 400000 in
theorem c_X4_init (l : Launch) (g : GG) (H0 : Heap) (p0 : Nat) (n0 : Nat) (pb : Nat) (w : Nat) (h : Nat) (hq0 : at_ g H0 p0 (eO 4 [.int (nI 0), .int (nI 0), .null])) (hsz : H0.size = n0) : Ct l yX4_init cX4_init 4 none rm_c_X4_init g [.ref p0, .int (nI w), .int (nI h), .ref pb] H0 (ftA (fun q => q = p0) H0.size) (fun v H1 => v = none ∧ at_ g H1 p0 (eO 4 [.int (nI w), .int (nI h), .ref pb]) ∧ H1.size = n0) := by
  refine Ct.of (by decide) (fun _ h => Or.inr h) (Nat.le_of_ble_eq_true rfl) ?_
  intro p e s m below meth c ls hB hin hS hH hl
  have hx := hB.x
  have hb := hB.b
  have hl : lv_has ls 4 [(0, .ref p0), (1, .int (nI w)), (2, .int (nI h)), (3, .ref pb)] := hl
  refine lv_aload_n hx hb dX4_init_0 rfl (lv_at hl 0 rfl) ?_
  refine ob_X4_3 hB hl.1 dX4_init_1 ⟨Nat.le_of_ble_eq_true rfl, Nat.le_of_ble_eq_true rfl⟩ ?_
  refine lv_aload_n hx hb dX4_init_4 rfl (lv_at hl 0 rfl) ?_
  refine lv_iload_n hx hb dX4_init_5 rfl (lv_at hl 1 rfl) ?_
  refine pf_X4_9 hB hin hq0 (by first | exact Or.inl rfl | (simp only [ftA]; omega) | (simp [ftA]; omega)) hS rfl rfl (Nat.le_of_ble_eq_true rfl) dX4_init_6 (fun H locs hwr => ?_)
  obtain ⟨hq0, ho, hz, hS⟩ := hwr
  have hsz := hz.trans hsz
  refine lv_aload_n hx hb dX4_init_9 rfl (lv_at hl 0 rfl) ?_
  refine lv_iload_n hx hb dX4_init_10 rfl (lv_at hl 2 rfl) ?_
  refine pf_X4_15 hB hin hq0 (by first | exact Or.inl rfl | (simp only [ftA]; omega) | (simp [ftA]; omega)) hS rfl rfl (Nat.le_of_ble_eq_true rfl) dX4_init_11 (fun H locs hwr => ?_)
  obtain ⟨hq0, ho, hz, hS⟩ := hwr
  have hsz := hz.trans hsz
  refine lv_aload_n hx hb dX4_init_14 rfl (lv_at hl 0 rfl) ?_
  refine lv_aload_n hx hb dX4_init_15 rfl (lv_at hl 3 rfl) ?_
  refine pf_X4_18 hB hin hq0 (by first | exact Or.inl rfl | (simp only [ftA]; omega) | (simp [ftA]; omega)) hS rfl rfl (Nat.le_of_ble_eq_true rfl) dX4_init_16 (fun H locs hwr => ?_)
  obtain ⟨hq0, ho, hz, hS⟩ := hwr
  have hsz := hz.trans hsz
  refine mh_vret hB ⟨Nat.le_of_ble_eq_true rfl, Nat.le_of_ble_eq_true rfl⟩ hS dX4_init_19 ⟨?_, ?_, ?_⟩
  · rfl
  · exact hq0
  · exact hsz

def rm_c_X4_withExchanged : Room := { frames := 2, cells := 2, slots := 259, locals := 43 }
set_option maxRecDepth 100000 in
set_option maxHeartbeats 400000 in
theorem c_X4_withExchanged (l : Launch) (g : GG) (H0 : Heap) (pa : Nat) (pb : Nat) (w : Nat) (h : Nat) (col : Nat → Nat) (a0 : Nat) (b0 : Nat) (n0 : Nat) (hpb : PatB g pa pb w h col H0) (ha6 : a0 < 6) (hb6 : b0 < 6) (hsz : H0.size = n0) : Ct l yX4_withExchanged cX4_withExchanged 6 (some (.object "QuiltGuild$Pattern")) rm_c_X4_withExchanged g [.ref pa, .int (nI a0), .int (nI b0)] H0 (ftA (fun _ => False) H0.size) (fun v H1 => v = some (.ref (n0 + 1)) ∧ PatB g (n0 + 1) n0 w h (fun k => swpC a0 b0 (col k)) H1 ∧ H1.size = n0 + 2) := by
  refine Ct.of (by decide) (fun _ h => Or.inr h) (Nat.le_of_ble_eq_true rfl) ?_
  intro p e s m below meth c ls hB hin hS hH hl
  have hx := hB.x
  have hb := hB.b
  have hl : lv_has ls 6 [(0, .ref pa), (1, .int (nI a0)), (2, .int (nI b0))] := hl
  have hw0 := hpb.2.2.1
  have hw16 := hpb.2.2.2.1
  have hh0 := hpb.2.2.2.2.1
  have hh16 := hpb.2.2.2.2.2.1
  have hwh := hpb.2.2.2.2.2.2.1
  have hcol := hpb.2.2.2.2.2.2.2
  have hpl := hpb.1.lt
  have hbl := hpb.2.1.lt
  refine lv_aload_n hx hb dX4_withExchanged_0 rfl (lv_at hl 0 rfl) ?_
  refine gf_X4_18 hB hpb.1 rfl dX4_withExchanged_1 ?_
  refine mh_alen hB 1 rfl hpb.2.1 dX4_withExchanged_4 ?_
  refine mh_newa (atype := .byte) (a0 := (w * h, .inl (fun _ => 0))) (N' := w * h) hB 1 rfl rfl (fun _ h => by cases h) kw_714 (fun _ => rfl) (nI_pos (by omega)) (nI_clamp (by omega)) (by show w * h * 1 ≤ 536870912; omega) hS (Nat.le_of_ble_eq_true rfl) (by show 0 + w * h ≤ 259; omega) dX4_withExchanged_5 (fun H1 hwr => ?_)
  obtain ⟨hq1, ho, hz, hS⟩ := hwr
  have hpb := hpb.kept (ho _ hpb.1.lt) (ho _ hpb.2.1.lt)
  rw [hsz] at hq1 hz
  refine mh_top (congrArg Value.ref hsz) ?_
  have hsz := hz
  generalize H1 = H at hq1 hS hsz hpb ⊢
  refine W.widen (k := 1) (n := 256) (Nat.le_of_ble_eq_true rfl) (by omega) ?_
  refine lv_astore_n (lv' := [(3, .ref n0), (0, .ref pa), (1, .int (nI a0)), (2, .int (nI b0))]) hx hb dX4_withExchanged_7 rfl hl (by decide) rfl (fun ls hl => ?_)
  refine lv_iconst (v := nI 0) hx hb dX4_withExchanged_8 (by decide) ?_
  refine lv_istore (lv' := [(4, .int (nI 0)), (3, .ref n0), (0, .ref pa), (1, .int (nI a0)), (2, .int (nI b0))]) hx hb dX4_withExchanged_9 hl (by decide) rfl (fun ls hl => ?_)
  refine mh_loop (σ := Nat) (fun xx9 H locs ls => match xx9 with | i9 => i9 ≤ w * h ∧ H.size = n0 + 1 ∧ PatB g pa pb w h col H ∧ at_ g H n0 (eB g (w * h) (lowOf (fun k => nI (swpC a0 b0 (col k))) (fun _ => 0) i9)) ∧ va_S (ftA (fun _ => False) H0.size) H0 H locs ∧ lv_has ls 6 [(0, .ref pa), (1, .int (nI a0)), (2, .int (nI b0)), (3, .ref n0), (4, .int (nI i9))]) (fun xx9 => match xx9 with | i9 => w * h - i9) ?_ 0 ⟨(by omega), (hsz), hpb, (by rw [lowOf_0]; exact hq1), hS, lv_sub hl [2, 3, 4, 1, 0] rfl⟩
  rintro i9 H locs ls ⟨hi9, hsz, hpb, hq1, hS, hl⟩ ih
  have ih11 := ih
  refine lv_iload hx hb dX4_withExchanged_11 (lv_at hl 4 rfl) ?_
  refine lv_aload_n hx hb dX4_withExchanged_13 rfl (lv_at hl 0 rfl) ?_
  refine gf_X4_18 hB hpb.1 rfl dX4_withExchanged_14 ?_
  refine mh_alen hB 1 rfl hpb.2.1 dX4_withExchanged_17 ?_
  refine mn_icmp_ge (tgt := 70) hB dX4_withExchanged_18 (by decide) (by omega) (by omega) (fun h_18 => ?_) (fun h_18 => ?_)
  · skip
    have hin9 : i9 = w * h := by omega
    subst hin9
    refine nw_X4_10 hB hS (Nat.le_of_ble_eq_true rfl) (Nat.le_of_ble_eq_true rfl) dX4_withExchanged_70 (fun H1 hwr => ?_)
    obtain ⟨hq2, ho, hz, hS⟩ := hwr
    have hpb := hpb.kept (ho _ hpb.1.lt) (ho _ hpb.2.1.lt)
    have hq1 := hq1.kept (ho _ hq1.lt)
    rw [hsz] at hq2 hz
    refine mh_top (congrArg Value.ref hsz) ?_
    have hsz := hz
    generalize H1 = H at hq2 hS hsz hpb hq1 ⊢
    refine W.widen (k := 2) (n := 259) (Nat.le_of_ble_eq_true rfl) (Nat.le_of_ble_eq_true rfl) ?_
    refine lv_dup hx hb dX4_withExchanged_73 rfl ?_
    refine lv_aload_n hx hb dX4_withExchanged_74 rfl (lv_at hl 0 rfl) ?_
    refine gf_X4_9 hB hpb.1 rfl dX4_withExchanged_75 ?_
    refine lv_aload_n hx hb dX4_withExchanged_78 rfl (lv_at hl 0 rfl) ?_
    refine gf_X4_15 hB hpb.1 rfl dX4_withExchanged_79 ?_
    refine lv_aload_n hx hb dX4_withExchanged_82 rfl (lv_at hl 3 rfl) ?_
    refine cl_X4_45 (As := [.int (nI w), .int (nI h), .ref n0]) (rest := [.ref (n0 + 1)]) hB (c_X4_init l g H (n0 + 1) (n0 + 2) n0 w h hq2 (by assumption)) rfl hl.1 (Nat.le_of_ble_eq_true rfl) dX4_withExchanged_83 ⟨Nat.le_of_ble_eq_true rfl, Nat.le_of_ble_eq_true rfl⟩ ⟨Nat.le_of_ble_eq_true rfl, Nat.le_of_ble_eq_true rfl⟩ hS (by have hz9 := hS.1; rintro q (h | h) <;> first | exact Or.inr (by omega) | exact h.elim | exact Or.inl h | (simp only [ftA] at h ⊢; omega)) (fun v H1 locs hpo hfr hS => ?_)
    obtain ⟨rfl, hq2, hsz⟩ := hpo
    have hpb := hpb.keptF hfr (fun y => by first | exact y.elim | omega) (fun y => by first | exact y.elim | omega)
    have hq1 := Fr.keep hfr hq1 (by first | omega | exact fun y => y.elim)
    generalize H1 = H at hfr hS hpb hq1 hq2 hsz ⊢
    refine W.widen (k := 2) (n := 259) (Nat.le_of_ble_eq_true rfl) (Nat.le_of_ble_eq_true rfl) ?_
    refine mh_aret hB (Or.inr ⟨_, rfl⟩) ⟨Nat.le_of_ble_eq_true rfl, Nat.le_of_ble_eq_true rfl⟩ hS dX4_withExchanged_86 ⟨?_, ?_, ?_⟩
    · rfl
    · exact ⟨hq2, hq1.eqB (fun j hj => lowOf_all _ _ hj), hw0, hw16, hh0, hh16, hwh, fun k hk => swpC_lt ha6 hb6 (hcol k hk)⟩
    · exact hsz
  · skip
    refine lv_iload hx hb dX4_withExchanged_21 (lv_at hl 4 rfl) ?_
    refine lv_aload_n hx hb dX4_withExchanged_23 rfl (lv_at hl 3 rfl) ?_
    refine mh_alen hB 1 rfl hq1 dX4_withExchanged_24 ?_
    refine mn_icmp_ge (tgt := 70) hB dX4_withExchanged_25 (by decide) (by omega) (by omega) (fun h => by exfalso; omega) (fun h_25 => ?_)
    refine lv_aload_n hx hb dX4_withExchanged_28 rfl (lv_at hl 0 rfl) ?_
    refine gf_X4_18 hB hpb.1 rfl dX4_withExchanged_29 ?_
    refine lv_iload hx hb dX4_withExchanged_32 (lv_at hl 4 rfl) ?_
    refine mn_bald hB hpb.2.1 (by omega) (by omega) dX4_withExchanged_34 ?_
    refine mh_top (y := .int (nI (col i9))) (rfl) ?_
    have hc6 := hcol i9 (by omega)
    have hs6 := swpC_lt ha6 hb6 hc6
    refine lv_istore (lv' := [(5, .int (nI (col i9))), (0, .ref pa), (1, .int (nI a0)), (2, .int (nI b0)), (3, .ref n0), (4, .int (nI i9))]) hx hb dX4_withExchanged_35 hl (by decide) rfl (fun ls hl => ?_)
    refine lv_aload_n hx hb dX4_withExchanged_37 rfl (lv_at hl 4 rfl) ?_
    refine lv_iload hx hb dX4_withExchanged_38 (lv_at hl 5 rfl) ?_
    refine lv_iload hx hb dX4_withExchanged_40 (lv_at hl 0 rfl) ?_
    refine lv_iload_n hx hb dX4_withExchanged_42 rfl (lv_at hl 2 rfl) ?_
    refine mn_icmp_ne (tgt := 50) hB dX4_withExchanged_43 (by decide) (by omega) (by omega) (fun h_43 => ?_) (fun h_43 => ?_)
    · skip
      refine lv_iload hx hb dX4_withExchanged_50 (lv_at hl 0 rfl) ?_
      refine lv_iload_n hx hb dX4_withExchanged_52 rfl (lv_at hl 3 rfl) ?_
      refine mn_icmp_ne (tgt := 60) hB dX4_withExchanged_53 (by decide) (by omega) (by omega) (fun h_53 => ?_) (fun h_53 => ?_)
      · skip
        refine lv_iload hx hb dX4_withExchanged_60 (lv_at hl 0 rfl) ?_
        refine lv_i2b (v := (nI (col i9)).toInt8.toInt32) hx hb dX4_withExchanged_62 rfl ?_
        refine mh_top (y := .int (nI (swpC a0 b0 (col i9)))) (by rw [i2b6 _ (by omega)]; unfold swpC; first | rw [if_pos (by omega)] | rw [if_neg (by omega), if_pos (by omega)] | rw [if_neg (by omega), if_neg (by omega)]) ?_
        refine mn_bast hB hq1 (by first | exact Or.inl rfl | (simp only [ftA]; omega) | (simp [ftA]; omega)) hS (by omega) (by omega) dX4_withExchanged_63 (fun H locs hwr => ?_)
        obtain ⟨hq1, ho, hz, hS⟩ := hwr
        have hpb := hpb.kept (ho _ (by omega)) (ho _ (by omega))
        have hsz := hz.trans hsz
        refine lv_iinc (v := nI (i9 + 1)) (lv' := [(4, .int (nI (i9 + 1))), (5, .int (nI (col i9))), (0, .ref pa), (1, .int (nI a0)), (2, .int (nI b0)), (3, .ref n0)]) hx hb dX4_withExchanged_64 hl (k := 5) rfl (nI_1 _) (by decide) rfl (fun ls hl => ?_)
        refine lv_goto (tgt := 11) hx hb dX4_withExchanged_67 (by decide) ?_
        rw [nar6 _ hs6] at hq1
        refine ih11 (i9 + 1) _ _ _ ⟨(by omega), (hsz), hpb, (by rw [← lowOf_up]; exact hq1), hS, lv_sub hl [2, 3, 4, 5, 0] rfl⟩ (by dsimp only; omega)
      · skip
        refine lv_iload_n hx hb dX4_withExchanged_56 rfl (lv_at hl 2 rfl) ?_
        refine lv_goto (tgt := 62) hx hb dX4_withExchanged_57 (by decide) ?_
        refine lv_i2b (v := (nI a0).toInt8.toInt32) hx hb dX4_withExchanged_62 rfl ?_
        refine mh_top (y := .int (nI (swpC a0 b0 (col i9)))) (by rw [i2b6 _ (by omega)]; unfold swpC; first | rw [if_pos (by omega)] | rw [if_neg (by omega), if_pos (by omega)] | rw [if_neg (by omega), if_neg (by omega)]) ?_
        refine mn_bast hB hq1 (by first | exact Or.inl rfl | (simp only [ftA]; omega) | (simp [ftA]; omega)) hS (by omega) (by omega) dX4_withExchanged_63 (fun H locs hwr => ?_)
        obtain ⟨hq1, ho, hz, hS⟩ := hwr
        have hpb := hpb.kept (ho _ (by omega)) (ho _ (by omega))
        have hsz := hz.trans hsz
        refine lv_iinc (v := nI (i9 + 1)) (lv' := [(4, .int (nI (i9 + 1))), (5, .int (nI (col i9))), (0, .ref pa), (1, .int (nI a0)), (2, .int (nI b0)), (3, .ref n0)]) hx hb dX4_withExchanged_64 hl (k := 5) rfl (nI_1 _) (by decide) rfl (fun ls hl => ?_)
        refine lv_goto (tgt := 11) hx hb dX4_withExchanged_67 (by decide) ?_
        rw [nar6 _ hs6] at hq1
        refine ih11 (i9 + 1) _ _ _ ⟨(by omega), (hsz), hpb, (by rw [← lowOf_up]; exact hq1), hS, lv_sub hl [2, 3, 4, 5, 0] rfl⟩ (by dsimp only; omega)
    · skip
      refine lv_iload_n hx hb dX4_withExchanged_46 rfl (lv_at hl 3 rfl) ?_
      refine lv_goto (tgt := 62) hx hb dX4_withExchanged_47 (by decide) ?_
      refine lv_i2b (v := (nI b0).toInt8.toInt32) hx hb dX4_withExchanged_62 rfl ?_
      refine mh_top (y := .int (nI (swpC a0 b0 (col i9)))) (by rw [i2b6 _ (by omega)]; unfold swpC; first | rw [if_pos (by omega)] | rw [if_neg (by omega), if_pos (by omega)] | rw [if_neg (by omega), if_neg (by omega)]) ?_
      refine mn_bast hB hq1 (by first | exact Or.inl rfl | (simp only [ftA]; omega) | (simp [ftA]; omega)) hS (by omega) (by omega) dX4_withExchanged_63 (fun H locs hwr => ?_)
      obtain ⟨hq1, ho, hz, hS⟩ := hwr
      have hpb := hpb.kept (ho _ (by omega)) (ho _ (by omega))
      have hsz := hz.trans hsz
      refine lv_iinc (v := nI (i9 + 1)) (lv' := [(4, .int (nI (i9 + 1))), (5, .int (nI (col i9))), (0, .ref pa), (1, .int (nI a0)), (2, .int (nI b0)), (3, .ref n0)]) hx hb dX4_withExchanged_64 hl (k := 5) rfl (nI_1 _) (by decide) rfl (fun ls hl => ?_)
      refine lv_goto (tgt := 11) hx hb dX4_withExchanged_67 (by decide) ?_
      rw [nar6 _ hs6] at hq1
      refine ih11 (i9 + 1) _ _ _ ⟨(by omega), (hsz), hpb, (by rw [← lowOf_up]; exact hq1), hS, lv_sub hl [2, 3, 4, 5, 0] rfl⟩ (by dsimp only; omega)
