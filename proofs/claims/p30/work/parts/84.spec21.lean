/-! a quilt is started: the row, the class's numbers -/
section STQ
variable {q : Nat → Int32} {f : Nat} {b : PBl}
theorem stQ_off {j : Nat} (hb : b.ok) (h : j < 74 + 264 * f ∨ 74 + 264 * f + 264 ≤ j) : stQ q f b j = q j := by
  have h2 := sz256 hb.2.1 hb.2.2.2.1
  unfold stQ layI
  rw [if_neg (by omega), upd_n (by omega), upd_n (by omega)]
theorem stQ_0 : stQ q f b (74 + 264 * f + 0) = nI b.1 := by
  unfold stQ
  rw [layI_out (by omega), upd_n (by omega), upd_s (α := Nat)]
theorem stQ_1 : stQ q f b (74 + 264 * f + 1) = nI b.2.1 := by
  unfold stQ
  rw [layI_out (by omega), upd_s (α := Nat)]
theorem stQ_m {i : Nat} (h1 : 2 ≤ i) (h2 : i < 8) : stQ q f b (74 + 264 * f + i) = q (74 + 264 * f + i) := by
  unfold stQ
  rw [layI_out (by omega), upd_n (by omega), upd_n (by omega)]
theorem stQ_c {k : Nat} : stQ q f b (74 + 264 * f + (8 + k)) = if k < b.1 * b.2.1 then nI (b.2.2 k) else q (74 + 264 * f + (8 + k)) := by
  by_cases z : k < b.1 * b.2.1
  · rw [if_pos z]
    unfold stQ
    rw [← Nat.add_assoc, layI_in z]
  · rw [if_neg z]
    unfold stQ layI
    rw [if_neg (by omega), upd_n (by omega), upd_n (by omega)]
theorem stQ_same {f2 : Nat} (hb : b.ok) (h : f2 ≠ f) : Same q (stQ q f b) f2 := fun j h1 h2 => stQ_off hb (by omega)
theorem stQ_wd (hb : b.ok) : wdF (stQ q f b) f = b.1 := qn_nI stQ_0 (by have := hb.2.1; omega)
theorem stQ_ht (hb : b.ok) : htF (stQ q f b) f = b.2.1 := qn_nI stQ_1 (by have := hb.2.2.2.1; omega)
theorem stQ_sz (hb : b.ok) : szF (stQ q f b) f = b.1 * b.2.1 := by
  unfold szF
  rw [stQ_wd hb, stQ_ht hb]
theorem stQ_cl {k : Nat} (hb : b.ok) (hk : k < b.1 * b.2.1) : clF (stQ q f b) f k = b.2.2 k := qn_nI (stQ_c.trans (if_pos hk)) (by have := hb.2.2.2.2 k hk; omega)
theorem stQ_sw : swF (stQ q f b) f = swF q f := qn_eq (stQ_m (i := 2) (by omega) (by omega))
theorem stQ_by {m : Nat} (hm : m < 5) : byF (stQ q f b) f m = byF q f m := qn_eq (stQ_m (i := 3 + m) (by omega) (by omega))
theorem sw0 (hF : WFf q f) (h0 : szF q f = 0) : swF q f = 0 := by have := WF.sw hF; omega
theorem by0 {m : Nat} (hF : WFf q f) (h0 : szF q f = 0) (hm : m < 5) : byF q f m = 0 := by
  have h1 := hF.ble hm
  have h2 := sw0 hF h0
  omega
theorem stQ_WFf (hb : b.ok) (hF : WFf q f) (h0 : szF q f = 0) : WFf (stQ q f b) f := by
  have e0 := stQ_wd (q := q) (f := f) hb
  have e1 := stQ_ht (q := q) (f := f) hb
  have e2 := stQ_sw (q := q) (f := f) (b := b)
  have e4 : byS (stQ q f b) f = byS q f := by
    unfold byS
    rw [stQ_by (by omega), stQ_by (by omega), stQ_by (by omega), stQ_by (by omega), stQ_by (by omega)]
  have hs := sw0 hF h0
  have hb1 := hb.1
  have hb2 := hb.2.2.1
  refine ⟨by rw [e0]; exact stQ_0, by rw [e1]; exact stQ_1, by rw [e2, stQ_m (by omega) (by omega)]; exact hF.s, by rw [e0]; exact hb.2.1, by rw [e1]; exact hb.2.2.2.1, by rw [e0, e1]; omega, by rw [e2, hs]; exact Nat.zero_le _, fun m hm => by rw [stQ_by hm, stQ_m (by omega) (by omega)]; exact hF.by_ hm, by rw [e4, e2]; exact hF.sum, fun k hk => ?_⟩
  have h9 := stQ_c (q := q) (f := f) (b := b) (k := k)
  by_cases z : k < b.1 * b.2.1
  · rw [if_pos z] at h9
    rw [stQ_cl hb z]
    exact ⟨h9, hb.2.2.2.2 k z⟩
  · rw [if_neg z] at h9
    have h8 : clF (stQ q f b) f k = clF q f k := qn_eq h9
    rw [h8, h9]
    exact ⟨hF.col hk, hF.c6 hk⟩
theorem stQ_WF (hf : f < 3) (hb : b.ok) (h : WF q) (h0 : szF q f = 0) : WF (stQ q f b) := by
  have e0 : nmQ (stQ q f b) = nmQ q := qn_eq (stQ_off hb (by omega))
  have e1 : tnQ (stQ q f b) = tnQ q := qn_eq (stQ_off hb (by omega))
  refine ⟨by rw [e0, stQ_off hb (by omega)]; exact h.1, by rw [e1, stQ_off hb (by omega)]; exact h.2.1, by rw [e0]; exact h.2.2.1, by rw [e0, e1]; exact h.2.2.2.1, fun f2 hf2 => ?_⟩
  by_cases e : f2 = f
  · rw [e]; exact stQ_WFf hb (h.fr hf) h0
  · exact (stQ_same hb e).wf (h.fr hf2)
theorem stQ_WZ (hb : b.ok) (hz : WZ q) : WZ (stQ q f b) := by
  have e0 : nmQ (stQ q f b) = nmQ q := qn_eq (stQ_off hb (by omega))
  refine hz.of (by rw [e0]; exact Nat.le_refl _) (fun m h1 h2 => ⟨fun c hc => stQ_off hb (by omega), fun f2 hf2 => Or.inl ?_⟩)
  by_cases e : f2 = f
  · rw [e]; exact stQ_m (by omega) (by omega)
  · exact stQ_same hb e _ (by omega) (by omega)
theorem stQ_z (hf : f < 3) (hb : b.ok) (hq : WF q) (h0 : szF q f = 0) : ∀ j, j < 98 → putZ (zOf q) f j = zOf (stQ q f b) j := by
  have hF := hq.fr hf
  have hs := sw0 hF h0
  refine z_ext (fun j hj => ?_) (fun c2 hc2 => ?_) (fun c2 hc2 => ?_) (fun f2 hf2 => ?_) (fun f2 hf2 k hk => ?_)
  · rw [put_lo (by omega), zOf_lo hj, zOf_lo hj, stQ_off hb (by omega)]
  · rw [put_lo (by omega), zOf_cQ hc2, zOf_cQ hc2, clQ_sum, clQ_sum, stQ_off hb (by omega)]
    refine congrArg _ (sum_congr (fun f2 hf2 => ?_))
    by_cases e : f2 = f
    · have z0 : ∀ q2 : Nat → Int32, cntC q2 f c2 0 0 = 0 := fun _ => rfl
      rw [e, stQ_sw, hs, z0, z0]
    · have h1 := stQ_same (q := q) hb e
      have h2 := WF.sz (hq.fr hf2)
      have h3 := WF.sw (hq.fr hf2)
      rw [h1.sw, h1.cnt (by omega)]
  · rw [put_lo (by omega), zOf_cG hc2, zOf_cG hc2]
    exact (sum_congr (fun j hj => stQ_off hb (by omega))).symm
  · rw [put_S hf hf2, zOf_fS hf2]
    by_cases e : f2 = f
    · rw [e, if_pos rfl, zOf_fS hf, stQ_m (by omega) (by omega), hF.s, hs]
      rfl
    · rw [if_neg e, zOf_fS hf2, stQ_same hb e _ (by omega) (by omega)]
  · rw [put_B hf hf2 hk, zOf_fB hf2 hk]
    by_cases e : f2 = f
    · rw [e, if_pos rfl, zOf_fB hf hk, stQ_m (by omega) (by omega), hF.by_ hk, by0 hF h0 hk]
      rfl
    · rw [if_neg e, zOf_fB hf2 hk, stQ_same hb e _ (by omega) (by omega)]
theorem PT.start {g : GG} {D : Nat → Prop} {P : Nat → Option Nat} {H : Heap} {p2 b2 : Nat} (hp : PT g D P q H) (hb : b.ok) (hq : WF q) (hn : PatB g p2 b2 b.1 b.2.1 b.2.2 H) (h1 : ¬ D p2) (h2 : ¬ D b2) : PT g D (va_up P f (some p2)) (stQ q f b) H := fun j hj => by
  by_cases e : j = f
  · subst e
    rw [va_up_s, stQ_wd hb, stQ_ht hb]
    exact FP.congr (pf := some p2) ⟨b2, h1, h2, hn⟩ (fun k hk => stQ_cl hb hk)
  · have h3 := stQ_same (q := q) hb e
    rw [va_up_n e, h3.wd, h3.ht]
    refine (hp j hj).congr (fun k hk => h3.cl ?_)
    have h4 := WF.sz (hq.fr hj)
    have : k < szF q j := hk
    omega
end STQ
theorem nI_n9 {n : Nat} (h : n < 1000) : ¬ nI n = -9 := fun e => by
  have h1 := congrArg Int32.toInt e
  rw [nI_toInt (by omega)] at h1
  have h2 : (-9 : Int32).toInt = -9 := by decide
  omega
