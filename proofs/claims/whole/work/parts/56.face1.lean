def rm_fx_X10_about_t1 : Room := { frames := 8, cells := 1, slots := 6, locals := 123 }
set_option maxRecDepth 100000 in
set_option maxHeartbeats 400000 in
theorem fx_X10_about_t1 (l : Launch) (g : GG) (H0 : Heap) (bs : Nat) (xb : Nat) (lim : Nat) (q : Nat → Int32) (n : Nat) (rm : Nat → Int32) (sl : Nat → Int32) (sv : Nat → Int32) (tx : Nat → Int32) (ln : Nat) (x : Int32) (hC : CLS g xb lim q n rm sl sv tx ln H0) (hx1 : isIx x 9 = false) (hfl : l.stackTraces = false) (hbs : bs ≤ H0.size) : CtX l yX10_about cX10_about 2 (some .int) rm_fx_X10_about_t1 g bs [.ref xb, .int x] H0 (ftA (fun _ => False) H0.size) XE1 (fun _ => True) := by
  refine CtX.of (by decide) (fun _ h => Or.inr h) (Nat.le_of_ble_eq_true rfl) ?_
  intro p e s m below meth c ls hB hZ9 hT9 hS hH hl
  have hx := hB.x
  have hb := hB.b
  have hl : lv_has ls 2 [(0, .ref xb), (1, .int x)] := hl
  obtain ⟨D, P, T, Zr, Pr, zt, Pt, nx, hCi⟩ := hC
  have hS1 := hCi.2.2.1
  have hPT := hCi.2.2.2.1
  have hD : ∀ q9, xb + 10 ≤ q9 → q9 < xb + 10 + 26 → D q9 := fun q9 h1 h2 => hCi.2.2.2.2.2.2.2.2.2.2.2.2.1 q9 (by omega) (Nat.lt_of_lt_of_le (show q9 < xb + 68 by omega) hCi.2.2.2.2.2.2.2.2.2.2.2.2.2.2.2.2.1)
  have hW : WF q := hCi.2.2.2.2.2.2.2.2.2.2.2.2.2.2.1
  have hZ : WZ q := hCi.2.2.2.2.2.2.2.2.2.2.2.2.2.2.2.1
  have hnm5 := hW.2.2.1
  have hz0 : (zOf q) 0 = nI (nmQ q) := by rw [zOf_lo (by omega), hW.1]
  refine lv_iload_n hx hb dX10_about_0 rfl (lv_at hl 1 rfl) ?_
  refine lv_iconst (v := nI 0) hx hb dX10_about_1 (by decide) ?_
  refine lv_bipush (v := nI 8) hx hb dX10_about_2 (by decide) ?_
  exact mx_runS (n := 3) (As := [.int x, .int (nI 0), .int (nI 8)]) (rest := []) kw_442 kw_1 kw_440 kw_441 (by decide +kernel)  hB hZ9 (x_X10_requireRange l g H0 bs x 0 8 (rng_ix (b := 8) hx1 (by omega)) hfl hbs) rfl hl.1 (Nat.le_of_ble_eq_true rfl) dX10_about_4 ⟨Nat.le_of_ble_eq_true rfl, Nat.le_of_ble_eq_true rfl⟩ ⟨Nat.le_of_ble_eq_true rfl, Nat.le_of_ble_eq_true rfl⟩ hS (by have hz9 := hS.1; rintro q (h | h) <;> first | exact h.elim | exact Or.inr (by omega)) (fun q9 H1 locs1 ce hp9 hfr9 hS9 hce hcv hcl => mx_out hT9 hB hce hcv hcl hS9 ⟨Nat.le_of_ble_eq_true rfl, Nat.le_of_ble_eq_true rfl⟩ trivial)

def rm_fx_X10_member_t1 : Room := { frames := 7, cells := 1, slots := 6, locals := 103 }
set_option maxRecDepth 100000 in
set_option maxHeartbeats 400000 in
theorem fx_X10_member_t1 (l : Launch) (g : GG) (H0 : Heap) (bs : Nat) (xb : Nat) (lim : Nat) (q : Nat → Int32) (n : Nat) (rm : Nat → Int32) (sl : Nat → Int32) (sv : Nat → Int32) (tx : Nat → Int32) (ln : Nat) (x : Int32) (y : Int32) (hC : CLS g xb lim q n rm sl sv tx ln H0) (hx1 : isIx x (nmQ q) = false) (hfl : l.stackTraces = false) (hbs : bs ≤ H0.size) : CtX l yX10_member cX10_member 4 (some .int) rm_fx_X10_member_t1 g bs [.ref xb, .int x, .int y] H0 (ftA (fun _ => False) H0.size) XE3 (fun _ => True) := by
  refine CtX.of (by decide) (fun _ h => Or.inr h) (Nat.le_of_ble_eq_true rfl) ?_
  intro p e s m below meth c ls hB hZ9 hT9 hS hH hl
  have hx := hB.x
  have hb := hB.b
  have hl : lv_has ls 4 [(0, .ref xb), (1, .int x), (2, .int y)] := hl
  obtain ⟨D, P, T, Zr, Pr, zt, Pt, nx, hCi⟩ := hC
  have hS1 := hCi.2.2.1
  have hPT := hCi.2.2.2.1
  have hD : ∀ q9, xb + 10 ≤ q9 → q9 < xb + 10 + 26 → D q9 := fun q9 h1 h2 => hCi.2.2.2.2.2.2.2.2.2.2.2.2.1 q9 (by omega) (Nat.lt_of_lt_of_le (show q9 < xb + 68 by omega) hCi.2.2.2.2.2.2.2.2.2.2.2.2.2.2.2.2.1)
  have hW : WF q := hCi.2.2.2.2.2.2.2.2.2.2.2.2.2.2.1
  have hZ : WZ q := hCi.2.2.2.2.2.2.2.2.2.2.2.2.2.2.2.1
  have hnm5 := hW.2.2.1
  have hz0 : (zOf q) 0 = nI (nmQ q) := by rw [zOf_lo (by omega), hW.1]
  refine lv_aload_n hx hb dX10_member_0 rfl (lv_at hl 0 rfl) ?_
  refine lv_iload_n hx hb dX10_member_1 rfl (lv_at hl 1 rfl) ?_
  exact mx_runV (C := RX10) (n := 1) (As := [.int x]) (rest := []) rfl kw_558 kw_1 kw_555 kw_557 kp_14 (by decide +kernel)  hB hZ9 (x_X10_existingMember l g H0 bs xb (zOf q) P x (nmQ q) hCi.1 hS1 (hx1) (hz0) (hnm5) hfl hbs) hCi.1 rfl hl.1 (Nat.le_of_ble_eq_true rfl) dX10_member_2 ⟨Nat.le_of_ble_eq_true rfl, Nat.le_of_ble_eq_true rfl⟩ ⟨Nat.le_of_ble_eq_true rfl, Nat.le_of_ble_eq_true rfl⟩ hS (by have hz9 := hS.1; rintro q (h | h) <;> first | exact h.elim | exact Or.inr (by omega)) (fun q9 H1 locs1 ce hp9 hfr9 hS9 hce hcv hcl => mx_out hT9 hB hce hcv hcl hS9 ⟨Nat.le_of_ble_eq_true rfl, Nat.le_of_ble_eq_true rfl⟩ trivial)

def rm_fx_X10_member_t2 : Room := { frames := 8, cells := 1, slots := 6, locals := 123 }
set_option maxRecDepth 100000 in
set_option maxHeartbeats 400000 in
theorem fx_X10_member_t2 (l : Launch) (g : GG) (H0 : Heap) (bs : Nat) (xb : Nat) (lim : Nat) (q : Nat → Int32) (n : Nat) (rm : Nat → Int32) (sl : Nat → Int32) (sv : Nat → Int32) (tx : Nat → Int32) (ln : Nat) (k : Nat) (y : Int32) (hC : CLS g xb lim q n rm sl sv tx ln H0) (hk : k < nmQ q) (hx1 : isIx y 4 = false) (hfl : l.stackTraces = false) (hbs : bs ≤ H0.size) : CtX l yX10_member cX10_member 4 (some .int) rm_fx_X10_member_t2 g bs [.ref xb, .int (nI k), .int y] H0 (ftA (fun _ => False) H0.size) XE1 (fun _ => True) := by
  refine CtX.of (by decide) (fun _ h => Or.inr h) (Nat.le_of_ble_eq_true rfl) ?_
  intro p e s m below meth c ls hB hZ9 hT9 hS hH hl
  have hx := hB.x
  have hb := hB.b
  have hl : lv_has ls 4 [(0, .ref xb), (1, .int (nI k)), (2, .int y)] := hl
  obtain ⟨D, P, T, Zr, Pr, zt, Pt, nx, hCi⟩ := hC
  have hS1 := hCi.2.2.1
  have hPT := hCi.2.2.2.1
  have hD : ∀ q9, xb + 10 ≤ q9 → q9 < xb + 10 + 26 → D q9 := fun q9 h1 h2 => hCi.2.2.2.2.2.2.2.2.2.2.2.2.1 q9 (by omega) (Nat.lt_of_lt_of_le (show q9 < xb + 68 by omega) hCi.2.2.2.2.2.2.2.2.2.2.2.2.2.2.2.2.1)
  have hW : WF q := hCi.2.2.2.2.2.2.2.2.2.2.2.2.2.2.1
  have hZ : WZ q := hCi.2.2.2.2.2.2.2.2.2.2.2.2.2.2.2.1
  have hnm5 := hW.2.2.1
  have hz0 : (zOf q) 0 = nI (nmQ q) := by rw [zOf_lo (by omega), hW.1]
  refine lv_aload_n hx hb dX10_member_0 rfl (lv_at hl 0 rfl) ?_
  refine lv_iload_n hx hb dX10_member_1 rfl (lv_at hl 1 rfl) ?_
  refine cl_X10_91 (As := [.int (nI k)]) (rest := []) hB (c_X10_existingMember l g H0 xb (zOf q) P k (nmQ q) hCi.1 hS1 (by first | assumption | omega) (hz0) (hnm5)) hCi.1 rfl hl.1 (Nat.le_of_ble_eq_true rfl) dX10_member_2 ⟨Nat.le_of_ble_eq_true rfl, Nat.le_of_ble_eq_true rfl⟩ ⟨Nat.le_of_ble_eq_true rfl, Nat.le_of_ble_eq_true rfl⟩ hS (by have hz9 := hS.1; rintro q (h | h) <;> first | exact Or.inr (by omega) | exact h.elim | exact Or.inl h | (simp only [ftA] at h ⊢; omega)) (fun v H1 locs hpo hfr hS => ?_)
  obtain ⟨rfl, rfl⟩ := hpo
  refine W.widen (k := 0) (n := 0) (Nat.le_of_ble_eq_true rfl) (Nat.le_of_ble_eq_true rfl) ?_
  refine lv_astore_n (lv' := [(3, .ref ((xb + 10) + (4 + 2 * k))), (0, .ref xb), (1, .int (nI k)), (2, .int y)]) hx hb dX10_member_5 rfl hl (by decide) rfl (fun ls hl => ?_)
  refine lv_iload_n hx hb dX10_member_6 rfl (lv_at hl 3 rfl) ?_
  refine lv_iconst (v := nI 0) hx hb dX10_member_7 (by decide) ?_
  refine lv_iconst (v := nI 3) hx hb dX10_member_8 (by decide) ?_
  exact mx_runS (n := 3) (As := [.int y, .int (nI 0), .int (nI 3)]) (rest := []) kw_442 kw_1 kw_440 kw_441 (by decide +kernel)  hB hZ9 (x_X10_requireRange l g H0 bs y 0 3 (rng_ix (b := 3) hx1 (by omega)) hfl hbs) rfl hl.1 (Nat.le_of_ble_eq_true rfl) dX10_member_9 ⟨Nat.le_of_ble_eq_true rfl, Nat.le_of_ble_eq_true rfl⟩ ⟨Nat.le_of_ble_eq_true rfl, Nat.le_of_ble_eq_true rfl⟩ hS (by have hz9 := hS.1; rintro q (h | h) <;> first | exact h.elim | exact Or.inr (by omega)) (fun q9 H1 locs1 ce hp9 hfr9 hS9 hce hcv hcl => mx_out hT9 hB hce hcv hcl hS9 ⟨Nat.le_of_ble_eq_true rfl, Nat.le_of_ble_eq_true rfl⟩ trivial)

def rm_fx_X10_cloth_t1 : Room := { frames := 7, cells := 1, slots := 6, locals := 103 }
set_option maxRecDepth 100000 in
set_option maxHeartbeats 400000 in
theorem fx_X10_cloth_t1 (l : Launch) (g : GG) (H0 : Heap) (bs : Nat) (xb : Nat) (lim : Nat) (q : Nat → Int32) (n : Nat) (rm : Nat → Int32) (sl : Nat → Int32) (sv : Nat → Int32) (tx : Nat → Int32) (ln : Nat) (x : Int32) (y : Int32) (hC : CLS g xb lim q n rm sl sv tx ln H0) (hx1 : isIx x 6 = false) (hfl : l.stackTraces = false) (hbs : bs ≤ H0.size) : CtX l yX10_cloth cX10_cloth 4 (some .int) rm_fx_X10_cloth_t1 g bs [.ref xb, .int x, .int y] H0 (ftA (fun _ => False) H0.size) XE3 (fun _ => True) := by
  refine CtX.of (by decide) (fun _ h => Or.inr h) (Nat.le_of_ble_eq_true rfl) ?_
  intro p e s m below meth c ls hB hZ9 hT9 hS hH hl
  have hx := hB.x
  have hb := hB.b
  have hl : lv_has ls 4 [(0, .ref xb), (1, .int x), (2, .int y)] := hl
  obtain ⟨D, P, T, Zr, Pr, zt, Pt, nx, hCi⟩ := hC
  have hS1 := hCi.2.2.1
  have hPT := hCi.2.2.2.1
  have hD : ∀ q9, xb + 10 ≤ q9 → q9 < xb + 10 + 26 → D q9 := fun q9 h1 h2 => hCi.2.2.2.2.2.2.2.2.2.2.2.2.1 q9 (by omega) (Nat.lt_of_lt_of_le (show q9 < xb + 68 by omega) hCi.2.2.2.2.2.2.2.2.2.2.2.2.2.2.2.2.1)
  have hW : WF q := hCi.2.2.2.2.2.2.2.2.2.2.2.2.2.2.1
  have hZ : WZ q := hCi.2.2.2.2.2.2.2.2.2.2.2.2.2.2.2.1
  have hnm5 := hW.2.2.1
  have hz0 : (zOf q) 0 = nI (nmQ q) := by rw [zOf_lo (by omega), hW.1]
  refine lv_aload_n hx hb dX10_cloth_0 rfl (lv_at hl 0 rfl) ?_
  refine lv_iload_n hx hb dX10_cloth_1 rfl (lv_at hl 1 rfl) ?_
  exact mx_runV (C := RX10) (n := 1) (As := [.int x]) (rest := []) rfl kw_588 kw_1 kw_585 kw_587 kp_15 (by decide +kernel)  hB hZ9 (x_X10_existingCloth l g H0 bs xb (zOf q) P x hCi.1 hS1 (hx1) hfl hbs) hCi.1 rfl hl.1 (Nat.le_of_ble_eq_true rfl) dX10_cloth_2 ⟨Nat.le_of_ble_eq_true rfl, Nat.le_of_ble_eq_true rfl⟩ ⟨Nat.le_of_ble_eq_true rfl, Nat.le_of_ble_eq_true rfl⟩ hS (by have hz9 := hS.1; rintro q (h | h) <;> first | exact h.elim | exact Or.inr (by omega)) (fun q9 H1 locs1 ce hp9 hfr9 hS9 hce hcv hcl => mx_out hT9 hB hce hcv hcl hS9 ⟨Nat.le_of_ble_eq_true rfl, Nat.le_of_ble_eq_true rfl⟩ trivial)

def rm_fx_X10_cloth_t2 : Room := { frames := 8, cells := 1, slots := 6, locals := 123 }
set_option maxRecDepth 100000 in
set_option maxHeartbeats 400000 in
theorem fx_X10_cloth_t2 (l : Launch) (g : GG) (H0 : Heap) (bs : Nat) (xb : Nat) (lim : Nat) (q : Nat → Int32) (n : Nat) (rm : Nat → Int32) (sl : Nat → Int32) (sv : Nat → Int32) (tx : Nat → Int32) (ln : Nat) (k : Nat) (y : Int32) (hC : CLS g xb lim q n rm sl sv tx ln H0) (hk : k < 6) (hx1 : isIx y 5 = false) (hfl : l.stackTraces = false) (hbs : bs ≤ H0.size) : CtX l yX10_cloth cX10_cloth 4 (some .int) rm_fx_X10_cloth_t2 g bs [.ref xb, .int (nI k), .int y] H0 (ftA (fun _ => False) H0.size) XE1 (fun _ => True) := by
  refine CtX.of (by decide) (fun _ h => Or.inr h) (Nat.le_of_ble_eq_true rfl) ?_
  intro p e s m below meth c ls hB hZ9 hT9 hS hH hl
  have hx := hB.x
  have hb := hB.b
  have hl : lv_has ls 4 [(0, .ref xb), (1, .int (nI k)), (2, .int y)] := hl
  obtain ⟨D, P, T, Zr, Pr, zt, Pt, nx, hCi⟩ := hC
  have hS1 := hCi.2.2.1
  have hPT := hCi.2.2.2.1
  have hD : ∀ q9, xb + 10 ≤ q9 → q9 < xb + 10 + 26 → D q9 := fun q9 h1 h2 => hCi.2.2.2.2.2.2.2.2.2.2.2.2.1 q9 (by omega) (Nat.lt_of_lt_of_le (show q9 < xb + 68 by omega) hCi.2.2.2.2.2.2.2.2.2.2.2.2.2.2.2.2.1)
  have hW : WF q := hCi.2.2.2.2.2.2.2.2.2.2.2.2.2.2.1
  have hZ : WZ q := hCi.2.2.2.2.2.2.2.2.2.2.2.2.2.2.2.1
  have hnm5 := hW.2.2.1
  have hz0 : (zOf q) 0 = nI (nmQ q) := by rw [zOf_lo (by omega), hW.1]
  refine lv_aload_n hx hb dX10_cloth_0 rfl (lv_at hl 0 rfl) ?_
  refine lv_iload_n hx hb dX10_cloth_1 rfl (lv_at hl 1 rfl) ?_
  refine cl_X10_116 (As := [.int (nI k)]) (rest := []) hB (c_X10_existingCloth l g H0 xb (zOf q) P k hCi.1 hS1 (by first | assumption | omega)) hCi.1 rfl hl.1 (Nat.le_of_ble_eq_true rfl) dX10_cloth_2 ⟨Nat.le_of_ble_eq_true rfl, Nat.le_of_ble_eq_true rfl⟩ ⟨Nat.le_of_ble_eq_true rfl, Nat.le_of_ble_eq_true rfl⟩ hS (by have hz9 := hS.1; rintro q (h | h) <;> first | exact Or.inr (by omega) | exact h.elim | exact Or.inl h | (simp only [ftA] at h ⊢; omega)) (fun v H1 locs hpo hfr hS => ?_)
  obtain ⟨rfl, rfl⟩ := hpo
  refine W.widen (k := 0) (n := 0) (Nat.le_of_ble_eq_true rfl) (Nat.le_of_ble_eq_true rfl) ?_
  refine lv_astore_n (lv' := [(3, .ref ((xb + 10) + (14 + k))), (0, .ref xb), (1, .int (nI k)), (2, .int y)]) hx hb dX10_cloth_5 rfl hl (by decide) rfl (fun ls hl => ?_)
  refine lv_iload_n hx hb dX10_cloth_6 rfl (lv_at hl 3 rfl) ?_
  refine lv_iconst (v := nI 0) hx hb dX10_cloth_7 (by decide) ?_
  refine lv_iconst (v := nI 4) hx hb dX10_cloth_8 (by decide) ?_
  exact mx_runS (n := 3) (As := [.int y, .int (nI 0), .int (nI 4)]) (rest := []) kw_442 kw_1 kw_440 kw_441 (by decide +kernel)  hB hZ9 (x_X10_requireRange l g H0 bs y 0 4 (rng_ix (b := 4) hx1 (by omega)) hfl hbs) rfl hl.1 (Nat.le_of_ble_eq_true rfl) dX10_cloth_9 ⟨Nat.le_of_ble_eq_true rfl, Nat.le_of_ble_eq_true rfl⟩ ⟨Nat.le_of_ble_eq_true rfl, Nat.le_of_ble_eq_true rfl⟩ hS (by have hz9 := hS.1; rintro q (h | h) <;> first | exact h.elim | exact Or.inr (by omega)) (fun q9 H1 locs1 ce hp9 hfr9 hS9 hce hcv hcl => mx_out hT9 hB hce hcv hcl hS9 ⟨Nat.le_of_ble_eq_true rfl, Nat.le_of_ble_eq_true rfl⟩ trivial)

def rm_fx_X10_frame_t1 : Room := { frames := 7, cells := 1, slots := 6, locals := 103 }
set_option maxRecDepth 100000 in
set_option maxHeartbeats 400000 in
theorem fx_X10_frame_t1 (l : Launch) (g : GG) (H0 : Heap) (bs : Nat) (xb : Nat) (lim : Nat) (q : Nat → Int32) (n : Nat) (rm : Nat → Int32) (sl : Nat → Int32) (sv : Nat → Int32) (tx : Nat → Int32) (ln : Nat) (x : Int32) (y : Int32) (hC : CLS g xb lim q n rm sl sv tx ln H0) (hx1 : isIx x 3 = false) (hfl : l.stackTraces = false) (hbs : bs ≤ H0.size) : CtX l yX10_frame cX10_frame 5 (some .int) rm_fx_X10_frame_t1 g bs [.ref xb, .int x, .int y] H0 (ftA (fun _ => False) H0.size) XE3 (fun _ => True) := by
  refine CtX.of (by decide) (fun _ h => Or.inr h) (Nat.le_of_ble_eq_true rfl) ?_
  intro p e s m below meth c ls hB hZ9 hT9 hS hH hl
  have hx := hB.x
  have hb := hB.b
  have hl : lv_has ls 5 [(0, .ref xb), (1, .int x), (2, .int y)] := hl
  obtain ⟨D, P, T, Zr, Pr, zt, Pt, nx, hCi⟩ := hC
  have hS1 := hCi.2.2.1
  have hPT := hCi.2.2.2.1
  have hD : ∀ q9, xb + 10 ≤ q9 → q9 < xb + 10 + 26 → D q9 := fun q9 h1 h2 => hCi.2.2.2.2.2.2.2.2.2.2.2.2.1 q9 (by omega) (Nat.lt_of_lt_of_le (show q9 < xb + 68 by omega) hCi.2.2.2.2.2.2.2.2.2.2.2.2.2.2.2.2.1)
  have hW : WF q := hCi.2.2.2.2.2.2.2.2.2.2.2.2.2.2.1
  have hZ : WZ q := hCi.2.2.2.2.2.2.2.2.2.2.2.2.2.2.2.1
  have hnm5 := hW.2.2.1
  have hz0 : (zOf q) 0 = nI (nmQ q) := by rw [zOf_lo (by omega), hW.1]
  refine lv_aload_n hx hb dX10_frame_0 rfl (lv_at hl 0 rfl) ?_
  refine lv_iload_n hx hb dX10_frame_1 rfl (lv_at hl 1 rfl) ?_
  exact mx_runV (C := RX10) (n := 1) (As := [.int x]) (rest := []) rfl kw_601 kw_1 kw_598 kw_600 kp_16 (by decide +kernel)  hB hZ9 (x_X10_existingFrame l g H0 bs xb (zOf q) P x hCi.1 hS1 (hx1) hfl hbs) hCi.1 rfl hl.1 (Nat.le_of_ble_eq_true rfl) dX10_frame_2 ⟨Nat.le_of_ble_eq_true rfl, Nat.le_of_ble_eq_true rfl⟩ ⟨Nat.le_of_ble_eq_true rfl, Nat.le_of_ble_eq_true rfl⟩ hS (by have hz9 := hS.1; rintro q (h | h) <;> first | exact h.elim | exact Or.inr (by omega)) (fun q9 H1 locs1 ce hp9 hfr9 hS9 hce hcv hcl => mx_out hT9 hB hce hcv hcl hS9 ⟨Nat.le_of_ble_eq_true rfl, Nat.le_of_ble_eq_true rfl⟩ trivial)

def rm_fx_X10_frame_t2 : Room := { frames := 8, cells := 1, slots := 6, locals := 123 }
set_option maxRecDepth 100000 in
set_option maxHeartbeats 400000 in
theorem fx_X10_frame_t2 (l : Launch) (g : GG) (H0 : Heap) (bs : Nat) (xb : Nat) (lim : Nat) (q : Nat → Int32) (n : Nat) (rm : Nat → Int32) (sl : Nat → Int32) (sv : Nat → Int32) (tx : Nat → Int32) (ln : Nat) (f : Nat) (y : Int32) (hC : CLS g xb lim q n rm sl sv tx ln H0) (hf : f < 3) (hx1 : isIx y 7 = false) (hfl : l.stackTraces = false) (hbs : bs ≤ H0.size) : CtX l yX10_frame cX10_frame 5 (some .int) rm_fx_X10_frame_t2 g bs [.ref xb, .int (nI f), .int y] H0 (ftA (fun _ => False) H0.size) XE1 (fun _ => True) := by
  refine CtX.of (by decide) (fun _ h => Or.inr h) (Nat.le_of_ble_eq_true rfl) ?_
  intro p e s m below meth c ls hB hZ9 hT9 hS hH hl
  have hx := hB.x
  have hb := hB.b
  have hl : lv_has ls 5 [(0, .ref xb), (1, .int (nI f)), (2, .int y)] := hl
  obtain ⟨D, P, T, Zr, Pr, zt, Pt, nx, hCi⟩ := hC
  have hS1 := hCi.2.2.1
  have hPT := hCi.2.2.2.1
  have hD : ∀ q9, xb + 10 ≤ q9 → q9 < xb + 10 + 26 → D q9 := fun q9 h1 h2 => hCi.2.2.2.2.2.2.2.2.2.2.2.2.1 q9 (by omega) (Nat.lt_of_lt_of_le (show q9 < xb + 68 by omega) hCi.2.2.2.2.2.2.2.2.2.2.2.2.2.2.2.2.1)
  have hW : WF q := hCi.2.2.2.2.2.2.2.2.2.2.2.2.2.2.1
  have hZ : WZ q := hCi.2.2.2.2.2.2.2.2.2.2.2.2.2.2.2.1
  have hnm5 := hW.2.2.1
  have hz0 : (zOf q) 0 = nI (nmQ q) := by rw [zOf_lo (by omega), hW.1]
  refine lv_aload_n hx hb dX10_frame_0 rfl (lv_at hl 0 rfl) ?_
  refine lv_iload_n hx hb dX10_frame_1 rfl (lv_at hl 1 rfl) ?_
  refine cl_X10_123 (As := [.int (nI f)]) (rest := []) hB (c_X10_existingFrame l g H0 xb (zOf q) P f hCi.1 hS1 (by first | assumption | omega)) hCi.1 rfl hl.1 (Nat.le_of_ble_eq_true rfl) dX10_frame_2 ⟨Nat.le_of_ble_eq_true rfl, Nat.le_of_ble_eq_true rfl⟩ ⟨Nat.le_of_ble_eq_true rfl, Nat.le_of_ble_eq_true rfl⟩ hS (by have hz9 := hS.1; rintro q (h | h) <;> first | exact Or.inr (by omega) | exact h.elim | exact Or.inl h | (simp only [ftA] at h ⊢; omega)) (fun v H1 locs hpo hfr hS => ?_)
  obtain ⟨rfl, rfl⟩ := hpo
  refine W.widen (k := 0) (n := 0) (Nat.le_of_ble_eq_true rfl) (Nat.le_of_ble_eq_true rfl) ?_
  refine lv_astore_n (lv' := [(3, .ref ((xb + 10) + (20 + 2 * f))), (0, .ref xb), (1, .int (nI f)), (2, .int y)]) hx hb dX10_frame_5 rfl hl (by decide) rfl (fun ls hl => ?_)
  refine lv_iload_n hx hb dX10_frame_6 rfl (lv_at hl 3 rfl) ?_
  refine lv_iconst (v := nI 0) hx hb dX10_frame_7 (by decide) ?_
  refine lv_bipush (v := nI 6) hx hb dX10_frame_8 (by decide) ?_
  exact mx_runS (n := 3) (As := [.int y, .int (nI 0), .int (nI 6)]) (rest := []) kw_442 kw_1 kw_440 kw_441 (by decide +kernel)  hB hZ9 (x_X10_requireRange l g H0 bs y 0 6 (rng_ix (b := 6) hx1 (by omega)) hfl hbs) rfl hl.1 (Nat.le_of_ble_eq_true rfl) dX10_frame_10 ⟨Nat.le_of_ble_eq_true rfl, Nat.le_of_ble_eq_true rfl⟩ ⟨Nat.le_of_ble_eq_true rfl, Nat.le_of_ble_eq_true rfl⟩ hS (by have hz9 := hS.1; rintro q (h | h) <;> first | exact h.elim | exact Or.inr (by omega)) (fun q9 H1 locs1 ce hp9 hfr9 hS9 hce hcv hcl => mx_out hT9 hB hce hcv hcl hS9 ⟨Nat.le_of_ble_eq_true rfl, Nat.le_of_ble_eq_true rfl⟩ trivial)

def rm_fx_X10_patch_t1 : Room := { frames := 7, cells := 1, slots := 6, locals := 103 }
set_option maxRecDepth 100000 in
set_option maxHeartbeats 400000 in
theorem fx_X10_patch_t1 (l : Launch) (g : GG) (H0 : Heap) (bs : Nat) (xb : Nat) (lim : Nat) (q : Nat → Int32) (n : Nat) (rm : Nat → Int32) (sl : Nat → Int32) (sv : Nat → Int32) (tx : Nat → Int32) (ln : Nat) (x : Int32) (y : Int32) (z : Int32) (hC : CLS g xb lim q n rm sl sv tx ln H0) (hx1 : isIx x 3 = false) (hfl : l.stackTraces = false) (hbs : bs ≤ H0.size) : CtX l yX10_patch cX10_patch 6 (some .int) rm_fx_X10_patch_t1 g bs [.ref xb, .int x, .int y, .int z] H0 (ftA (fun _ => False) H0.size) XE3 (fun _ => True) := by
  refine CtX.of (by decide) (fun _ h => Or.inr h) (Nat.le_of_ble_eq_true rfl) ?_
  intro p e s m below meth c ls hB hZ9 hT9 hS hH hl
  have hx := hB.x
  have hb := hB.b
  have hl : lv_has ls 6 [(0, .ref xb), (1, .int x), (2, .int y), (3, .int z)] := hl
  obtain ⟨D, P, T, Zr, Pr, zt, Pt, nx, hCi⟩ := hC
  have hS1 := hCi.2.2.1
  have hPT := hCi.2.2.2.1
  have hD : ∀ q9, xb + 10 ≤ q9 → q9 < xb + 10 + 26 → D q9 := fun q9 h1 h2 => hCi.2.2.2.2.2.2.2.2.2.2.2.2.1 q9 (by omega) (Nat.lt_of_lt_of_le (show q9 < xb + 68 by omega) hCi.2.2.2.2.2.2.2.2.2.2.2.2.2.2.2.2.1)
  have hW : WF q := hCi.2.2.2.2.2.2.2.2.2.2.2.2.2.2.1
  have hZ : WZ q := hCi.2.2.2.2.2.2.2.2.2.2.2.2.2.2.2.1
  have hnm5 := hW.2.2.1
  have hz0 : (zOf q) 0 = nI (nmQ q) := by rw [zOf_lo (by omega), hW.1]
  refine lv_aload_n hx hb dX10_patch_0 rfl (lv_at hl 0 rfl) ?_
  refine lv_iload_n hx hb dX10_patch_1 rfl (lv_at hl 1 rfl) ?_
  exact mx_runV (C := RX10) (n := 1) (As := [.int x]) (rest := []) rfl kw_601 kw_1 kw_598 kw_600 kp_16 (by decide +kernel)  hB hZ9 (x_X10_existingFrame l g H0 bs xb (zOf q) P x hCi.1 hS1 (hx1) hfl hbs) hCi.1 rfl hl.1 (Nat.le_of_ble_eq_true rfl) dX10_patch_2 ⟨Nat.le_of_ble_eq_true rfl, Nat.le_of_ble_eq_true rfl⟩ ⟨Nat.le_of_ble_eq_true rfl, Nat.le_of_ble_eq_true rfl⟩ hS (by have hz9 := hS.1; rintro q (h | h) <;> first | exact h.elim | exact Or.inr (by omega)) (fun q9 H1 locs1 ce hp9 hfr9 hS9 hce hcv hcl => mx_out hT9 hB hce hcv hcl hS9 ⟨Nat.le_of_ble_eq_true rfl, Nat.le_of_ble_eq_true rfl⟩ trivial)

def rm_fx_X10_patch_t2 : Room := { frames := 7, cells := 1, slots := 6, locals := 101 }
set_option maxRecDepth 100000 in
set_option maxHeartbeats 400000 in
theorem fx_X10_patch_t2 (l : Launch) (g : GG) (H0 : Heap) (bs : Nat) (xb : Nat) (lim : Nat) (q : Nat → Int32) (n : Nat) (rm : Nat → Int32) (sl : Nat → Int32) (sv : Nat → Int32) (tx : Nat → Int32) (ln : Nat) (f : Nat) (y : Int32) (z : Int32) (hC : CLS g xb lim q n rm sl sv tx ln H0) (hf : f < 3) (hx1 : y < 0 ∨ z < 0) (hfl : l.stackTraces = false) (hbs : bs ≤ H0.size) : CtX l yX10_patch cX10_patch 6 (some .int) rm_fx_X10_patch_t2 g bs [.ref xb, .int (nI f), .int y, .int z] H0 (ftA (fun _ => False) H0.size) XE1 (fun _ => True) := by
  refine CtX.of (by decide) (fun _ h => Or.inr h) (Nat.le_of_ble_eq_true rfl) ?_
  intro p e s m below meth c ls hB hZ9 hT9 hS hH hl
  have hx := hB.x
  have hb := hB.b
  have hl : lv_has ls 6 [(0, .ref xb), (1, .int (nI f)), (2, .int y), (3, .int z)] := hl
  obtain ⟨D, P, T, Zr, Pr, zt, Pt, nx, hCi⟩ := hC
  have hS1 := hCi.2.2.1
  have hPT := hCi.2.2.2.1
  have hD : ∀ q9, xb + 10 ≤ q9 → q9 < xb + 10 + 26 → D q9 := fun q9 h1 h2 => hCi.2.2.2.2.2.2.2.2.2.2.2.2.1 q9 (by omega) (Nat.lt_of_lt_of_le (show q9 < xb + 68 by omega) hCi.2.2.2.2.2.2.2.2.2.2.2.2.2.2.2.2.1)
  have hW : WF q := hCi.2.2.2.2.2.2.2.2.2.2.2.2.2.2.1
  have hZ : WZ q := hCi.2.2.2.2.2.2.2.2.2.2.2.2.2.2.2.1
  have hnm5 := hW.2.2.1
  have hz0 : (zOf q) 0 = nI (nmQ q) := by rw [zOf_lo (by omega), hW.1]
  refine lv_aload_n hx hb dX10_patch_0 rfl (lv_at hl 0 rfl) ?_
  refine lv_iload_n hx hb dX10_patch_1 rfl (lv_at hl 1 rfl) ?_
  refine cl_X10_123 (As := [.int (nI f)]) (rest := []) hB (c_X10_existingFrame l g H0 xb (zOf q) P f hCi.1 hS1 (by first | assumption | omega)) hCi.1 rfl hl.1 (Nat.le_of_ble_eq_true rfl) dX10_patch_2 ⟨Nat.le_of_ble_eq_true rfl, Nat.le_of_ble_eq_true rfl⟩ ⟨Nat.le_of_ble_eq_true rfl, Nat.le_of_ble_eq_true rfl⟩ hS (by have hz9 := hS.1; rintro q (h | h) <;> first | exact Or.inr (by omega) | exact h.elim | exact Or.inl h | (simp only [ftA] at h ⊢; omega)) (fun v H1 locs hpo hfr hS => ?_)
  obtain ⟨rfl, rfl⟩ := hpo
  refine W.widen (k := 0) (n := 0) (Nat.le_of_ble_eq_true rfl) (Nat.le_of_ble_eq_true rfl) ?_
  refine lv_astore (lv' := [(4, .ref ((xb + 10) + (20 + 2 * f))), (0, .ref xb), (1, .int (nI f)), (2, .int y), (3, .int z)]) hx hb dX10_patch_5 hl (by decide) rfl (fun ls hl => ?_)
  refine lv_iload_n hx hb dX10_patch_7 rfl (lv_at hl 3 rfl) ?_
  refine lv_if_lt (tgt := 19) hx hb dX10_patch_8 (by decide) (fun h_8 => ?_) (fun h_8 => ?_)
  · skip
    refine lv_iconst (v := nI 0) hx hb dX10_patch_19 (by decide) ?_
    exact mx_runS (n := 1) (As := [.int (nI 0)]) (rest := []) kw_445 kw_1 kw_443 kw_444 (by decide +kernel)  hB hZ9 (x_X10_requireArgument l g H0 bs  hfl hbs) rfl hl.1 (Nat.le_of_ble_eq_true rfl) dX10_patch_20 ⟨Nat.le_of_ble_eq_true rfl, Nat.le_of_ble_eq_true rfl⟩ ⟨Nat.le_of_ble_eq_true rfl, Nat.le_of_ble_eq_true rfl⟩ hS (by have hz9 := hS.1; rintro q (h | h) <;> first | exact h.elim | exact Or.inr (by omega)) (fun q9 H1 locs1 ce hp9 hfr9 hS9 hce hcv hcl => mx_out hT9 hB hce hcv hcl hS9 ⟨Nat.le_of_ble_eq_true rfl, Nat.le_of_ble_eq_true rfl⟩ trivial)
  · skip
    refine lv_iload_n hx hb dX10_patch_11 rfl (lv_at hl 4 rfl) ?_
    refine lv_if_lt (tgt := 19) hx hb dX10_patch_12 (by decide) (fun h_12 => ?_) (fun h => hx1.elim (fun y9 => absurd y9 h_8) (fun y9 => absurd y9 h))
    refine lv_iconst (v := nI 0) hx hb dX10_patch_19 (by decide) ?_
    exact mx_runS (n := 1) (As := [.int (nI 0)]) (rest := []) kw_445 kw_1 kw_443 kw_444 (by decide +kernel)  hB hZ9 (x_X10_requireArgument l g H0 bs  hfl hbs) rfl hl.1 (Nat.le_of_ble_eq_true rfl) dX10_patch_20 ⟨Nat.le_of_ble_eq_true rfl, Nat.le_of_ble_eq_true rfl⟩ ⟨Nat.le_of_ble_eq_true rfl, Nat.le_of_ble_eq_true rfl⟩ hS (by have hz9 := hS.1; rintro q (h | h) <;> first | exact h.elim | exact Or.inr (by omega)) (fun q9 H1 locs1 ce hp9 hfr9 hS9 hce hcv hcl => mx_out hT9 hB hce hcv hcl hS9 ⟨Nat.le_of_ble_eq_true rfl, Nat.le_of_ble_eq_true rfl⟩ trivial)

def rm_fx_X10_count_t1 : Room := { frames := 7, cells := 1, slots := 6, locals := 103 }
set_option maxRecDepth 100000 in
set_option maxHeartbeats 400000 in
theorem fx_X10_count_t1 (l : Launch) (g : GG) (H0 : Heap) (bs : Nat) (xb : Nat) (lim : Nat) (q : Nat → Int32) (n : Nat) (rm : Nat → Int32) (sl : Nat → Int32) (sv : Nat → Int32) (tx : Nat → Int32) (ln : Nat) (x : Int32) (y : Int32) (z : Int32) (hC : CLS g xb lim q n rm sl sv tx ln H0) (hx1 : isIx x 3 = false) (hfl : l.stackTraces = false) (hbs : bs ≤ H0.size) : CtX l yX10_count cX10_count 5 (some .int) rm_fx_X10_count_t1 g bs [.ref xb, .int x, .int y, .int z] H0 (ftA (fun _ => False) H0.size) XE3 (fun _ => True) := by
  refine CtX.of (by decide) (fun _ h => Or.inr h) (Nat.le_of_ble_eq_true rfl) ?_
  intro p e s m below meth c ls hB hZ9 hT9 hS hH hl
  have hx := hB.x
  have hb := hB.b
  have hl : lv_has ls 5 [(0, .ref xb), (1, .int x), (2, .int y), (3, .int z)] := hl
  obtain ⟨D, P, T, Zr, Pr, zt, Pt, nx, hCi⟩ := hC
  have hS1 := hCi.2.2.1
  have hPT := hCi.2.2.2.1
  have hD : ∀ q9, xb + 10 ≤ q9 → q9 < xb + 10 + 26 → D q9 := fun q9 h1 h2 => hCi.2.2.2.2.2.2.2.2.2.2.2.2.1 q9 (by omega) (Nat.lt_of_lt_of_le (show q9 < xb + 68 by omega) hCi.2.2.2.2.2.2.2.2.2.2.2.2.2.2.2.2.1)
  have hW : WF q := hCi.2.2.2.2.2.2.2.2.2.2.2.2.2.2.1
  have hZ : WZ q := hCi.2.2.2.2.2.2.2.2.2.2.2.2.2.2.2.1
  have hnm5 := hW.2.2.1
  have hz0 : (zOf q) 0 = nI (nmQ q) := by rw [zOf_lo (by omega), hW.1]
  refine lv_aload_n hx hb dX10_count_0 rfl (lv_at hl 0 rfl) ?_
  refine lv_iload_n hx hb dX10_count_1 rfl (lv_at hl 1 rfl) ?_
  exact mx_runV (C := RX10) (n := 1) (As := [.int x]) (rest := []) rfl kw_601 kw_1 kw_598 kw_600 kp_16 (by decide +kernel)  hB hZ9 (x_X10_existingFrame l g H0 bs xb (zOf q) P x hCi.1 hS1 (hx1) hfl hbs) hCi.1 rfl hl.1 (Nat.le_of_ble_eq_true rfl) dX10_count_2 ⟨Nat.le_of_ble_eq_true rfl, Nat.le_of_ble_eq_true rfl⟩ ⟨Nat.le_of_ble_eq_true rfl, Nat.le_of_ble_eq_true rfl⟩ hS (by have hz9 := hS.1; rintro q (h | h) <;> first | exact h.elim | exact Or.inr (by omega)) (fun q9 H1 locs1 ce hp9 hfr9 hS9 hce hcv hcl => mx_out hT9 hB hce hcv hcl hS9 ⟨Nat.le_of_ble_eq_true rfl, Nat.le_of_ble_eq_true rfl⟩ trivial)

def rm_fx_X10_count_t1b : Room := { frames := 7, cells := 1, slots := 6, locals := 103 }
set_option maxRecDepth 100000 in
set_option maxHeartbeats 400000 in
theorem fx_X10_count_t1b (l : Launch) (g : GG) (H0 : Heap) (bs : Nat) (xb : Nat) (lim : Nat) (q : Nat → Int32) (n : Nat) (rm : Nat → Int32) (sl : Nat → Int32) (sv : Nat → Int32) (tx : Nat → Int32) (ln : Nat) (f : Nat) (y : Int32) (z : Int32) (hC : CLS g xb lim q n rm sl sv tx ln H0) (hf : f < 3) (hx1 : isIx y 6 = false) (hfl : l.stackTraces = false) (hbs : bs ≤ H0.size) : CtX l yX10_count cX10_count 5 (some .int) rm_fx_X10_count_t1b g bs [.ref xb, .int (nI f), .int y, .int z] H0 (ftA (fun _ => False) H0.size) XE3 (fun _ => True) := by
  refine CtX.of (by decide) (fun _ h => Or.inr h) (Nat.le_of_ble_eq_true rfl) ?_
  intro p e s m below meth c ls hB hZ9 hT9 hS hH hl
  have hx := hB.x
  have hb := hB.b
  have hl : lv_has ls 5 [(0, .ref xb), (1, .int (nI f)), (2, .int y), (3, .int z)] := hl
  obtain ⟨D, P, T, Zr, Pr, zt, Pt, nx, hCi⟩ := hC
  have hS1 := hCi.2.2.1
  have hPT := hCi.2.2.2.1
  have hD : ∀ q9, xb + 10 ≤ q9 → q9 < xb + 10 + 26 → D q9 := fun q9 h1 h2 => hCi.2.2.2.2.2.2.2.2.2.2.2.2.1 q9 (by omega) (Nat.lt_of_lt_of_le (show q9 < xb + 68 by omega) hCi.2.2.2.2.2.2.2.2.2.2.2.2.2.2.2.2.1)
  have hW : WF q := hCi.2.2.2.2.2.2.2.2.2.2.2.2.2.2.1
  have hZ : WZ q := hCi.2.2.2.2.2.2.2.2.2.2.2.2.2.2.2.1
  have hnm5 := hW.2.2.1
  have hz0 : (zOf q) 0 = nI (nmQ q) := by rw [zOf_lo (by omega), hW.1]
  refine lv_aload_n hx hb dX10_count_0 rfl (lv_at hl 0 rfl) ?_
  refine lv_iload_n hx hb dX10_count_1 rfl (lv_at hl 1 rfl) ?_
  refine cl_X10_123 (As := [.int (nI f)]) (rest := []) hB (c_X10_existingFrame l g H0 xb (zOf q) P f hCi.1 hS1 (by first | assumption | omega)) hCi.1 rfl hl.1 (Nat.le_of_ble_eq_true rfl) dX10_count_2 ⟨Nat.le_of_ble_eq_true rfl, Nat.le_of_ble_eq_true rfl⟩ ⟨Nat.le_of_ble_eq_true rfl, Nat.le_of_ble_eq_true rfl⟩ hS (by have hz9 := hS.1; rintro q (h | h) <;> first | exact Or.inr (by omega) | exact h.elim | exact Or.inl h | (simp only [ftA] at h ⊢; omega)) (fun v H1 locs hpo hfr hS => ?_)
  obtain ⟨rfl, rfl⟩ := hpo
  refine W.widen (k := 0) (n := 0) (Nat.le_of_ble_eq_true rfl) (Nat.le_of_ble_eq_true rfl) ?_
  refine lv_astore (lv' := [(4, .ref ((xb + 10) + (20 + 2 * f))), (0, .ref xb), (1, .int (nI f)), (2, .int y), (3, .int z)]) hx hb dX10_count_5 hl (by decide) rfl (fun ls hl => ?_)
  refine lv_aload_n hx hb dX10_count_7 rfl (lv_at hl 1 rfl) ?_
  refine lv_iload_n hx hb dX10_count_8 rfl (lv_at hl 3 rfl) ?_
  exact mx_runV (C := RX10) (n := 1) (As := [.int y]) (rest := []) rfl kw_588 kw_1 kw_585 kw_587 kp_15 (by decide +kernel)  hB hZ9 (x_X10_existingCloth l g H0 bs xb (zOf q) P y hCi.1 hS1 (hx1) hfl hbs) hCi.1 rfl hl.1 (Nat.le_of_ble_eq_true rfl) dX10_count_9 ⟨Nat.le_of_ble_eq_true rfl, Nat.le_of_ble_eq_true rfl⟩ ⟨Nat.le_of_ble_eq_true rfl, Nat.le_of_ble_eq_true rfl⟩ hS (by have hz9 := hS.1; rintro q (h | h) <;> first | exact h.elim | exact Or.inr (by omega)) (fun q9 H1 locs1 ce hp9 hfr9 hS9 hce hcv hcl => mx_out hT9 hB hce hcv hcl hS9 ⟨Nat.le_of_ble_eq_true rfl, Nat.le_of_ble_eq_true rfl⟩ trivial)

def rm_fx_X10_same_t1 : Room := { frames := 7, cells := 1, slots := 6, locals := 103 }
set_option maxRecDepth 100000 in
set_option maxHeartbeats 400000 in
theorem fx_X10_same_t1 (l : Launch) (g : GG) (H0 : Heap) (bs : Nat) (xb : Nat) (lim : Nat) (q : Nat → Int32) (n : Nat) (rm : Nat → Int32) (sl : Nat → Int32) (sv : Nat → Int32) (tx : Nat → Int32) (ln : Nat) (x : Int32) (y : Int32) (hC : CLS g xb lim q n rm sl sv tx ln H0) (hx1 : isIx x 3 = false) (hfl : l.stackTraces = false) (hbs : bs ≤ H0.size) : CtX l yX10_same cX10_same 5 (some .boolean) rm_fx_X10_same_t1 g bs [.ref xb, .int x, .int y] H0 (ftA (fun _ => False) H0.size) XE3 (fun _ => True) := by
  refine CtX.of (by decide) (fun _ h => Or.inr h) (Nat.le_of_ble_eq_true rfl) ?_
  intro p e s m below meth c ls hB hZ9 hT9 hS hH hl
  have hx := hB.x
  have hb := hB.b
  have hl : lv_has ls 5 [(0, .ref xb), (1, .int x), (2, .int y)] := hl
  obtain ⟨D, P, T, Zr, Pr, zt, Pt, nx, hCi⟩ := hC
  have hS1 := hCi.2.2.1
  have hPT := hCi.2.2.2.1
  have hD : ∀ q9, xb + 10 ≤ q9 → q9 < xb + 10 + 26 → D q9 := fun q9 h1 h2 => hCi.2.2.2.2.2.2.2.2.2.2.2.2.1 q9 (by omega) (Nat.lt_of_lt_of_le (show q9 < xb + 68 by omega) hCi.2.2.2.2.2.2.2.2.2.2.2.2.2.2.2.2.1)
  have hW : WF q := hCi.2.2.2.2.2.2.2.2.2.2.2.2.2.2.1
  have hZ : WZ q := hCi.2.2.2.2.2.2.2.2.2.2.2.2.2.2.2.1
  have hnm5 := hW.2.2.1
  have hz0 : (zOf q) 0 = nI (nmQ q) := by rw [zOf_lo (by omega), hW.1]
  refine lv_aload_n hx hb dX10_same_0 rfl (lv_at hl 0 rfl) ?_
  refine lv_iload_n hx hb dX10_same_1 rfl (lv_at hl 1 rfl) ?_
  exact mx_runV (C := RX10) (n := 1) (As := [.int x]) (rest := []) rfl kw_601 kw_1 kw_598 kw_600 kp_16 (by decide +kernel)  hB hZ9 (x_X10_existingFrame l g H0 bs xb (zOf q) P x hCi.1 hS1 (hx1) hfl hbs) hCi.1 rfl hl.1 (Nat.le_of_ble_eq_true rfl) dX10_same_2 ⟨Nat.le_of_ble_eq_true rfl, Nat.le_of_ble_eq_true rfl⟩ ⟨Nat.le_of_ble_eq_true rfl, Nat.le_of_ble_eq_true rfl⟩ hS (by have hz9 := hS.1; rintro q (h | h) <;> first | exact h.elim | exact Or.inr (by omega)) (fun q9 H1 locs1 ce hp9 hfr9 hS9 hce hcv hcl => mx_out hT9 hB hce hcv hcl hS9 ⟨Nat.le_of_ble_eq_true rfl, Nat.le_of_ble_eq_true rfl⟩ trivial)

def rm_fx_X10_same_t2 : Room := { frames := 8, cells := 1, slots := 6, locals := 123 }
set_option maxRecDepth 100000 in
set_option maxHeartbeats 400000 in
theorem fx_X10_same_t2 (l : Launch) (g : GG) (H0 : Heap) (bs : Nat) (xb : Nat) (lim : Nat) (q : Nat → Int32) (n : Nat) (rm : Nat → Int32) (sl : Nat → Int32) (sv : Nat → Int32) (tx : Nat → Int32) (ln : Nat) (f : Nat) (y : Int32) (hC : CLS g xb lim q n rm sl sv tx ln H0) (hf : f < 3) (hx1 : isIx y 3 = false) (hfl : l.stackTraces = false) (hbs : bs ≤ H0.size) : CtX l yX10_same cX10_same 5 (some .boolean) rm_fx_X10_same_t2 g bs [.ref xb, .int (nI f), .int y] H0 (ftA (fun _ => False) H0.size) XE1 (fun _ => True) := by
  refine CtX.of (by decide) (fun _ h => Or.inr h) (Nat.le_of_ble_eq_true rfl) ?_
  intro p e s m below meth c ls hB hZ9 hT9 hS hH hl
  have hx := hB.x
  have hb := hB.b
  have hl : lv_has ls 5 [(0, .ref xb), (1, .int (nI f)), (2, .int y)] := hl
  obtain ⟨D, P, T, Zr, Pr, zt, Pt, nx, hCi⟩ := hC
  have hS1 := hCi.2.2.1
  have hPT := hCi.2.2.2.1
  have hD : ∀ q9, xb + 10 ≤ q9 → q9 < xb + 10 + 26 → D q9 := fun q9 h1 h2 => hCi.2.2.2.2.2.2.2.2.2.2.2.2.1 q9 (by omega) (Nat.lt_of_lt_of_le (show q9 < xb + 68 by omega) hCi.2.2.2.2.2.2.2.2.2.2.2.2.2.2.2.2.1)
  have hW : WF q := hCi.2.2.2.2.2.2.2.2.2.2.2.2.2.2.1
  have hZ : WZ q := hCi.2.2.2.2.2.2.2.2.2.2.2.2.2.2.2.1
  have hnm5 := hW.2.2.1
  have hz0 : (zOf q) 0 = nI (nmQ q) := by rw [zOf_lo (by omega), hW.1]
  refine lv_aload_n hx hb dX10_same_0 rfl (lv_at hl 0 rfl) ?_
  refine lv_iload_n hx hb dX10_same_1 rfl (lv_at hl 1 rfl) ?_
  refine cl_X10_123 (As := [.int (nI f)]) (rest := []) hB (c_X10_existingFrame l g H0 xb (zOf q) P f hCi.1 hS1 (by first | assumption | omega)) hCi.1 rfl hl.1 (Nat.le_of_ble_eq_true rfl) dX10_same_2 ⟨Nat.le_of_ble_eq_true rfl, Nat.le_of_ble_eq_true rfl⟩ ⟨Nat.le_of_ble_eq_true rfl, Nat.le_of_ble_eq_true rfl⟩ hS (by have hz9 := hS.1; rintro q (h | h) <;> first | exact Or.inr (by omega) | exact h.elim | exact Or.inl h | (simp only [ftA] at h ⊢; omega)) (fun v H1 locs hpo hfr hS => ?_)
  obtain ⟨rfl, rfl⟩ := hpo
  refine W.widen (k := 0) (n := 0) (Nat.le_of_ble_eq_true rfl) (Nat.le_of_ble_eq_true rfl) ?_
  refine lv_astore_n (lv' := [(3, .ref ((xb + 10) + (20 + 2 * f))), (0, .ref xb), (1, .int (nI f)), (2, .int y)]) hx hb dX10_same_5 rfl hl (by decide) rfl (fun ls hl => ?_)
  refine lv_iload_n hx hb dX10_same_6 rfl (lv_at hl 3 rfl) ?_
  refine lv_iconst (v := nI 0) hx hb dX10_same_7 (by decide) ?_
  refine lv_iconst (v := nI 2) hx hb dX10_same_8 (by decide) ?_
  exact mx_runS (n := 3) (As := [.int y, .int (nI 0), .int (nI 2)]) (rest := []) kw_442 kw_1 kw_440 kw_441 (by decide +kernel)  hB hZ9 (x_X10_requireRange l g H0 bs y 0 2 (rng_ix (b := 2) hx1 (by omega)) hfl hbs) rfl hl.1 (Nat.le_of_ble_eq_true rfl) dX10_same_9 ⟨Nat.le_of_ble_eq_true rfl, Nat.le_of_ble_eq_true rfl⟩ ⟨Nat.le_of_ble_eq_true rfl, Nat.le_of_ble_eq_true rfl⟩ hS (by have hz9 := hS.1; rintro q (h | h) <;> first | exact h.elim | exact Or.inr (by omega)) (fun q9 H1 locs1 ce hp9 hfr9 hS9 hce hcv hcl => mx_out hT9 hB hce hcv hcl hS9 ⟨Nat.le_of_ble_eq_true rfl, Nat.le_of_ble_eq_true rfl⟩ trivial)

def rm_fx_X10_addMember_t1 : Room := { frames := 7, cells := 1, slots := 6, locals := 101 }
set_option maxRecDepth 100000 in
set_option maxHeartbeats 400000 in
theorem fx_X10_addMember_t1 (l : Launch) (g : GG) (H0 : Heap) (bs : Nat) (xb : Nat) (lim : Nat) (q : Nat → Int32) (n : Nat) (rm : Nat → Int32) (sl : Nat → Int32) (sv : Nat → Int32) (tx : Nat → Int32) (ln : Nat) (hC : CLS g xb lim q n rm sl sv tx ln H0) (h5 : nmQ q = 5) (hfl : l.stackTraces = false) (hbs : bs ≤ H0.size) : CtX l yX10_addMember cX10_addMember 1 (some .int) rm_fx_X10_addMember_t1 g bs [.ref xb] H0 (ftA (fun _ => False) H0.size) XE2 (fun _ => True) := by
  refine CtX.of (by decide) (fun _ h => Or.inr h) (Nat.le_of_ble_eq_true rfl) ?_
  intro p e s m below meth c ls hB hZ9 hT9 hS hH hl
  have hx := hB.x
  have hb := hB.b
  have hl : lv_has ls 1 [(0, .ref xb)] := hl
  obtain ⟨D, P, T, Zr, Pr, zt, Pt, nx, hCi⟩ := hC
  have hS1 := hCi.2.2.1
  have hPT := hCi.2.2.2.1
  have hD : ∀ q9, xb + 10 ≤ q9 → q9 < xb + 10 + 26 → D q9 := fun q9 h1 h2 => hCi.2.2.2.2.2.2.2.2.2.2.2.2.1 q9 (by omega) (Nat.lt_of_lt_of_le (show q9 < xb + 68 by omega) hCi.2.2.2.2.2.2.2.2.2.2.2.2.2.2.2.2.1)
  have hW : WF q := hCi.2.2.2.2.2.2.2.2.2.2.2.2.2.2.1
  have hZ : WZ q := hCi.2.2.2.2.2.2.2.2.2.2.2.2.2.2.2.1
  have hnm5 := hW.2.2.1
  have hz0 : (zOf q) 0 = nI (nmQ q) := by rw [zOf_lo (by omega), hW.1]
  refine lv_aload_n hx hb dX10_addMember_0 rfl (lv_at hl 0 rfl) ?_
  refine gf_X10_19 hB hCi.1 rfl dX10_addMember_1 ?_
  refine gf_X10_67 hB hS1.o rfl dX10_addMember_4 ?_
  refine mh_top (y := .int (nI (nmQ q))) (by rw [hz0]) ?_
  refine lv_iconst (v := nI 5) hx hb dX10_addMember_7 (by decide) ?_
  refine mn_icmp_ge (tgt := 15) hB dX10_addMember_8 (by decide) (by omega) (by omega) (fun h_8 => ?_) (fun h => by exfalso; omega)
  refine lv_iconst (v := nI 0) hx hb dX10_addMember_15 (by decide) ?_
  exact mx_runS (n := 1) (As := [.int (nI 0)]) (rest := []) kw_515 kw_1 kw_513 kw_514 (by decide +kernel)  hB hZ9 (x_X10_requireState l g H0 bs  hfl hbs) rfl hl.1 (Nat.le_of_ble_eq_true rfl) dX10_addMember_16 ⟨Nat.le_of_ble_eq_true rfl, Nat.le_of_ble_eq_true rfl⟩ ⟨Nat.le_of_ble_eq_true rfl, Nat.le_of_ble_eq_true rfl⟩ hS (by have hz9 := hS.1; rintro q (h | h) <;> first | exact h.elim | exact Or.inr (by omega)) (fun q9 H1 locs1 ce hp9 hfr9 hS9 hce hcv hcl => mx_out hT9 hB hce hcv hcl hS9 ⟨Nat.le_of_ble_eq_true rfl, Nat.le_of_ble_eq_true rfl⟩ trivial)

def rm_fx_X10_give_t1 : Room := { frames := 7, cells := 1, slots := 6, locals := 103 }
set_option maxRecDepth 100000 in
set_option maxHeartbeats 400000 in
theorem fx_X10_give_t1 (l : Launch) (g : GG) (H0 : Heap) (bs : Nat) (xb : Nat) (lim : Nat) (q : Nat → Int32) (n : Nat) (rm : Nat → Int32) (sl : Nat → Int32) (sv : Nat → Int32) (tx : Nat → Int32) (ln : Nat) (x : Int32) (y : Int32) (z : Int32) (hC : CLS g xb lim q n rm sl sv tx ln H0) (hx1 : isIx x (nmQ q) = false) (hfl : l.stackTraces = false) (hbs : bs ≤ H0.size) : CtX l yX10_give cX10_give 6 (some .int) rm_fx_X10_give_t1 g bs [.ref xb, .int x, .int y, .int z] H0 (ftA (fun _ => False) H0.size) XE3 (fun _ => True) := by
  refine CtX.of (by decide) (fun _ h => Or.inr h) (Nat.le_of_ble_eq_true rfl) ?_
  intro p e s m below meth c ls hB hZ9 hT9 hS hH hl
  have hx := hB.x
  have hb := hB.b
  have hl : lv_has ls 6 [(0, .ref xb), (1, .int x), (2, .int y), (3, .int z)] := hl
  obtain ⟨D, P, T, Zr, Pr, zt, Pt, nx, hCi⟩ := hC
  have hS1 := hCi.2.2.1
  have hPT := hCi.2.2.2.1
  have hD : ∀ q9, xb + 10 ≤ q9 → q9 < xb + 10 + 26 → D q9 := fun q9 h1 h2 => hCi.2.2.2.2.2.2.2.2.2.2.2.2.1 q9 (by omega) (Nat.lt_of_lt_of_le (show q9 < xb + 68 by omega) hCi.2.2.2.2.2.2.2.2.2.2.2.2.2.2.2.2.1)
  have hW : WF q := hCi.2.2.2.2.2.2.2.2.2.2.2.2.2.2.1
  have hZ : WZ q := hCi.2.2.2.2.2.2.2.2.2.2.2.2.2.2.2.1
  have hnm5 := hW.2.2.1
  have hz0 : (zOf q) 0 = nI (nmQ q) := by rw [zOf_lo (by omega), hW.1]
  refine lv_aload_n hx hb dX10_give_0 rfl (lv_at hl 0 rfl) ?_
  refine lv_iload_n hx hb dX10_give_1 rfl (lv_at hl 1 rfl) ?_
  exact mx_runV (C := RX10) (n := 1) (As := [.int x]) (rest := []) rfl kw_558 kw_1 kw_555 kw_557 kp_14 (by decide +kernel)  hB hZ9 (x_X10_existingMember l g H0 bs xb (zOf q) P x (nmQ q) hCi.1 hS1 (hx1) (hz0) (hnm5) hfl hbs) hCi.1 rfl hl.1 (Nat.le_of_ble_eq_true rfl) dX10_give_2 ⟨Nat.le_of_ble_eq_true rfl, Nat.le_of_ble_eq_true rfl⟩ ⟨Nat.le_of_ble_eq_true rfl, Nat.le_of_ble_eq_true rfl⟩ hS (by have hz9 := hS.1; rintro q (h | h) <;> first | exact h.elim | exact Or.inr (by omega)) (fun q9 H1 locs1 ce hp9 hfr9 hS9 hce hcv hcl => mx_out hT9 hB hce hcv hcl hS9 ⟨Nat.le_of_ble_eq_true rfl, Nat.le_of_ble_eq_true rfl⟩ trivial)

def rm_fx_X10_give_t1b : Room := { frames := 7, cells := 1, slots := 6, locals := 103 }
set_option maxRecDepth 100000 in
set_option maxHeartbeats 400000 in
theorem fx_X10_give_t1b (l : Launch) (g : GG) (H0 : Heap) (bs : Nat) (xb : Nat) (lim : Nat) (q : Nat → Int32) (n : Nat) (rm : Nat → Int32) (sl : Nat → Int32) (sv : Nat → Int32) (tx : Nat → Int32) (ln : Nat) (k : Nat) (y : Int32) (z : Int32) (hC : CLS g xb lim q n rm sl sv tx ln H0) (hk : k < nmQ q) (hx1 : isIx y 6 = false) (hfl : l.stackTraces = false) (hbs : bs ≤ H0.size) : CtX l yX10_give cX10_give 6 (some .int) rm_fx_X10_give_t1b g bs [.ref xb, .int (nI k), .int y, .int z] H0 (ftA (fun _ => False) H0.size) XE3 (fun _ => True) := by
  refine CtX.of (by decide) (fun _ h => Or.inr h) (Nat.le_of_ble_eq_true rfl) ?_
  intro p e s m below meth c ls hB hZ9 hT9 hS hH hl
  have hx := hB.x
  have hb := hB.b
  have hl : lv_has ls 6 [(0, .ref xb), (1, .int (nI k)), (2, .int y), (3, .int z)] := hl
  obtain ⟨D, P, T, Zr, Pr, zt, Pt, nx, hCi⟩ := hC
  have hS1 := hCi.2.2.1
  have hPT := hCi.2.2.2.1
  have hD : ∀ q9, xb + 10 ≤ q9 → q9 < xb + 10 + 26 → D q9 := fun q9 h1 h2 => hCi.2.2.2.2.2.2.2.2.2.2.2.2.1 q9 (by omega) (Nat.lt_of_lt_of_le (show q9 < xb + 68 by omega) hCi.2.2.2.2.2.2.2.2.2.2.2.2.2.2.2.2.1)
  have hW : WF q := hCi.2.2.2.2.2.2.2.2.2.2.2.2.2.2.1
  have hZ : WZ q := hCi.2.2.2.2.2.2.2.2.2.2.2.2.2.2.2.1
  have hnm5 := hW.2.2.1
  have hz0 : (zOf q) 0 = nI (nmQ q) := by rw [zOf_lo (by omega), hW.1]
  refine lv_aload_n hx hb dX10_give_0 rfl (lv_at hl 0 rfl) ?_
  refine lv_iload_n hx hb dX10_give_1 rfl (lv_at hl 1 rfl) ?_
  refine cl_X10_91 (As := [.int (nI k)]) (rest := []) hB (c_X10_existingMember l g H0 xb (zOf q) P k (nmQ q) hCi.1 hS1 (by first | assumption | omega) (hz0) (hnm5)) hCi.1 rfl hl.1 (Nat.le_of_ble_eq_true rfl) dX10_give_2 ⟨Nat.le_of_ble_eq_true rfl, Nat.le_of_ble_eq_true rfl⟩ ⟨Nat.le_of_ble_eq_true rfl, Nat.le_of_ble_eq_true rfl⟩ hS (by have hz9 := hS.1; rintro q (h | h) <;> first | exact Or.inr (by omega) | exact h.elim | exact Or.inl h | (simp only [ftA] at h ⊢; omega)) (fun v H1 locs hpo hfr hS => ?_)
  obtain ⟨rfl, rfl⟩ := hpo
  refine W.widen (k := 0) (n := 0) (Nat.le_of_ble_eq_true rfl) (Nat.le_of_ble_eq_true rfl) ?_
  refine lv_astore (lv' := [(4, .ref ((xb + 10) + (4 + 2 * k))), (0, .ref xb), (1, .int (nI k)), (2, .int y), (3, .int z)]) hx hb dX10_give_5 hl (by decide) rfl (fun ls hl => ?_)
  refine lv_aload_n hx hb dX10_give_7 rfl (lv_at hl 1 rfl) ?_
  refine lv_iload_n hx hb dX10_give_8 rfl (lv_at hl 3 rfl) ?_
  exact mx_runV (C := RX10) (n := 1) (As := [.int y]) (rest := []) rfl kw_588 kw_1 kw_585 kw_587 kp_15 (by decide +kernel)  hB hZ9 (x_X10_existingCloth l g H0 bs xb (zOf q) P y hCi.1 hS1 (hx1) hfl hbs) hCi.1 rfl hl.1 (Nat.le_of_ble_eq_true rfl) dX10_give_9 ⟨Nat.le_of_ble_eq_true rfl, Nat.le_of_ble_eq_true rfl⟩ ⟨Nat.le_of_ble_eq_true rfl, Nat.le_of_ble_eq_true rfl⟩ hS (by have hz9 := hS.1; rintro q (h | h) <;> first | exact h.elim | exact Or.inr (by omega)) (fun q9 H1 locs1 ce hp9 hfr9 hS9 hce hcv hcl => mx_out hT9 hB hce hcv hcl hS9 ⟨Nat.le_of_ble_eq_true rfl, Nat.le_of_ble_eq_true rfl⟩ trivial)

def rm_fx_X10_give_t2 : Room := { frames := 8, cells := 1, slots := 6, locals := 123 }
set_option maxRecDepth 100000 in
set_option maxHeartbeats 400000 in
theorem fx_X10_give_t2 (l : Launch) (g : GG) (H0 : Heap) (bs : Nat) (xb : Nat) (lim : Nat) (q : Nat → Int32) (n : Nat) (rm : Nat → Int32) (sl : Nat → Int32) (sv : Nat → Int32) (tx : Nat → Int32) (ln : Nat) (k : Nat) (c0 : Nat) (z : Int32) (hC : CLS g xb lim q n rm sl sv tx ln H0) (hk : k < nmQ q) (hc : c0 < 6) (hx1 : inL z.toInt64 1 99 = false) (hfl : l.stackTraces = false) (hbs : bs ≤ H0.size) : CtX l yX10_give cX10_give 6 (some .int) rm_fx_X10_give_t2 g bs [.ref xb, .int (nI k), .int (nI c0), .int z] H0 (ftA (fun _ => False) H0.size) XE1 (fun _ => True) := by
  refine CtX.of (by decide) (fun _ h => Or.inr h) (Nat.le_of_ble_eq_true rfl) ?_
  intro p e s m below meth c ls hB hZ9 hT9 hS hH hl
  have hx := hB.x
  have hb := hB.b
  have hl : lv_has ls 6 [(0, .ref xb), (1, .int (nI k)), (2, .int (nI c0)), (3, .int z)] := hl
  obtain ⟨D, P, T, Zr, Pr, zt, Pt, nx, hCi⟩ := hC
  have hS1 := hCi.2.2.1
  have hPT := hCi.2.2.2.1
  have hD : ∀ q9, xb + 10 ≤ q9 → q9 < xb + 10 + 26 → D q9 := fun q9 h1 h2 => hCi.2.2.2.2.2.2.2.2.2.2.2.2.1 q9 (by omega) (Nat.lt_of_lt_of_le (show q9 < xb + 68 by omega) hCi.2.2.2.2.2.2.2.2.2.2.2.2.2.2.2.2.1)
  have hW : WF q := hCi.2.2.2.2.2.2.2.2.2.2.2.2.2.2.1
  have hZ : WZ q := hCi.2.2.2.2.2.2.2.2.2.2.2.2.2.2.2.1
  have hnm5 := hW.2.2.1
  have hz0 : (zOf q) 0 = nI (nmQ q) := by rw [zOf_lo (by omega), hW.1]
  refine lv_aload_n hx hb dX10_give_0 rfl (lv_at hl 0 rfl) ?_
  refine lv_iload_n hx hb dX10_give_1 rfl (lv_at hl 1 rfl) ?_
  refine cl_X10_91 (As := [.int (nI k)]) (rest := []) hB (c_X10_existingMember l g H0 xb (zOf q) P k (nmQ q) hCi.1 hS1 (by first | assumption | omega) (hz0) (hnm5)) hCi.1 rfl hl.1 (Nat.le_of_ble_eq_true rfl) dX10_give_2 ⟨Nat.le_of_ble_eq_true rfl, Nat.le_of_ble_eq_true rfl⟩ ⟨Nat.le_of_ble_eq_true rfl, Nat.le_of_ble_eq_true rfl⟩ hS (by have hz9 := hS.1; rintro q (h | h) <;> first | exact Or.inr (by omega) | exact h.elim | exact Or.inl h | (simp only [ftA] at h ⊢; omega)) (fun v H1 locs hpo hfr hS => ?_)
  obtain ⟨rfl, rfl⟩ := hpo
  refine W.widen (k := 0) (n := 0) (Nat.le_of_ble_eq_true rfl) (Nat.le_of_ble_eq_true rfl) ?_
  refine lv_astore (lv' := [(4, .ref ((xb + 10) + (4 + 2 * k))), (0, .ref xb), (1, .int (nI k)), (2, .int (nI c0)), (3, .int z)]) hx hb dX10_give_5 hl (by decide) rfl (fun ls hl => ?_)
  refine lv_aload_n hx hb dX10_give_7 rfl (lv_at hl 1 rfl) ?_
  refine lv_iload_n hx hb dX10_give_8 rfl (lv_at hl 3 rfl) ?_
  refine cl_X10_116 (As := [.int (nI c0)]) (rest := []) hB (c_X10_existingCloth l g H0 xb (zOf q) P c0 hCi.1 hS1 (by first | assumption | omega)) hCi.1 rfl hl.1 (Nat.le_of_ble_eq_true rfl) dX10_give_9 ⟨Nat.le_of_ble_eq_true rfl, Nat.le_of_ble_eq_true rfl⟩ ⟨Nat.le_of_ble_eq_true rfl, Nat.le_of_ble_eq_true rfl⟩ hS (by have hz9 := hS.1; rintro q (h | h) <;> first | exact Or.inr (by omega) | exact h.elim | exact Or.inl h | (simp only [ftA] at h ⊢; omega)) (fun v H1 locs hpo hfr hS => ?_)
  obtain ⟨rfl, rfl⟩ := hpo
  refine W.widen (k := 0) (n := 0) (Nat.le_of_ble_eq_true rfl) (Nat.le_of_ble_eq_true rfl) ?_
  refine lv_astore (lv' := [(5, .ref ((xb + 10) + (14 + c0))), (4, .ref ((xb + 10) + (4 + 2 * k))), (0, .ref xb), (1, .int (nI k)), (2, .int (nI c0)), (3, .int z)]) hx hb dX10_give_12 hl (by decide) rfl (fun ls hl => ?_)
  refine lv_iload_n hx hb dX10_give_14 rfl (lv_at hl 5 rfl) ?_
  refine lv_iconst (v := nI 1) hx hb dX10_give_15 (by decide) ?_
  refine lv_bipush (v := nI 99) hx hb dX10_give_16 (by decide) ?_
  exact mx_runS (n := 3) (As := [.int z, .int (nI 1), .int (nI 99)]) (rest := []) kw_442 kw_1 kw_440 kw_441 (by decide +kernel)  hB hZ9 (x_X10_requireRange l g H0 bs z 1 99 (rng_inL (b := 99) (by omega) 99 rfl hx1) hfl hbs) rfl hl.1 (Nat.le_of_ble_eq_true rfl) dX10_give_18 ⟨Nat.le_of_ble_eq_true rfl, Nat.le_of_ble_eq_true rfl⟩ ⟨Nat.le_of_ble_eq_true rfl, Nat.le_of_ble_eq_true rfl⟩ hS (by have hz9 := hS.1; rintro q (h | h) <;> first | exact h.elim | exact Or.inr (by omega)) (fun q9 H1 locs1 ce hp9 hfr9 hS9 hce hcv hcl => mx_out hT9 hB hce hcv hcl hS9 ⟨Nat.le_of_ble_eq_true rfl, Nat.le_of_ble_eq_true rfl⟩ trivial)

def rm_fx_X10_recolour_t1 : Room := { frames := 7, cells := 1, slots := 6, locals := 103 }
set_option maxRecDepth 100000 in
set_option maxHeartbeats 400000 in
theorem fx_X10_recolour_t1 (l : Launch) (g : GG) (H0 : Heap) (bs : Nat) (xb : Nat) (lim : Nat) (q : Nat → Int32) (n : Nat) (rm : Nat → Int32) (sl : Nat → Int32) (sv : Nat → Int32) (tx : Nat → Int32) (ln : Nat) (x : Int32) (y : Int32) (z : Int32) (hC : CLS g xb lim q n rm sl sv tx ln H0) (hx1 : isIx x 3 = false) (hfl : l.stackTraces = false) (hbs : bs ≤ H0.size) : CtX l yX10_recolour cX10_recolour 5 (some .int) rm_fx_X10_recolour_t1 g bs [.ref xb, .int x, .int y, .int z] H0 (ftA (fun _ => False) H0.size) XE3 (fun _ => True) := by
  refine CtX.of (by decide) (fun _ h => Or.inr h) (Nat.le_of_ble_eq_true rfl) ?_
  intro p e s m below meth c ls hB hZ9 hT9 hS hH hl
  have hx := hB.x
  have hb := hB.b
  have hl : lv_has ls 5 [(0, .ref xb), (1, .int x), (2, .int y), (3, .int z)] := hl
  obtain ⟨D, P, T, Zr, Pr, zt, Pt, nx, hCi⟩ := hC
  have hS1 := hCi.2.2.1
  have hPT := hCi.2.2.2.1
  have hD : ∀ q9, xb + 10 ≤ q9 → q9 < xb + 10 + 26 → D q9 := fun q9 h1 h2 => hCi.2.2.2.2.2.2.2.2.2.2.2.2.1 q9 (by omega) (Nat.lt_of_lt_of_le (show q9 < xb + 68 by omega) hCi.2.2.2.2.2.2.2.2.2.2.2.2.2.2.2.2.1)
  have hW : WF q := hCi.2.2.2.2.2.2.2.2.2.2.2.2.2.2.1
  have hZ : WZ q := hCi.2.2.2.2.2.2.2.2.2.2.2.2.2.2.2.1
  have hnm5 := hW.2.2.1
  have hz0 : (zOf q) 0 = nI (nmQ q) := by rw [zOf_lo (by omega), hW.1]
  refine lv_aload_n hx hb dX10_recolour_0 rfl (lv_at hl 0 rfl) ?_
  refine lv_iload_n hx hb dX10_recolour_1 rfl (lv_at hl 1 rfl) ?_
  exact mx_runV (C := RX10) (n := 1) (As := [.int x]) (rest := []) rfl kw_601 kw_1 kw_598 kw_600 kp_16 (by decide +kernel)  hB hZ9 (x_X10_existingFrame l g H0 bs xb (zOf q) P x hCi.1 hS1 (hx1) hfl hbs) hCi.1 rfl hl.1 (Nat.le_of_ble_eq_true rfl) dX10_recolour_2 ⟨Nat.le_of_ble_eq_true rfl, Nat.le_of_ble_eq_true rfl⟩ ⟨Nat.le_of_ble_eq_true rfl, Nat.le_of_ble_eq_true rfl⟩ hS (by have hz9 := hS.1; rintro q (h | h) <;> first | exact h.elim | exact Or.inr (by omega)) (fun q9 H1 locs1 ce hp9 hfr9 hS9 hce hcv hcl => mx_out hT9 hB hce hcv hcl hS9 ⟨Nat.le_of_ble_eq_true rfl, Nat.le_of_ble_eq_true rfl⟩ trivial)

def rm_fx_X10_recolour_t1b : Room := { frames := 7, cells := 1, slots := 6, locals := 103 }
set_option maxRecDepth 100000 in
set_option maxHeartbeats 400000 in
theorem fx_X10_recolour_t1b (l : Launch) (g : GG) (H0 : Heap) (bs : Nat) (xb : Nat) (lim : Nat) (q : Nat → Int32) (n : Nat) (rm : Nat → Int32) (sl : Nat → Int32) (sv : Nat → Int32) (tx : Nat → Int32) (ln : Nat) (f : Nat) (y : Int32) (z : Int32) (hC : CLS g xb lim q n rm sl sv tx ln H0) (hf : f < 3) (hx1 : isIx y 6 = false) (hfl : l.stackTraces = false) (hbs : bs ≤ H0.size) : CtX l yX10_recolour cX10_recolour 5 (some .int) rm_fx_X10_recolour_t1b g bs [.ref xb, .int (nI f), .int y, .int z] H0 (ftA (fun _ => False) H0.size) XE3 (fun _ => True) := by
  refine CtX.of (by decide) (fun _ h => Or.inr h) (Nat.le_of_ble_eq_true rfl) ?_
  intro p e s m below meth c ls hB hZ9 hT9 hS hH hl
  have hx := hB.x
  have hb := hB.b
  have hl : lv_has ls 5 [(0, .ref xb), (1, .int (nI f)), (2, .int y), (3, .int z)] := hl
  obtain ⟨D, P, T, Zr, Pr, zt, Pt, nx, hCi⟩ := hC
  have hS1 := hCi.2.2.1
  have hPT := hCi.2.2.2.1
  have hD : ∀ q9, xb + 10 ≤ q9 → q9 < xb + 10 + 26 → D q9 := fun q9 h1 h2 => hCi.2.2.2.2.2.2.2.2.2.2.2.2.1 q9 (by omega) (Nat.lt_of_lt_of_le (show q9 < xb + 68 by omega) hCi.2.2.2.2.2.2.2.2.2.2.2.2.2.2.2.2.1)
  have hW : WF q := hCi.2.2.2.2.2.2.2.2.2.2.2.2.2.2.1
  have hZ : WZ q := hCi.2.2.2.2.2.2.2.2.2.2.2.2.2.2.2.1
  have hnm5 := hW.2.2.1
  have hz0 : (zOf q) 0 = nI (nmQ q) := by rw [zOf_lo (by omega), hW.1]
  refine lv_aload_n hx hb dX10_recolour_0 rfl (lv_at hl 0 rfl) ?_
  refine lv_iload_n hx hb dX10_recolour_1 rfl (lv_at hl 1 rfl) ?_
  refine cl_X10_123 (As := [.int (nI f)]) (rest := []) hB (c_X10_existingFrame l g H0 xb (zOf q) P f hCi.1 hS1 (by first | assumption | omega)) hCi.1 rfl hl.1 (Nat.le_of_ble_eq_true rfl) dX10_recolour_2 ⟨Nat.le_of_ble_eq_true rfl, Nat.le_of_ble_eq_true rfl⟩ ⟨Nat.le_of_ble_eq_true rfl, Nat.le_of_ble_eq_true rfl⟩ hS (by have hz9 := hS.1; rintro q (h | h) <;> first | exact Or.inr (by omega) | exact h.elim | exact Or.inl h | (simp only [ftA] at h ⊢; omega)) (fun v H1 locs hpo hfr hS => ?_)
  obtain ⟨rfl, rfl⟩ := hpo
  refine W.widen (k := 0) (n := 0) (Nat.le_of_ble_eq_true rfl) (Nat.le_of_ble_eq_true rfl) ?_
  refine lv_astore (lv' := [(4, .ref ((xb + 10) + (20 + 2 * f))), (0, .ref xb), (1, .int (nI f)), (2, .int y), (3, .int z)]) hx hb dX10_recolour_5 hl (by decide) rfl (fun ls hl => ?_)
  refine lv_aload_n hx hb dX10_recolour_7 rfl (lv_at hl 1 rfl) ?_
  refine lv_iload_n hx hb dX10_recolour_8 rfl (lv_at hl 3 rfl) ?_
  exact mx_runV (C := RX10) (n := 1) (As := [.int y]) (rest := []) rfl kw_588 kw_1 kw_585 kw_587 kp_15 (by decide +kernel)  hB hZ9 (x_X10_existingCloth l g H0 bs xb (zOf q) P y hCi.1 hS1 (hx1) hfl hbs) hCi.1 rfl hl.1 (Nat.le_of_ble_eq_true rfl) dX10_recolour_9 ⟨Nat.le_of_ble_eq_true rfl, Nat.le_of_ble_eq_true rfl⟩ ⟨Nat.le_of_ble_eq_true rfl, Nat.le_of_ble_eq_true rfl⟩ hS (by have hz9 := hS.1; rintro q (h | h) <;> first | exact h.elim | exact Or.inr (by omega)) (fun q9 H1 locs1 ce hp9 hfr9 hS9 hce hcv hcl => mx_out hT9 hB hce hcv hcl hS9 ⟨Nat.le_of_ble_eq_true rfl, Nat.le_of_ble_eq_true rfl⟩ trivial)

def rm_fx_X10_recolour_t1c : Room := { frames := 7, cells := 1, slots := 6, locals := 103 }
set_option maxRecDepth 100000 in
set_option maxHeartbeats 400000 in
theorem fx_X10_recolour_t1c (l : Launch) (g : GG) (H0 : Heap) (bs : Nat) (xb : Nat) (lim : Nat) (q : Nat → Int32) (n : Nat) (rm : Nat → Int32) (sl : Nat → Int32) (sv : Nat → Int32) (tx : Nat → Int32) (ln : Nat) (f : Nat) (c0 : Nat) (z : Int32) (hC : CLS g xb lim q n rm sl sv tx ln H0) (hf : f < 3) (hc : c0 < 6) (hx1 : isIx z 6 = false) (hfl : l.stackTraces = false) (hbs : bs ≤ H0.size) : CtX l yX10_recolour cX10_recolour 5 (some .int) rm_fx_X10_recolour_t1c g bs [.ref xb, .int (nI f), .int (nI c0), .int z] H0 (ftA (fun _ => False) H0.size) XE3 (fun _ => True) := by
  refine CtX.of (by decide) (fun _ h => Or.inr h) (Nat.le_of_ble_eq_true rfl) ?_
  intro p e s m below meth c ls hB hZ9 hT9 hS hH hl
  have hx := hB.x
  have hb := hB.b
  have hl : lv_has ls 5 [(0, .ref xb), (1, .int (nI f)), (2, .int (nI c0)), (3, .int z)] := hl
  obtain ⟨D, P, T, Zr, Pr, zt, Pt, nx, hCi⟩ := hC
  have hS1 := hCi.2.2.1
  have hPT := hCi.2.2.2.1
  have hD : ∀ q9, xb + 10 ≤ q9 → q9 < xb + 10 + 26 → D q9 := fun q9 h1 h2 => hCi.2.2.2.2.2.2.2.2.2.2.2.2.1 q9 (by omega) (Nat.lt_of_lt_of_le (show q9 < xb + 68 by omega) hCi.2.2.2.2.2.2.2.2.2.2.2.2.2.2.2.2.1)
  have hW : WF q := hCi.2.2.2.2.2.2.2.2.2.2.2.2.2.2.1
  have hZ : WZ q := hCi.2.2.2.2.2.2.2.2.2.2.2.2.2.2.2.1
  have hnm5 := hW.2.2.1
  have hz0 : (zOf q) 0 = nI (nmQ q) := by rw [zOf_lo (by omega), hW.1]
  refine lv_aload_n hx hb dX10_recolour_0 rfl (lv_at hl 0 rfl) ?_
  refine lv_iload_n hx hb dX10_recolour_1 rfl (lv_at hl 1 rfl) ?_
  refine cl_X10_123 (As := [.int (nI f)]) (rest := []) hB (c_X10_existingFrame l g H0 xb (zOf q) P f hCi.1 hS1 (by first | assumption | omega)) hCi.1 rfl hl.1 (Nat.le_of_ble_eq_true rfl) dX10_recolour_2 ⟨Nat.le_of_ble_eq_true rfl, Nat.le_of_ble_eq_true rfl⟩ ⟨Nat.le_of_ble_eq_true rfl, Nat.le_of_ble_eq_true rfl⟩ hS (by have hz9 := hS.1; rintro q (h | h) <;> first | exact Or.inr (by omega) | exact h.elim | exact Or.inl h | (simp only [ftA] at h ⊢; omega)) (fun v H1 locs hpo hfr hS => ?_)
  obtain ⟨rfl, rfl⟩ := hpo
  refine W.widen (k := 0) (n := 0) (Nat.le_of_ble_eq_true rfl) (Nat.le_of_ble_eq_true rfl) ?_
  refine lv_astore (lv' := [(4, .ref ((xb + 10) + (20 + 2 * f))), (0, .ref xb), (1, .int (nI f)), (2, .int (nI c0)), (3, .int z)]) hx hb dX10_recolour_5 hl (by decide) rfl (fun ls hl => ?_)
  refine lv_aload_n hx hb dX10_recolour_7 rfl (lv_at hl 1 rfl) ?_
  refine lv_iload_n hx hb dX10_recolour_8 rfl (lv_at hl 3 rfl) ?_
  refine cl_X10_116 (As := [.int (nI c0)]) (rest := []) hB (c_X10_existingCloth l g H0 xb (zOf q) P c0 hCi.1 hS1 (by first | assumption | omega)) hCi.1 rfl hl.1 (Nat.le_of_ble_eq_true rfl) dX10_recolour_9 ⟨Nat.le_of_ble_eq_true rfl, Nat.le_of_ble_eq_true rfl⟩ ⟨Nat.le_of_ble_eq_true rfl, Nat.le_of_ble_eq_true rfl⟩ hS (by have hz9 := hS.1; rintro q (h | h) <;> first | exact Or.inr (by omega) | exact h.elim | exact Or.inl h | (simp only [ftA] at h ⊢; omega)) (fun v H1 locs hpo hfr hS => ?_)
  obtain ⟨rfl, rfl⟩ := hpo
  refine W.widen (k := 0) (n := 0) (Nat.le_of_ble_eq_true rfl) (Nat.le_of_ble_eq_true rfl) ?_
  refine lv_pop hx hb dX10_recolour_12 rfl ?_
  refine lv_aload_n hx hb dX10_recolour_13 rfl (lv_at hl 1 rfl) ?_
  refine lv_iload_n hx hb dX10_recolour_14 rfl (lv_at hl 4 rfl) ?_
  exact mx_runV (C := RX10) (n := 1) (As := [.int z]) (rest := []) rfl kw_588 kw_1 kw_585 kw_587 kp_15 (by decide +kernel)  hB hZ9 (x_X10_existingCloth l g H0 bs xb (zOf q) P z hCi.1 hS1 (hx1) hfl hbs) hCi.1 rfl hl.1 (Nat.le_of_ble_eq_true rfl) dX10_recolour_15 ⟨Nat.le_of_ble_eq_true rfl, Nat.le_of_ble_eq_true rfl⟩ ⟨Nat.le_of_ble_eq_true rfl, Nat.le_of_ble_eq_true rfl⟩ hS (by have hz9 := hS.1; rintro q (h | h) <;> first | exact h.elim | exact Or.inr (by omega)) (fun q9 H1 locs1 ce hp9 hfr9 hS9 hce hcv hcl => mx_out hT9 hB hce hcv hcl hS9 ⟨Nat.le_of_ble_eq_true rfl, Nat.le_of_ble_eq_true rfl⟩ trivial)

def rm_fx_X10_recolour_t2 : Room := { frames := 7, cells := 1, slots := 6, locals := 101 }
set_option maxRecDepth 100000 in
set_option maxHeartbeats 400000 in
theorem fx_X10_recolour_t2 (l : Launch) (g : GG) (H0 : Heap) (bs : Nat) (xb : Nat) (lim : Nat) (q : Nat → Int32) (n : Nat) (rm : Nat → Int32) (sl : Nat → Int32) (sv : Nat → Int32) (tx : Nat → Int32) (ln : Nat) (f : Nat) (a0 : Nat) (b0 : Nat) (hC : CLS g xb lim q n rm sl sv tx ln H0) (hf : f < 3) (ha : a0 < 6) (hb8 : b0 < 6) (hs0 : ¬ (0 < szF q f ∧ swF q f = 0)) (hfl : l.stackTraces = false) (hbs : bs ≤ H0.size) : CtX l yX10_recolour cX10_recolour 5 (some .int) rm_fx_X10_recolour_t2 g bs [.ref xb, .int (nI f), .int (nI a0), .int (nI b0)] H0 (ftA (fun _ => False) H0.size) XE2 (fun _ => True) := by
  refine CtX.of (by decide) (fun _ h => Or.inr h) (Nat.le_of_ble_eq_true rfl) ?_
  intro p e s m below meth c ls hB hZ9 hT9 hS hH hl
  have hx := hB.x
  have hb := hB.b
  have hl : lv_has ls 5 [(0, .ref xb), (1, .int (nI f)), (2, .int (nI a0)), (3, .int (nI b0))] := hl
  obtain ⟨D, P, T, Zr, Pr, zt, Pt, nx, hCi⟩ := hC
  have hS1 := hCi.2.2.1
  have hPT := hCi.2.2.2.1
  have hD : ∀ q9, xb + 10 ≤ q9 → q9 < xb + 10 + 26 → D q9 := fun q9 h1 h2 => hCi.2.2.2.2.2.2.2.2.2.2.2.2.1 q9 (by omega) (Nat.lt_of_lt_of_le (show q9 < xb + 68 by omega) hCi.2.2.2.2.2.2.2.2.2.2.2.2.2.2.2.2.1)
  have hW : WF q := hCi.2.2.2.2.2.2.2.2.2.2.2.2.2.2.1
  have hZ : WZ q := hCi.2.2.2.2.2.2.2.2.2.2.2.2.2.2.2.1
  have hnm5 := hW.2.2.1
  have hz0 : (zOf q) 0 = nI (nmQ q) := by rw [zOf_lo (by omega), hW.1]
  refine lv_aload_n hx hb dX10_recolour_0 rfl (lv_at hl 0 rfl) ?_
  refine lv_iload_n hx hb dX10_recolour_1 rfl (lv_at hl 1 rfl) ?_
  refine cl_X10_123 (As := [.int (nI f)]) (rest := []) hB (c_X10_existingFrame l g H0 xb (zOf q) P f hCi.1 hS1 (by first | assumption | omega)) hCi.1 rfl hl.1 (Nat.le_of_ble_eq_true rfl) dX10_recolour_2 ⟨Nat.le_of_ble_eq_true rfl, Nat.le_of_ble_eq_true rfl⟩ ⟨Nat.le_of_ble_eq_true rfl, Nat.le_of_ble_eq_true rfl⟩ hS (by have hz9 := hS.1; rintro q (h | h) <;> first | exact Or.inr (by omega) | exact h.elim | exact Or.inl h | (simp only [ftA] at h ⊢; omega)) (fun v H1 locs hpo hfr hS => ?_)
  obtain ⟨rfl, rfl⟩ := hpo
  refine W.widen (k := 0) (n := 0) (Nat.le_of_ble_eq_true rfl) (Nat.le_of_ble_eq_true rfl) ?_
  refine lv_astore (lv' := [(4, .ref ((xb + 10) + (20 + 2 * f))), (0, .ref xb), (1, .int (nI f)), (2, .int (nI a0)), (3, .int (nI b0))]) hx hb dX10_recolour_5 hl (by decide) rfl (fun ls hl => ?_)
  refine lv_aload_n hx hb dX10_recolour_7 rfl (lv_at hl 1 rfl) ?_
  refine lv_iload_n hx hb dX10_recolour_8 rfl (lv_at hl 3 rfl) ?_
  refine cl_X10_116 (As := [.int (nI a0)]) (rest := []) hB (c_X10_existingCloth l g H0 xb (zOf q) P a0 hCi.1 hS1 (by first | assumption | omega)) hCi.1 rfl hl.1 (Nat.le_of_ble_eq_true rfl) dX10_recolour_9 ⟨Nat.le_of_ble_eq_true rfl, Nat.le_of_ble_eq_true rfl⟩ ⟨Nat.le_of_ble_eq_true rfl, Nat.le_of_ble_eq_true rfl⟩ hS (by have hz9 := hS.1; rintro q (h | h) <;> first | exact Or.inr (by omega) | exact h.elim | exact Or.inl h | (simp only [ftA] at h ⊢; omega)) (fun v H1 locs hpo hfr hS => ?_)
  obtain ⟨rfl, rfl⟩ := hpo
  refine W.widen (k := 0) (n := 0) (Nat.le_of_ble_eq_true rfl) (Nat.le_of_ble_eq_true rfl) ?_
  refine lv_pop hx hb dX10_recolour_12 rfl ?_
  refine lv_aload_n hx hb dX10_recolour_13 rfl (lv_at hl 1 rfl) ?_
  refine lv_iload_n hx hb dX10_recolour_14 rfl (lv_at hl 4 rfl) ?_
  refine cl_X10_116 (As := [.int (nI b0)]) (rest := []) hB (c_X10_existingCloth l g H0 xb (zOf q) P b0 hCi.1 hS1 (by first | assumption | omega)) hCi.1 rfl hl.1 (Nat.le_of_ble_eq_true rfl) dX10_recolour_15 ⟨Nat.le_of_ble_eq_true rfl, Nat.le_of_ble_eq_true rfl⟩ ⟨Nat.le_of_ble_eq_true rfl, Nat.le_of_ble_eq_true rfl⟩ hS (by have hz9 := hS.1; rintro q (h | h) <;> first | exact Or.inr (by omega) | exact h.elim | exact Or.inl h | (simp only [ftA] at h ⊢; omega)) (fun v H1 locs hpo hfr hS => ?_)
  obtain ⟨rfl, rfl⟩ := hpo
  refine W.widen (k := 0) (n := 0) (Nat.le_of_ble_eq_true rfl) (Nat.le_of_ble_eq_true rfl) ?_
  refine lv_pop hx hb dX10_recolour_18 rfl ?_
  refine lv_aload hx hb dX10_recolour_19 (lv_at hl 0 rfl) ?_
  refine cl_X10_198 (As := []) (rest := []) hB (c_X1_canBeRecoloured l g H0 (xb + 10) (zOf q) P D q f (swF q f) hS1 hPT (by first | assumption | omega) (by rw [zOf_fS hf, (hW.fr hf).s]) (WF.sw (hW.fr hf)) (WF.sz (hW.fr hf))) (hS1.of (k := f) (by omega)) rfl hl.1 (Nat.le_of_ble_eq_true rfl) dX10_recolour_21 ⟨Nat.le_of_ble_eq_true rfl, Nat.le_of_ble_eq_true rfl⟩ ⟨Nat.le_of_ble_eq_true rfl, Nat.le_of_ble_eq_true rfl⟩ hS (by have hz9 := hS.1; rintro q (h | h) <;> first | exact Or.inr (by omega) | exact h.elim | exact Or.inl h | (simp only [ftA] at h ⊢; omega)) (fun v H1 locs hpo hfr hS => ?_)
  obtain ⟨rfl, rfl⟩ := hpo
  refine W.widen (k := 0) (n := 0) (Nat.le_of_ble_eq_true rfl) (Nat.le_of_ble_eq_true rfl) ?_
  refine mh_top (y := .int (nI 0)) (by rw [decide_eq_false (by omega)]; rfl) ?_
  exact mx_runS (n := 1) (As := [.int (nI 0)]) (rest := []) kw_515 kw_1 kw_513 kw_514 (by decide +kernel)  hB hZ9 (x_X10_requireState l g H0 bs  hfl hbs) rfl hl.1 (Nat.le_of_ble_eq_true rfl) dX10_recolour_24 ⟨Nat.le_of_ble_eq_true rfl, Nat.le_of_ble_eq_true rfl⟩ ⟨Nat.le_of_ble_eq_true rfl, Nat.le_of_ble_eq_true rfl⟩ hS (by have hz9 := hS.1; rintro q (h | h) <;> first | exact h.elim | exact Or.inr (by omega)) (fun q9 H1 locs1 ce hp9 hfr9 hS9 hce hcv hcl => mx_out hT9 hB hce hcv hcl hS9 ⟨Nat.le_of_ble_eq_true rfl, Nat.le_of_ble_eq_true rfl⟩ trivial)

def rm_fx_X10_sew_t1 : Room := { frames := 7, cells := 1, slots := 6, locals := 103 }
set_option maxRecDepth 100000 in
set_option maxHeartbeats 400000 in
theorem fx_X10_sew_t1 (l : Launch) (g : GG) (H0 : Heap) (bs : Nat) (xb : Nat) (lim : Nat) (q : Nat → Int32) (n : Nat) (rm : Nat → Int32) (sl : Nat → Int32) (sv : Nat → Int32) (tx : Nat → Int32) (ln : Nat) (x : Int32) (y : Int32) (hC : CLS g xb lim q n rm sl sv tx ln H0) (hx1 : isIx x 3 = false) (hfl : l.stackTraces = false) (hbs : bs ≤ H0.size) : CtX l yX10_sew cX10_sew 4 (some .int) rm_fx_X10_sew_t1 g bs [.ref xb, .int x, .int y] H0 (ftA (fun _ => False) H0.size) XE3 (fun _ => True) := by
  refine CtX.of (by decide) (fun _ h => Or.inr h) (Nat.le_of_ble_eq_true rfl) ?_
  intro p e s m below meth c ls hB hZ9 hT9 hS hH hl
  have hx := hB.x
  have hb := hB.b
  have hl : lv_has ls 4 [(0, .ref xb), (1, .int x), (2, .int y)] := hl
  obtain ⟨D, P, T, Zr, Pr, zt, Pt, nx, hCi⟩ := hC
  have hS1 := hCi.2.2.1
  have hPT := hCi.2.2.2.1
  have hD : ∀ q9, xb + 10 ≤ q9 → q9 < xb + 10 + 26 → D q9 := fun q9 h1 h2 => hCi.2.2.2.2.2.2.2.2.2.2.2.2.1 q9 (by omega) (Nat.lt_of_lt_of_le (show q9 < xb + 68 by omega) hCi.2.2.2.2.2.2.2.2.2.2.2.2.2.2.2.2.1)
  have hW : WF q := hCi.2.2.2.2.2.2.2.2.2.2.2.2.2.2.1
  have hZ : WZ q := hCi.2.2.2.2.2.2.2.2.2.2.2.2.2.2.2.1
  have hnm5 := hW.2.2.1
  have hz0 : (zOf q) 0 = nI (nmQ q) := by rw [zOf_lo (by omega), hW.1]
  refine lv_aload_n hx hb dX10_sew_0 rfl (lv_at hl 0 rfl) ?_
  refine lv_iload_n hx hb dX10_sew_1 rfl (lv_at hl 1 rfl) ?_
  exact mx_runV (C := RX10) (n := 1) (As := [.int x]) (rest := []) rfl kw_601 kw_1 kw_598 kw_600 kp_16 (by decide +kernel)  hB hZ9 (x_X10_existingFrame l g H0 bs xb (zOf q) P x hCi.1 hS1 (hx1) hfl hbs) hCi.1 rfl hl.1 (Nat.le_of_ble_eq_true rfl) dX10_sew_2 ⟨Nat.le_of_ble_eq_true rfl, Nat.le_of_ble_eq_true rfl⟩ ⟨Nat.le_of_ble_eq_true rfl, Nat.le_of_ble_eq_true rfl⟩ hS (by have hz9 := hS.1; rintro q (h | h) <;> first | exact h.elim | exact Or.inr (by omega)) (fun q9 H1 locs1 ce hp9 hfr9 hS9 hce hcv hcl => mx_out hT9 hB hce hcv hcl hS9 ⟨Nat.le_of_ble_eq_true rfl, Nat.le_of_ble_eq_true rfl⟩ trivial)

def rm_fx_X10_sew_t2 : Room := { frames := 8, cells := 1, slots := 6, locals := 123 }
set_option maxRecDepth 100000 in
set_option maxHeartbeats 400000 in
theorem fx_X10_sew_t2 (l : Launch) (g : GG) (H0 : Heap) (bs : Nat) (xb : Nat) (lim : Nat) (q : Nat → Int32) (n : Nat) (rm : Nat → Int32) (sl : Nat → Int32) (sv : Nat → Int32) (tx : Nat → Int32) (ln : Nat) (f : Nat) (y : Int32) (hC : CLS g xb lim q n rm sl sv tx ln H0) (hf : f < 3) (hx1 : inL y.toInt64 1 99 = false) (hfl : l.stackTraces = false) (hbs : bs ≤ H0.size) : CtX l yX10_sew cX10_sew 4 (some .int) rm_fx_X10_sew_t2 g bs [.ref xb, .int (nI f), .int y] H0 (ftA (fun _ => False) H0.size) XE1 (fun _ => True) := by
  refine CtX.of (by decide) (fun _ h => Or.inr h) (Nat.le_of_ble_eq_true rfl) ?_
  intro p e s m below meth c ls hB hZ9 hT9 hS hH hl
  have hx := hB.x
  have hb := hB.b
  have hl : lv_has ls 4 [(0, .ref xb), (1, .int (nI f)), (2, .int y)] := hl
  obtain ⟨D, P, T, Zr, Pr, zt, Pt, nx, hCi⟩ := hC
  have hS1 := hCi.2.2.1
  have hPT := hCi.2.2.2.1
  have hD : ∀ q9, xb + 10 ≤ q9 → q9 < xb + 10 + 26 → D q9 := fun q9 h1 h2 => hCi.2.2.2.2.2.2.2.2.2.2.2.2.1 q9 (by omega) (Nat.lt_of_lt_of_le (show q9 < xb + 68 by omega) hCi.2.2.2.2.2.2.2.2.2.2.2.2.2.2.2.2.1)
  have hW : WF q := hCi.2.2.2.2.2.2.2.2.2.2.2.2.2.2.1
  have hZ : WZ q := hCi.2.2.2.2.2.2.2.2.2.2.2.2.2.2.2.1
  have hnm5 := hW.2.2.1
  have hz0 : (zOf q) 0 = nI (nmQ q) := by rw [zOf_lo (by omega), hW.1]
  refine lv_aload_n hx hb dX10_sew_0 rfl (lv_at hl 0 rfl) ?_
  refine lv_iload_n hx hb dX10_sew_1 rfl (lv_at hl 1 rfl) ?_
  refine cl_X10_123 (As := [.int (nI f)]) (rest := []) hB (c_X10_existingFrame l g H0 xb (zOf q) P f hCi.1 hS1 (by first | assumption | omega)) hCi.1 rfl hl.1 (Nat.le_of_ble_eq_true rfl) dX10_sew_2 ⟨Nat.le_of_ble_eq_true rfl, Nat.le_of_ble_eq_true rfl⟩ ⟨Nat.le_of_ble_eq_true rfl, Nat.le_of_ble_eq_true rfl⟩ hS (by have hz9 := hS.1; rintro q (h | h) <;> first | exact Or.inr (by omega) | exact h.elim | exact Or.inl h | (simp only [ftA] at h ⊢; omega)) (fun v H1 locs hpo hfr hS => ?_)
  obtain ⟨rfl, rfl⟩ := hpo
  refine W.widen (k := 0) (n := 0) (Nat.le_of_ble_eq_true rfl) (Nat.le_of_ble_eq_true rfl) ?_
  refine lv_astore_n (lv' := [(3, .ref ((xb + 10) + (20 + 2 * f))), (0, .ref xb), (1, .int (nI f)), (2, .int y)]) hx hb dX10_sew_5 rfl hl (by decide) rfl (fun ls hl => ?_)
  refine lv_iload_n hx hb dX10_sew_6 rfl (lv_at hl 3 rfl) ?_
  refine lv_iconst (v := nI 1) hx hb dX10_sew_7 (by decide) ?_
  refine lv_bipush (v := nI 99) hx hb dX10_sew_8 (by decide) ?_
  exact mx_runS (n := 3) (As := [.int y, .int (nI 1), .int (nI 99)]) (rest := []) kw_442 kw_1 kw_440 kw_441 (by decide +kernel)  hB hZ9 (x_X10_requireRange l g H0 bs y 1 99 (rng_inL (b := 99) (by omega) 99 rfl hx1) hfl hbs) rfl hl.1 (Nat.le_of_ble_eq_true rfl) dX10_sew_10 ⟨Nat.le_of_ble_eq_true rfl, Nat.le_of_ble_eq_true rfl⟩ ⟨Nat.le_of_ble_eq_true rfl, Nat.le_of_ble_eq_true rfl⟩ hS (by have hz9 := hS.1; rintro q (h | h) <;> first | exact h.elim | exact Or.inr (by omega)) (fun q9 H1 locs1 ce hp9 hfr9 hS9 hce hcv hcl => mx_out hT9 hB hce hcv hcl hS9 ⟨Nat.le_of_ble_eq_true rfl, Nat.le_of_ble_eq_true rfl⟩ trivial)

def rm_fx_X10_sew_t3 : Room := { frames := 7, cells := 1, slots := 6, locals := 101 }
set_option maxRecDepth 100000 in
set_option maxHeartbeats 400000 in
theorem fx_X10_sew_t3 (l : Launch) (g : GG) (H0 : Heap) (bs : Nat) (xb : Nat) (lim : Nat) (q : Nat → Int32) (n : Nat) (rm : Nat → Int32) (sl : Nat → Int32) (sv : Nat → Int32) (tx : Nat → Int32) (ln : Nat) (f : Nat) (x : Nat) (hC : CLS g xb lim q n rm sl sv tx ln H0) (hf : f < 3) (hx1 : 0 < x) (hx2 : x < 100) (hs0 : ¬ (0 < szF q f ∧ 0 < nmQ q)) (hfl : l.stackTraces = false) (hbs : bs ≤ H0.size) : CtX l yX10_sew cX10_sew 4 (some .int) rm_fx_X10_sew_t3 g bs [.ref xb, .int (nI f), .int (nI x)] H0 (ftA (fun _ => False) H0.size) XE2 (fun _ => True) := by
  refine CtX.of (by decide) (fun _ h => Or.inr h) (Nat.le_of_ble_eq_true rfl) ?_
  intro p e s m below meth c ls hB hZ9 hT9 hS hH hl
  have hx := hB.x
  have hb := hB.b
  have hl : lv_has ls 4 [(0, .ref xb), (1, .int (nI f)), (2, .int (nI x))] := hl
  obtain ⟨D, P, T, Zr, Pr, zt, Pt, nx, hCi⟩ := hC
  have hS1 := hCi.2.2.1
  have hPT := hCi.2.2.2.1
  have hD : ∀ q9, xb + 10 ≤ q9 → q9 < xb + 10 + 26 → D q9 := fun q9 h1 h2 => hCi.2.2.2.2.2.2.2.2.2.2.2.2.1 q9 (by omega) (Nat.lt_of_lt_of_le (show q9 < xb + 68 by omega) hCi.2.2.2.2.2.2.2.2.2.2.2.2.2.2.2.2.1)
  have hW : WF q := hCi.2.2.2.2.2.2.2.2.2.2.2.2.2.2.1
  have hZ : WZ q := hCi.2.2.2.2.2.2.2.2.2.2.2.2.2.2.2.1
  have hnm5 := hW.2.2.1
  have hz0 : (zOf q) 0 = nI (nmQ q) := by rw [zOf_lo (by omega), hW.1]
  refine lv_aload_n hx hb dX10_sew_0 rfl (lv_at hl 0 rfl) ?_
  refine lv_iload_n hx hb dX10_sew_1 rfl (lv_at hl 1 rfl) ?_
  refine cl_X10_123 (As := [.int (nI f)]) (rest := []) hB (c_X10_existingFrame l g H0 xb (zOf q) P f hCi.1 hS1 (by first | assumption | omega)) hCi.1 rfl hl.1 (Nat.le_of_ble_eq_true rfl) dX10_sew_2 ⟨Nat.le_of_ble_eq_true rfl, Nat.le_of_ble_eq_true rfl⟩ ⟨Nat.le_of_ble_eq_true rfl, Nat.le_of_ble_eq_true rfl⟩ hS (by have hz9 := hS.1; rintro q (h | h) <;> first | exact Or.inr (by omega) | exact h.elim | exact Or.inl h | (simp only [ftA] at h ⊢; omega)) (fun v H1 locs hpo hfr hS => ?_)
  obtain ⟨rfl, rfl⟩ := hpo
  refine W.widen (k := 0) (n := 0) (Nat.le_of_ble_eq_true rfl) (Nat.le_of_ble_eq_true rfl) ?_
  refine lv_astore_n (lv' := [(3, .ref ((xb + 10) + (20 + 2 * f))), (0, .ref xb), (1, .int (nI f)), (2, .int (nI x))]) hx hb dX10_sew_5 rfl hl (by decide) rfl (fun ls hl => ?_)
  refine lv_iload_n hx hb dX10_sew_6 rfl (lv_at hl 3 rfl) ?_
  refine lv_iconst (v := nI 1) hx hb dX10_sew_7 (by decide) ?_
  refine lv_bipush (v := nI 99) hx hb dX10_sew_8 (by decide) ?_
  refine cl_X10_44 (As := [.int (nI x), .int (nI 1), .int (nI 99)]) (rest := []) hB (c_X10_requireRange l g H0 x 1 99 (by first | assumption | omega) (by first | assumption | omega) (by first | assumption | omega)) rfl hl.1 (Nat.le_of_ble_eq_true rfl) dX10_sew_10 ⟨Nat.le_of_ble_eq_true rfl, Nat.le_of_ble_eq_true rfl⟩ ⟨Nat.le_of_ble_eq_true rfl, Nat.le_of_ble_eq_true rfl⟩ hS (by have hz9 := hS.1; rintro q (h | h) <;> first | exact Or.inr (by omega) | exact h.elim | exact Or.inl h | (simp only [ftA] at h ⊢; omega)) (fun v H1 locs hpo hfr hS => ?_)
  obtain ⟨rfl, rfl⟩ := hpo
  refine W.widen (k := 0) (n := 0) (Nat.le_of_ble_eq_true rfl) (Nat.le_of_ble_eq_true rfl) ?_
  refine lv_aload_n hx hb dX10_sew_13 rfl (lv_at hl 1 rfl) ?_
  refine gf_X10_19 hB hCi.1 rfl dX10_sew_14 ?_
  refine lv_aload_n hx hb dX10_sew_17 rfl (lv_at hl 0 rfl) ?_
  refine cl_X10_204 (As := [.ref ((xb + 10) + (20 + 2 * f))]) (rest := []) hB (c_X8_canSewOn l g H0 (xb + 10) (zOf q) P D q f (nmQ q) hS1 hPT (by first | assumption | omega) (hz0) (hnm5)) hS1.o rfl hl.1 (Nat.le_of_ble_eq_true rfl) dX10_sew_18 ⟨Nat.le_of_ble_eq_true rfl, Nat.le_of_ble_eq_true rfl⟩ ⟨Nat.le_of_ble_eq_true rfl, Nat.le_of_ble_eq_true rfl⟩ hS (by have hz9 := hS.1; rintro q (h | h) <;> first | exact Or.inr (by omega) | exact h.elim | exact Or.inl h | (simp only [ftA] at h ⊢; omega)) (fun v H1 locs hpo hfr hS => ?_)
  obtain ⟨rfl, rfl⟩ := hpo
  refine W.widen (k := 0) (n := 0) (Nat.le_of_ble_eq_true rfl) (Nat.le_of_ble_eq_true rfl) ?_
  refine mh_top (y := .int (nI 0)) (by rw [decide_eq_false (by omega)]; rfl) ?_
  exact mx_runS (n := 1) (As := [.int (nI 0)]) (rest := []) kw_515 kw_1 kw_513 kw_514 (by decide +kernel)  hB hZ9 (x_X10_requireState l g H0 bs  hfl hbs) rfl hl.1 (Nat.le_of_ble_eq_true rfl) dX10_sew_21 ⟨Nat.le_of_ble_eq_true rfl, Nat.le_of_ble_eq_true rfl⟩ ⟨Nat.le_of_ble_eq_true rfl, Nat.le_of_ble_eq_true rfl⟩ hS (by have hz9 := hS.1; rintro q (h | h) <;> first | exact h.elim | exact Or.inr (by omega)) (fun q9 H1 locs1 ce hp9 hfr9 hS9 hce hcv hcl => mx_out hT9 hB hce hcv hcl hS9 ⟨Nat.le_of_ble_eq_true rfl, Nat.le_of_ble_eq_true rfl⟩ trivial)

def rm_fx_X10_takeApart_t1 : Room := { frames := 7, cells := 1, slots := 6, locals := 103 }
set_option maxRecDepth 100000 in
set_option maxHeartbeats 400000 in
theorem fx_X10_takeApart_t1 (l : Launch) (g : GG) (H0 : Heap) (bs : Nat) (xb : Nat) (lim : Nat) (q : Nat → Int32) (n : Nat) (rm : Nat → Int32) (sl : Nat → Int32) (sv : Nat → Int32) (tx : Nat → Int32) (ln : Nat) (x : Int32) (hC : CLS g xb lim q n rm sl sv tx ln H0) (hx1 : isIx x 3 = false) (hfl : l.stackTraces = false) (hbs : bs ≤ H0.size) : CtX l yX10_takeApart cX10_takeApart 3 (some .int) rm_fx_X10_takeApart_t1 g bs [.ref xb, .int x] H0 (ftA (fun _ => False) H0.size) XE3 (fun _ => True) := by
  refine CtX.of (by decide) (fun _ h => Or.inr h) (Nat.le_of_ble_eq_true rfl) ?_
  intro p e s m below meth c ls hB hZ9 hT9 hS hH hl
  have hx := hB.x
  have hb := hB.b
  have hl : lv_has ls 3 [(0, .ref xb), (1, .int x)] := hl
  obtain ⟨D, P, T, Zr, Pr, zt, Pt, nx, hCi⟩ := hC
  have hS1 := hCi.2.2.1
  have hPT := hCi.2.2.2.1
  have hD : ∀ q9, xb + 10 ≤ q9 → q9 < xb + 10 + 26 → D q9 := fun q9 h1 h2 => hCi.2.2.2.2.2.2.2.2.2.2.2.2.1 q9 (by omega) (Nat.lt_of_lt_of_le (show q9 < xb + 68 by omega) hCi.2.2.2.2.2.2.2.2.2.2.2.2.2.2.2.2.1)
  have hW : WF q := hCi.2.2.2.2.2.2.2.2.2.2.2.2.2.2.1
  have hZ : WZ q := hCi.2.2.2.2.2.2.2.2.2.2.2.2.2.2.2.1
  have hnm5 := hW.2.2.1
  have hz0 : (zOf q) 0 = nI (nmQ q) := by rw [zOf_lo (by omega), hW.1]
  refine lv_aload_n hx hb dX10_takeApart_0 rfl (lv_at hl 0 rfl) ?_
  refine lv_iload_n hx hb dX10_takeApart_1 rfl (lv_at hl 1 rfl) ?_
  exact mx_runV (C := RX10) (n := 1) (As := [.int x]) (rest := []) rfl kw_601 kw_1 kw_598 kw_600 kp_16 (by decide +kernel)  hB hZ9 (x_X10_existingFrame l g H0 bs xb (zOf q) P x hCi.1 hS1 (hx1) hfl hbs) hCi.1 rfl hl.1 (Nat.le_of_ble_eq_true rfl) dX10_takeApart_2 ⟨Nat.le_of_ble_eq_true rfl, Nat.le_of_ble_eq_true rfl⟩ ⟨Nat.le_of_ble_eq_true rfl, Nat.le_of_ble_eq_true rfl⟩ hS (by have hz9 := hS.1; rintro q (h | h) <;> first | exact h.elim | exact Or.inr (by omega)) (fun q9 H1 locs1 ce hp9 hfr9 hS9 hce hcv hcl => mx_out hT9 hB hce hcv hcl hS9 ⟨Nat.le_of_ble_eq_true rfl, Nat.le_of_ble_eq_true rfl⟩ trivial)

def rm_fx_X10_takeApart_t2 : Room := { frames := 7, cells := 1, slots := 6, locals := 101 }
set_option maxRecDepth 100000 in
set_option maxHeartbeats 400000 in
theorem fx_X10_takeApart_t2 (l : Launch) (g : GG) (H0 : Heap) (bs : Nat) (xb : Nat) (lim : Nat) (q : Nat → Int32) (n : Nat) (rm : Nat → Int32) (sl : Nat → Int32) (sv : Nat → Int32) (tx : Nat → Int32) (ln : Nat) (f : Nat) (hC : CLS g xb lim q n rm sl sv tx ln H0) (hf : f < 3) (hs0 : szF q f = 0) (hfl : l.stackTraces = false) (hbs : bs ≤ H0.size) : CtX l yX10_takeApart cX10_takeApart 3 (some .int) rm_fx_X10_takeApart_t2 g bs [.ref xb, .int (nI f)] H0 (ftA (fun _ => False) H0.size) XE2 (fun _ => True) := by
  refine CtX.of (by decide) (fun _ h => Or.inr h) (Nat.le_of_ble_eq_true rfl) ?_
  intro p e s m below meth c ls hB hZ9 hT9 hS hH hl
  have hx := hB.x
  have hb := hB.b
  have hl : lv_has ls 3 [(0, .ref xb), (1, .int (nI f))] := hl
  obtain ⟨D, P, T, Zr, Pr, zt, Pt, nx, hCi⟩ := hC
  have hS1 := hCi.2.2.1
  have hPT := hCi.2.2.2.1
  have hD : ∀ q9, xb + 10 ≤ q9 → q9 < xb + 10 + 26 → D q9 := fun q9 h1 h2 => hCi.2.2.2.2.2.2.2.2.2.2.2.2.1 q9 (by omega) (Nat.lt_of_lt_of_le (show q9 < xb + 68 by omega) hCi.2.2.2.2.2.2.2.2.2.2.2.2.2.2.2.2.1)
  have hW : WF q := hCi.2.2.2.2.2.2.2.2.2.2.2.2.2.2.1
  have hZ : WZ q := hCi.2.2.2.2.2.2.2.2.2.2.2.2.2.2.2.1
  have hnm5 := hW.2.2.1
  have hz0 : (zOf q) 0 = nI (nmQ q) := by rw [zOf_lo (by omega), hW.1]
  refine lv_aload_n hx hb dX10_takeApart_0 rfl (lv_at hl 0 rfl) ?_
  refine lv_iload_n hx hb dX10_takeApart_1 rfl (lv_at hl 1 rfl) ?_
  refine cl_X10_123 (As := [.int (nI f)]) (rest := []) hB (c_X10_existingFrame l g H0 xb (zOf q) P f hCi.1 hS1 (by first | assumption | omega)) hCi.1 rfl hl.1 (Nat.le_of_ble_eq_true rfl) dX10_takeApart_2 ⟨Nat.le_of_ble_eq_true rfl, Nat.le_of_ble_eq_true rfl⟩ ⟨Nat.le_of_ble_eq_true rfl, Nat.le_of_ble_eq_true rfl⟩ hS (by have hz9 := hS.1; rintro q (h | h) <;> first | exact Or.inr (by omega) | exact h.elim | exact Or.inl h | (simp only [ftA] at h ⊢; omega)) (fun v H1 locs hpo hfr hS => ?_)
  obtain ⟨rfl, rfl⟩ := hpo
  refine W.widen (k := 0) (n := 0) (Nat.le_of_ble_eq_true rfl) (Nat.le_of_ble_eq_true rfl) ?_
  refine lv_astore_n (lv' := [(2, .ref ((xb + 10) + (20 + 2 * f))), (0, .ref xb), (1, .int (nI f))]) hx hb dX10_takeApart_5 rfl hl (by decide) rfl (fun ls hl => ?_)
  refine lv_aload_n hx hb dX10_takeApart_6 rfl (lv_at hl 0 rfl) ?_
  refine cl_X10_187 (As := []) (rest := []) hB (c_X1_isEmpty l g H0 (xb + 10) (zOf q) P D q f hS1 hPT (by first | assumption | omega)) (hS1.of (k := f) (by omega)) rfl hl.1 (Nat.le_of_ble_eq_true rfl) dX10_takeApart_7 ⟨Nat.le_of_ble_eq_true rfl, Nat.le_of_ble_eq_true rfl⟩ ⟨Nat.le_of_ble_eq_true rfl, Nat.le_of_ble_eq_true rfl⟩ hS (by have hz9 := hS.1; rintro q (h | h) <;> first | exact Or.inr (by omega) | exact h.elim | exact Or.inl h | (simp only [ftA] at h ⊢; omega)) (fun v H1 locs hpo hfr hS => ?_)
  obtain ⟨rfl, rfl⟩ := hpo
  refine W.widen (k := 0) (n := 0) (Nat.le_of_ble_eq_true rfl) (Nat.le_of_ble_eq_true rfl) ?_
  refine mh_top (y := .int (nI 1)) (by rw [decide_eq_true (by omega)]; rfl) ?_
  refine mn_if_ne (tgt := 17) hB dX10_takeApart_10 (by decide) (by omega) (fun h_10 => ?_) (fun h => by exfalso; omega)
  refine lv_iconst (v := nI 0) hx hb dX10_takeApart_17 (by decide) ?_
  exact mx_runS (n := 1) (As := [.int (nI 0)]) (rest := []) kw_515 kw_1 kw_513 kw_514 (by decide +kernel)  hB hZ9 (x_X10_requireState l g H0 bs  hfl hbs) rfl hl.1 (Nat.le_of_ble_eq_true rfl) dX10_takeApart_18 ⟨Nat.le_of_ble_eq_true rfl, Nat.le_of_ble_eq_true rfl⟩ ⟨Nat.le_of_ble_eq_true rfl, Nat.le_of_ble_eq_true rfl⟩ hS (by have hz9 := hS.1; rintro q (h | h) <;> first | exact h.elim | exact Or.inr (by omega)) (fun q9 H1 locs1 ce hp9 hfr9 hS9 hce hcv hcl => mx_out hT9 hB hce hcv hcl hS9 ⟨Nat.le_of_ble_eq_true rfl, Nat.le_of_ble_eq_true rfl⟩ trivial)

def rm_fx_X10_raffle_t1 : Room := { frames := 7, cells := 1, slots := 6, locals := 103 }
set_option maxRecDepth 100000 in
set_option maxHeartbeats 400000 in
theorem fx_X10_raffle_t1 (l : Launch) (g : GG) (H0 : Heap) (bs : Nat) (xb : Nat) (lim : Nat) (q : Nat → Int32) (n : Nat) (rm : Nat → Int32) (sl : Nat → Int32) (sv : Nat → Int32) (tx : Nat → Int32) (ln : Nat) (x : Int32) (y : Int32) (hC : CLS g xb lim q n rm sl sv tx ln H0) (hx1 : isIx x 3 = false) (hfl : l.stackTraces = false) (hbs : bs ≤ H0.size) : CtX l yX10_raffle cX10_raffle 4 (some .int) rm_fx_X10_raffle_t1 g bs [.ref xb, .int x, .int y] H0 (ftA (fun _ => False) H0.size) XE3 (fun _ => True) := by
  refine CtX.of (by decide) (fun _ h => Or.inr h) (Nat.le_of_ble_eq_true rfl) ?_
  intro p e s m below meth c ls hB hZ9 hT9 hS hH hl
  have hx := hB.x
  have hb := hB.b
  have hl : lv_has ls 4 [(0, .ref xb), (1, .int x), (2, .int y)] := hl
  obtain ⟨D, P, T, Zr, Pr, zt, Pt, nx, hCi⟩ := hC
  have hS1 := hCi.2.2.1
  have hPT := hCi.2.2.2.1
  have hD : ∀ q9, xb + 10 ≤ q9 → q9 < xb + 10 + 26 → D q9 := fun q9 h1 h2 => hCi.2.2.2.2.2.2.2.2.2.2.2.2.1 q9 (by omega) (Nat.lt_of_lt_of_le (show q9 < xb + 68 by omega) hCi.2.2.2.2.2.2.2.2.2.2.2.2.2.2.2.2.1)
  have hW : WF q := hCi.2.2.2.2.2.2.2.2.2.2.2.2.2.2.1
  have hZ : WZ q := hCi.2.2.2.2.2.2.2.2.2.2.2.2.2.2.2.1
  have hnm5 := hW.2.2.1
  have hz0 : (zOf q) 0 = nI (nmQ q) := by rw [zOf_lo (by omega), hW.1]
  refine lv_aload_n hx hb dX10_raffle_0 rfl (lv_at hl 0 rfl) ?_
  refine lv_iload_n hx hb dX10_raffle_1 rfl (lv_at hl 1 rfl) ?_
  exact mx_runV (C := RX10) (n := 1) (As := [.int x]) (rest := []) rfl kw_601 kw_1 kw_598 kw_600 kp_16 (by decide +kernel)  hB hZ9 (x_X10_existingFrame l g H0 bs xb (zOf q) P x hCi.1 hS1 (hx1) hfl hbs) hCi.1 rfl hl.1 (Nat.le_of_ble_eq_true rfl) dX10_raffle_2 ⟨Nat.le_of_ble_eq_true rfl, Nat.le_of_ble_eq_true rfl⟩ ⟨Nat.le_of_ble_eq_true rfl, Nat.le_of_ble_eq_true rfl⟩ hS (by have hz9 := hS.1; rintro q (h | h) <;> first | exact h.elim | exact Or.inr (by omega)) (fun q9 H1 locs1 ce hp9 hfr9 hS9 hce hcv hcl => mx_out hT9 hB hce hcv hcl hS9 ⟨Nat.le_of_ble_eq_true rfl, Nat.le_of_ble_eq_true rfl⟩ trivial)

def rm_fx_X10_raffle_t2 : Room := { frames := 8, cells := 1, slots := 6, locals := 123 }
set_option maxRecDepth 100000 in
set_option maxHeartbeats 400000 in
theorem fx_X10_raffle_t2 (l : Launch) (g : GG) (H0 : Heap) (bs : Nat) (xb : Nat) (lim : Nat) (q : Nat → Int32) (n : Nat) (rm : Nat → Int32) (sl : Nat → Int32) (sv : Nat → Int32) (tx : Nat → Int32) (ln : Nat) (f : Nat) (y : Int32) (hC : CLS g xb lim q n rm sl sv tx ln H0) (hf : f < 3) (hx1 : isIx y 10000 = false) (hfl : l.stackTraces = false) (hbs : bs ≤ H0.size) : CtX l yX10_raffle cX10_raffle 4 (some .int) rm_fx_X10_raffle_t2 g bs [.ref xb, .int (nI f), .int y] H0 (ftA (fun _ => False) H0.size) XE1 (fun _ => True) := by
  refine CtX.of (by decide) (fun _ h => Or.inr h) (Nat.le_of_ble_eq_true rfl) ?_
  intro p e s m below meth c ls hB hZ9 hT9 hS hH hl
  have hx := hB.x
  have hb := hB.b
  have hl : lv_has ls 4 [(0, .ref xb), (1, .int (nI f)), (2, .int y)] := hl
  obtain ⟨D, P, T, Zr, Pr, zt, Pt, nx, hCi⟩ := hC
  have hS1 := hCi.2.2.1
  have hPT := hCi.2.2.2.1
  have hD : ∀ q9, xb + 10 ≤ q9 → q9 < xb + 10 + 26 → D q9 := fun q9 h1 h2 => hCi.2.2.2.2.2.2.2.2.2.2.2.2.1 q9 (by omega) (Nat.lt_of_lt_of_le (show q9 < xb + 68 by omega) hCi.2.2.2.2.2.2.2.2.2.2.2.2.2.2.2.2.1)
  have hW : WF q := hCi.2.2.2.2.2.2.2.2.2.2.2.2.2.2.1
  have hZ : WZ q := hCi.2.2.2.2.2.2.2.2.2.2.2.2.2.2.2.1
  have hnm5 := hW.2.2.1
  have hz0 : (zOf q) 0 = nI (nmQ q) := by rw [zOf_lo (by omega), hW.1]
  refine lv_aload_n hx hb dX10_raffle_0 rfl (lv_at hl 0 rfl) ?_
  refine lv_iload_n hx hb dX10_raffle_1 rfl (lv_at hl 1 rfl) ?_
  refine cl_X10_123 (As := [.int (nI f)]) (rest := []) hB (c_X10_existingFrame l g H0 xb (zOf q) P f hCi.1 hS1 (by first | assumption | omega)) hCi.1 rfl hl.1 (Nat.le_of_ble_eq_true rfl) dX10_raffle_2 ⟨Nat.le_of_ble_eq_true rfl, Nat.le_of_ble_eq_true rfl⟩ ⟨Nat.le_of_ble_eq_true rfl, Nat.le_of_ble_eq_true rfl⟩ hS (by have hz9 := hS.1; rintro q (h | h) <;> first | exact Or.inr (by omega) | exact h.elim | exact Or.inl h | (simp only [ftA] at h ⊢; omega)) (fun v H1 locs hpo hfr hS => ?_)
  obtain ⟨rfl, rfl⟩ := hpo
  refine W.widen (k := 0) (n := 0) (Nat.le_of_ble_eq_true rfl) (Nat.le_of_ble_eq_true rfl) ?_
  refine lv_astore_n (lv' := [(3, .ref ((xb + 10) + (20 + 2 * f))), (0, .ref xb), (1, .int (nI f)), (2, .int y)]) hx hb dX10_raffle_5 rfl hl (by decide) rfl (fun ls hl => ?_)
  refine lv_iload_n hx hb dX10_raffle_6 rfl (lv_at hl 3 rfl) ?_
  refine lv_iconst (v := nI 0) hx hb dX10_raffle_7 (by decide) ?_
  refine lv_sipush (v := nI 9999) hx hb dX10_raffle_8 (by decide +kernel) ?_
  exact mx_runS (n := 3) (As := [.int y, .int (nI 0), .int (nI 9999)]) (rest := []) kw_442 kw_1 kw_440 kw_441 (by decide +kernel)  hB hZ9 (x_X10_requireRange l g H0 bs y 0 9999 (rng_ix (b := 9999) hx1 (by omega)) hfl hbs) rfl hl.1 (Nat.le_of_ble_eq_true rfl) dX10_raffle_11 ⟨Nat.le_of_ble_eq_true rfl, Nat.le_of_ble_eq_true rfl⟩ ⟨Nat.le_of_ble_eq_true rfl, Nat.le_of_ble_eq_true rfl⟩ hS (by have hz9 := hS.1; rintro q (h | h) <;> first | exact h.elim | exact Or.inr (by omega)) (fun q9 H1 locs1 ce hp9 hfr9 hS9 hce hcv hcl => mx_out hT9 hB hce hcv hcl hS9 ⟨Nat.le_of_ble_eq_true rfl, Nat.le_of_ble_eq_true rfl⟩ trivial)

def rm_fx_X10_raffle_t3 : Room := { frames := 7, cells := 1, slots := 6, locals := 101 }
set_option maxRecDepth 100000 in
set_option maxHeartbeats 400000 in
theorem fx_X10_raffle_t3 (l : Launch) (g : GG) (H0 : Heap) (bs : Nat) (xb : Nat) (lim : Nat) (q : Nat → Int32) (n : Nat) (rm : Nat → Int32) (sl : Nat → Int32) (sv : Nat → Int32) (tx : Nat → Int32) (ln : Nat) (f : Nat) (p0 : Nat) (hC : CLS g xb lim q n rm sl sv tx ln H0) (hf : f < 3) (hp : p0 < 10000) (hs0 : ¬ (0 < szF q f ∧ swF q f = szF q f)) (hfl : l.stackTraces = false) (hbs : bs ≤ H0.size) : CtX l yX10_raffle cX10_raffle 4 (some .int) rm_fx_X10_raffle_t3 g bs [.ref xb, .int (nI f), .int (nI p0)] H0 (ftA (fun _ => False) H0.size) XE2 (fun _ => True) := by
  refine CtX.of (by decide) (fun _ h => Or.inr h) (Nat.le_of_ble_eq_true rfl) ?_
  intro p e s m below meth c ls hB hZ9 hT9 hS hH hl
  have hx := hB.x
  have hb := hB.b
  have hl : lv_has ls 4 [(0, .ref xb), (1, .int (nI f)), (2, .int (nI p0))] := hl
  obtain ⟨D, P, T, Zr, Pr, zt, Pt, nx, hCi⟩ := hC
  have hS1 := hCi.2.2.1
  have hPT := hCi.2.2.2.1
  have hD : ∀ q9, xb + 10 ≤ q9 → q9 < xb + 10 + 26 → D q9 := fun q9 h1 h2 => hCi.2.2.2.2.2.2.2.2.2.2.2.2.1 q9 (by omega) (Nat.lt_of_lt_of_le (show q9 < xb + 68 by omega) hCi.2.2.2.2.2.2.2.2.2.2.2.2.2.2.2.2.1)
  have hW : WF q := hCi.2.2.2.2.2.2.2.2.2.2.2.2.2.2.1
  have hZ : WZ q := hCi.2.2.2.2.2.2.2.2.2.2.2.2.2.2.2.1
  have hnm5 := hW.2.2.1
  have hz0 : (zOf q) 0 = nI (nmQ q) := by rw [zOf_lo (by omega), hW.1]
  refine lv_aload_n hx hb dX10_raffle_0 rfl (lv_at hl 0 rfl) ?_
  refine lv_iload_n hx hb dX10_raffle_1 rfl (lv_at hl 1 rfl) ?_
  refine cl_X10_123 (As := [.int (nI f)]) (rest := []) hB (c_X10_existingFrame l g H0 xb (zOf q) P f hCi.1 hS1 (by first | assumption | omega)) hCi.1 rfl hl.1 (Nat.le_of_ble_eq_true rfl) dX10_raffle_2 ⟨Nat.le_of_ble_eq_true rfl, Nat.le_of_ble_eq_true rfl⟩ ⟨Nat.le_of_ble_eq_true rfl, Nat.le_of_ble_eq_true rfl⟩ hS (by have hz9 := hS.1; rintro q (h | h) <;> first | exact Or.inr (by omega) | exact h.elim | exact Or.inl h | (simp only [ftA] at h ⊢; omega)) (fun v H1 locs hpo hfr hS => ?_)
  obtain ⟨rfl, rfl⟩ := hpo
  refine W.widen (k := 0) (n := 0) (Nat.le_of_ble_eq_true rfl) (Nat.le_of_ble_eq_true rfl) ?_
  refine lv_astore_n (lv' := [(3, .ref ((xb + 10) + (20 + 2 * f))), (0, .ref xb), (1, .int (nI f)), (2, .int (nI p0))]) hx hb dX10_raffle_5 rfl hl (by decide) rfl (fun ls hl => ?_)
  refine lv_iload_n hx hb dX10_raffle_6 rfl (lv_at hl 3 rfl) ?_
  refine lv_iconst (v := nI 0) hx hb dX10_raffle_7 (by decide) ?_
  refine lv_sipush (v := nI 9999) hx hb dX10_raffle_8 (by decide +kernel) ?_
  refine cl_X10_44 (As := [.int (nI p0), .int (nI 0), .int (nI 9999)]) (rest := []) hB (c_X10_requireRange l g H0 p0 0 9999 (by first | assumption | omega) (by first | assumption | omega) (by first | assumption | omega)) rfl hl.1 (Nat.le_of_ble_eq_true rfl) dX10_raffle_11 ⟨Nat.le_of_ble_eq_true rfl, Nat.le_of_ble_eq_true rfl⟩ ⟨Nat.le_of_ble_eq_true rfl, Nat.le_of_ble_eq_true rfl⟩ hS (by have hz9 := hS.1; rintro q (h | h) <;> first | exact Or.inr (by omega) | exact h.elim | exact Or.inl h | (simp only [ftA] at h ⊢; omega)) (fun v H1 locs hpo hfr hS => ?_)
  obtain ⟨rfl, rfl⟩ := hpo
  refine W.widen (k := 0) (n := 0) (Nat.le_of_ble_eq_true rfl) (Nat.le_of_ble_eq_true rfl) ?_
  refine lv_aload_n hx hb dX10_raffle_14 rfl (lv_at hl 0 rfl) ?_
  refine cl_X10_216 (As := []) (rest := []) hB (c_X1_isFinished l g H0 (xb + 10) (zOf q) P D q f (swF q f) hS1 hPT (by first | assumption | omega) (by rw [zOf_fS hf, (hW.fr hf).s]) (WF.sw (hW.fr hf)) (WF.sz (hW.fr hf))) (hS1.of (k := f) (by omega)) rfl hl.1 (Nat.le_of_ble_eq_true rfl) dX10_raffle_15 ⟨Nat.le_of_ble_eq_true rfl, Nat.le_of_ble_eq_true rfl⟩ ⟨Nat.le_of_ble_eq_true rfl, Nat.le_of_ble_eq_true rfl⟩ hS (by have hz9 := hS.1; rintro q (h | h) <;> first | exact Or.inr (by omega) | exact h.elim | exact Or.inl h | (simp only [ftA] at h ⊢; omega)) (fun v H1 locs hpo hfr hS => ?_)
  obtain ⟨rfl, rfl⟩ := hpo
  refine W.widen (k := 0) (n := 0) (Nat.le_of_ble_eq_true rfl) (Nat.le_of_ble_eq_true rfl) ?_
  refine mh_top (y := .int (nI 0)) (by rw [decide_eq_false (by have := WF.sw (hW.fr hf); omega)]; rfl) ?_
  exact mx_runS (n := 1) (As := [.int (nI 0)]) (rest := []) kw_515 kw_1 kw_513 kw_514 (by decide +kernel)  hB hZ9 (x_X10_requireState l g H0 bs  hfl hbs) rfl hl.1 (Nat.le_of_ble_eq_true rfl) dX10_raffle_18 ⟨Nat.le_of_ble_eq_true rfl, Nat.le_of_ble_eq_true rfl⟩ ⟨Nat.le_of_ble_eq_true rfl, Nat.le_of_ble_eq_true rfl⟩ hS (by have hz9 := hS.1; rintro q (h | h) <;> first | exact h.elim | exact Or.inr (by omega)) (fun q9 H1 locs1 ce hp9 hfr9 hS9 hce hcv hcl => mx_out hT9 hB hce hcv hcl hS9 ⟨Nat.le_of_ble_eq_true rfl, Nat.le_of_ble_eq_true rfl⟩ trivial)

def rm_fx_X10_undo_t1 : Room := { frames := 7, cells := 1, slots := 6, locals := 101 }
set_option maxRecDepth 100000 in
set_option maxHeartbeats 400000 in
theorem fx_X10_undo_t1 (l : Launch) (g : GG) (H0 : Heap) (bs : Nat) (xb : Nat) (lim : Nat) (q : Nat → Int32) (n : Nat) (rm : Nat → Int32) (sl : Nat → Int32) (sv : Nat → Int32) (tx : Nat → Int32) (ln : Nat) (hC : CLS g xb lim q n rm sl sv tx ln H0) (hn0 : n = 0) (hfl : l.stackTraces = false) (hbs : bs ≤ H0.size) : CtX l yX10_undo cX10_undo 1 (some .int) rm_fx_X10_undo_t1 g bs [.ref xb] H0 (ftA (fun _ => False) H0.size) XE2 (fun _ => True) := by
  refine CtX.of (by decide) (fun _ h => Or.inr h) (Nat.le_of_ble_eq_true rfl) ?_
  intro p e s m below meth c ls hB hZ9 hT9 hS hH hl
  have hx := hB.x
  have hb := hB.b
  have hl : lv_has ls 1 [(0, .ref xb)] := hl
  obtain ⟨D, P, T, Zr, Pr, zt, Pt, nx, hCi⟩ := hC
  have hS1 := hCi.2.2.1
  have hPT := hCi.2.2.2.1
  have hD : ∀ q9, xb + 10 ≤ q9 → q9 < xb + 10 + 26 → D q9 := fun q9 h1 h2 => hCi.2.2.2.2.2.2.2.2.2.2.2.2.1 q9 (by omega) (Nat.lt_of_lt_of_le (show q9 < xb + 68 by omega) hCi.2.2.2.2.2.2.2.2.2.2.2.2.2.2.2.2.1)
  have hW : WF q := hCi.2.2.2.2.2.2.2.2.2.2.2.2.2.2.1
  have hZ : WZ q := hCi.2.2.2.2.2.2.2.2.2.2.2.2.2.2.2.1
  have hnm5 := hW.2.2.1
  have hz0 : (zOf q) 0 = nI (nmQ q) := by rw [zOf_lo (by omega), hW.1]
  refine lv_aload_n hx hb dX10_undo_0 rfl (lv_at hl 0 rfl) ?_
  refine gf_X10_29 hB hCi.1 rfl dX10_undo_1 ?_
  refine gf_X10_225 hB hCi.2.2.2.2.2.1 rfl dX10_undo_4 ?_
  refine mn_if_le (tgt := 14) hB dX10_undo_7 (by decide) (by omega) (fun h_7 => ?_) (fun h => by exfalso; omega)
  refine lv_iconst (v := nI 0) hx hb dX10_undo_14 (by decide) ?_
  exact mx_runS (n := 1) (As := [.int (nI 0)]) (rest := []) kw_515 kw_1 kw_513 kw_514 (by decide +kernel)  hB hZ9 (x_X10_requireState l g H0 bs  hfl hbs) rfl hl.1 (Nat.le_of_ble_eq_true rfl) dX10_undo_15 ⟨Nat.le_of_ble_eq_true rfl, Nat.le_of_ble_eq_true rfl⟩ ⟨Nat.le_of_ble_eq_true rfl, Nat.le_of_ble_eq_true rfl⟩ hS (by have hz9 := hS.1; rintro q (h | h) <;> first | exact h.elim | exact Or.inr (by omega)) (fun q9 H1 locs1 ce hp9 hfr9 hS9 hce hcv hcl => mx_out hT9 hB hce hcv hcl hS9 ⟨Nat.le_of_ble_eq_true rfl, Nat.le_of_ble_eq_true rfl⟩ trivial)

def rm_fx_X10_lacks_t1 : Room := { frames := 7, cells := 1, slots := 6, locals := 103 }
set_option maxRecDepth 100000 in
set_option maxHeartbeats 400000 in
theorem fx_X10_lacks_t1 (l : Launch) (g : GG) (H0 : Heap) (bs : Nat) (xb : Nat) (lim : Nat) (q : Nat → Int32) (n : Nat) (rm : Nat → Int32) (sl : Nat → Int32) (sv : Nat → Int32) (tx : Nat → Int32) (ln : Nat) (x : Int32) (y : Int32) (hC : CLS g xb lim q n rm sl sv tx ln H0) (hx1 : isIx y 6 = false) (hfl : l.stackTraces = false) (hbs : bs ≤ H0.size) : CtX l yX10_lacks cX10_lacks 3 (some .int) rm_fx_X10_lacks_t1 g bs [.ref xb, .int x, .int y] H0 (ftA (fun _ => False) H0.size) XE3 (fun _ => True) := by
  refine CtX.of (by decide) (fun _ h => Or.inr h) (Nat.le_of_ble_eq_true rfl) ?_
  intro p e s m below meth c ls hB hZ9 hT9 hS hH hl
  have hx := hB.x
  have hb := hB.b
  have hl : lv_has ls 3 [(0, .ref xb), (1, .int x), (2, .int y)] := hl
  obtain ⟨D, P, T, Zr, Pr, zt, Pt, nx, hCi⟩ := hC
  have hS1 := hCi.2.2.1
  have hPT := hCi.2.2.2.1
  have hD : ∀ q9, xb + 10 ≤ q9 → q9 < xb + 10 + 26 → D q9 := fun q9 h1 h2 => hCi.2.2.2.2.2.2.2.2.2.2.2.2.1 q9 (by omega) (Nat.lt_of_lt_of_le (show q9 < xb + 68 by omega) hCi.2.2.2.2.2.2.2.2.2.2.2.2.2.2.2.2.1)
  have hW : WF q := hCi.2.2.2.2.2.2.2.2.2.2.2.2.2.2.1
  have hZ : WZ q := hCi.2.2.2.2.2.2.2.2.2.2.2.2.2.2.2.1
  have hnm5 := hW.2.2.1
  have hz0 : (zOf q) 0 = nI (nmQ q) := by rw [zOf_lo (by omega), hW.1]
  refine lv_aload_n hx hb dX10_lacks_0 rfl (lv_at hl 0 rfl) ?_
  refine lv_iload_n hx hb dX10_lacks_1 rfl (lv_at hl 2 rfl) ?_
  exact mx_runV (C := RX10) (n := 1) (As := [.int y]) (rest := []) rfl kw_588 kw_1 kw_585 kw_587 kp_15 (by decide +kernel)  hB hZ9 (x_X10_existingCloth l g H0 bs xb (zOf q) P y hCi.1 hS1 (hx1) hfl hbs) hCi.1 rfl hl.1 (Nat.le_of_ble_eq_true rfl) dX10_lacks_2 ⟨Nat.le_of_ble_eq_true rfl, Nat.le_of_ble_eq_true rfl⟩ ⟨Nat.le_of_ble_eq_true rfl, Nat.le_of_ble_eq_true rfl⟩ hS (by have hz9 := hS.1; rintro q (h | h) <;> first | exact h.elim | exact Or.inr (by omega)) (fun q9 H1 locs1 ce hp9 hfr9 hS9 hce hcv hcl => mx_out hT9 hB hce hcv hcl hS9 ⟨Nat.le_of_ble_eq_true rfl, Nat.le_of_ble_eq_true rfl⟩ trivial)

def rm_fx_X10_lacks_t2 : Room := { frames := 8, cells := 1, slots := 6, locals := 123 }
set_option maxRecDepth 100000 in
set_option maxHeartbeats 400000 in
theorem fx_X10_lacks_t2 (l : Launch) (g : GG) (H0 : Heap) (bs : Nat) (xb : Nat) (lim : Nat) (q : Nat → Int32) (n : Nat) (rm : Nat → Int32) (sl : Nat → Int32) (sv : Nat → Int32) (tx : Nat → Int32) (ln : Nat) (x : Int32) (c0 : Nat) (hC : CLS g xb lim q n rm sl sv tx ln H0) (hx1 : isIx x 8 = false) (hc : c0 < 6) (hfl : l.stackTraces = false) (hbs : bs ≤ H0.size) : CtX l yX10_lacks cX10_lacks 3 (some .int) rm_fx_X10_lacks_t2 g bs [.ref xb, .int x, .int (nI c0)] H0 (ftA (fun _ => False) H0.size) XE1 (fun _ => True) := by
  refine CtX.of (by decide) (fun _ h => Or.inr h) (Nat.le_of_ble_eq_true rfl) ?_
  intro p e s m below meth c ls hB hZ9 hT9 hS hH hl
  have hx := hB.x
  have hb := hB.b
  have hl : lv_has ls 3 [(0, .ref xb), (1, .int x), (2, .int (nI c0))] := hl
  obtain ⟨D, P, T, Zr, Pr, zt, Pt, nx, hCi⟩ := hC
  have hS1 := hCi.2.2.1
  have hPT := hCi.2.2.2.1
  have hD : ∀ q9, xb + 10 ≤ q9 → q9 < xb + 10 + 26 → D q9 := fun q9 h1 h2 => hCi.2.2.2.2.2.2.2.2.2.2.2.2.1 q9 (by omega) (Nat.lt_of_lt_of_le (show q9 < xb + 68 by omega) hCi.2.2.2.2.2.2.2.2.2.2.2.2.2.2.2.2.1)
  have hW : WF q := hCi.2.2.2.2.2.2.2.2.2.2.2.2.2.2.1
  have hZ : WZ q := hCi.2.2.2.2.2.2.2.2.2.2.2.2.2.2.2.1
  have hnm5 := hW.2.2.1
  have hz0 : (zOf q) 0 = nI (nmQ q) := by rw [zOf_lo (by omega), hW.1]
  refine lv_aload_n hx hb dX10_lacks_0 rfl (lv_at hl 0 rfl) ?_
  refine lv_iload_n hx hb dX10_lacks_1 rfl (lv_at hl 2 rfl) ?_
  refine cl_X10_116 (As := [.int (nI c0)]) (rest := []) hB (c_X10_existingCloth l g H0 xb (zOf q) P c0 hCi.1 hS1 (by first | assumption | omega)) hCi.1 rfl hl.1 (Nat.le_of_ble_eq_true rfl) dX10_lacks_2 ⟨Nat.le_of_ble_eq_true rfl, Nat.le_of_ble_eq_true rfl⟩ ⟨Nat.le_of_ble_eq_true rfl, Nat.le_of_ble_eq_true rfl⟩ hS (by have hz9 := hS.1; rintro q (h | h) <;> first | exact Or.inr (by omega) | exact h.elim | exact Or.inl h | (simp only [ftA] at h ⊢; omega)) (fun v H1 locs hpo hfr hS => ?_)
  obtain ⟨rfl, rfl⟩ := hpo
  refine W.widen (k := 0) (n := 0) (Nat.le_of_ble_eq_true rfl) (Nat.le_of_ble_eq_true rfl) ?_
  refine lv_pop hx hb dX10_lacks_5 rfl ?_
  refine lv_iload_n hx hb dX10_lacks_6 rfl (lv_at hl 1 rfl) ?_
  refine lv_iconst (v := nI 0) hx hb dX10_lacks_7 (by decide) ?_
  refine lv_bipush (v := nI 7) hx hb dX10_lacks_8 (by decide) ?_
  exact mx_runS (n := 3) (As := [.int x, .int (nI 0), .int (nI 7)]) (rest := []) kw_442 kw_1 kw_440 kw_441 (by decide +kernel)  hB hZ9 (x_X10_requireRange l g H0 bs x 0 7 (rng_ix (b := 7) hx1 (by omega)) hfl hbs) rfl hl.1 (Nat.le_of_ble_eq_true rfl) dX10_lacks_10 ⟨Nat.le_of_ble_eq_true rfl, Nat.le_of_ble_eq_true rfl⟩ ⟨Nat.le_of_ble_eq_true rfl, Nat.le_of_ble_eq_true rfl⟩ hS (by have hz9 := hS.1; rintro q (h | h) <;> first | exact h.elim | exact Or.inr (by omega)) (fun q9 H1 locs1 ce hp9 hfr9 hS9 hce hcv hcl => mx_out hT9 hB hce hcv hcl hS9 ⟨Nat.le_of_ble_eq_true rfl, Nat.le_of_ble_eq_true rfl⟩ trivial)

def rm_fx_X10_wouldGet_t1 : Room := { frames := 7, cells := 1, slots := 6, locals := 103 }
set_option maxRecDepth 100000 in
set_option maxHeartbeats 400000 in
theorem fx_X10_wouldGet_t1 (l : Launch) (g : GG) (H0 : Heap) (bs : Nat) (xb : Nat) (lim : Nat) (q : Nat → Int32) (n : Nat) (rm : Nat → Int32) (sl : Nat → Int32) (sv : Nat → Int32) (tx : Nat → Int32) (ln : Nat) (x : Int32) (y : Int32) (z : Int32) (hC : CLS g xb lim q n rm sl sv tx ln H0) (hx1 : isIx x 3 = false) (hfl : l.stackTraces = false) (hbs : bs ≤ H0.size) : CtX l yX10_wouldGet cX10_wouldGet 5 (some .int) rm_fx_X10_wouldGet_t1 g bs [.ref xb, .int x, .int y, .int z] H0 (ftA (fun _ => False) H0.size) XE3 (fun _ => True) := by
  refine CtX.of (by decide) (fun _ h => Or.inr h) (Nat.le_of_ble_eq_true rfl) ?_
  intro p e s m below meth c ls hB hZ9 hT9 hS hH hl
  have hx := hB.x
  have hb := hB.b
  have hl : lv_has ls 5 [(0, .ref xb), (1, .int x), (2, .int y), (3, .int z)] := hl
  obtain ⟨D, P, T, Zr, Pr, zt, Pt, nx, hCi⟩ := hC
  have hS1 := hCi.2.2.1
  have hPT := hCi.2.2.2.1
  have hD : ∀ q9, xb + 10 ≤ q9 → q9 < xb + 10 + 26 → D q9 := fun q9 h1 h2 => hCi.2.2.2.2.2.2.2.2.2.2.2.2.1 q9 (by omega) (Nat.lt_of_lt_of_le (show q9 < xb + 68 by omega) hCi.2.2.2.2.2.2.2.2.2.2.2.2.2.2.2.2.1)
  have hW : WF q := hCi.2.2.2.2.2.2.2.2.2.2.2.2.2.2.1
  have hZ : WZ q := hCi.2.2.2.2.2.2.2.2.2.2.2.2.2.2.2.1
  have hnm5 := hW.2.2.1
  have hz0 : (zOf q) 0 = nI (nmQ q) := by rw [zOf_lo (by omega), hW.1]
  refine lv_aload_n hx hb dX10_wouldGet_0 rfl (lv_at hl 0 rfl) ?_
  refine lv_iload_n hx hb dX10_wouldGet_1 rfl (lv_at hl 1 rfl) ?_
  exact mx_runV (C := RX10) (n := 1) (As := [.int x]) (rest := []) rfl kw_601 kw_1 kw_598 kw_600 kp_16 (by decide +kernel)  hB hZ9 (x_X10_existingFrame l g H0 bs xb (zOf q) P x hCi.1 hS1 (hx1) hfl hbs) hCi.1 rfl hl.1 (Nat.le_of_ble_eq_true rfl) dX10_wouldGet_2 ⟨Nat.le_of_ble_eq_true rfl, Nat.le_of_ble_eq_true rfl⟩ ⟨Nat.le_of_ble_eq_true rfl, Nat.le_of_ble_eq_true rfl⟩ hS (by have hz9 := hS.1; rintro q (h | h) <;> first | exact h.elim | exact Or.inr (by omega)) (fun q9 H1 locs1 ce hp9 hfr9 hS9 hce hcv hcl => mx_out hT9 hB hce hcv hcl hS9 ⟨Nat.le_of_ble_eq_true rfl, Nat.le_of_ble_eq_true rfl⟩ trivial)

def rm_fx_X10_wouldGet_t1b : Room := { frames := 7, cells := 1, slots := 6, locals := 103 }
set_option maxRecDepth 100000 in
set_option maxHeartbeats 400000 in
theorem fx_X10_wouldGet_t1b (l : Launch) (g : GG) (H0 : Heap) (bs : Nat) (xb : Nat) (lim : Nat) (q : Nat → Int32) (n : Nat) (rm : Nat → Int32) (sl : Nat → Int32) (sv : Nat → Int32) (tx : Nat → Int32) (ln : Nat) (f : Nat) (y : Int32) (z : Int32) (hC : CLS g xb lim q n rm sl sv tx ln H0) (hf : f < 3) (hx1 : isIx y (nmQ q) = false) (hfl : l.stackTraces = false) (hbs : bs ≤ H0.size) : CtX l yX10_wouldGet cX10_wouldGet 5 (some .int) rm_fx_X10_wouldGet_t1b g bs [.ref xb, .int (nI f), .int y, .int z] H0 (ftA (fun _ => False) H0.size) XE3 (fun _ => True) := by
  refine CtX.of (by decide) (fun _ h => Or.inr h) (Nat.le_of_ble_eq_true rfl) ?_
  intro p e s m below meth c ls hB hZ9 hT9 hS hH hl
  have hx := hB.x
  have hb := hB.b
  have hl : lv_has ls 5 [(0, .ref xb), (1, .int (nI f)), (2, .int y), (3, .int z)] := hl
  obtain ⟨D, P, T, Zr, Pr, zt, Pt, nx, hCi⟩ := hC
  have hS1 := hCi.2.2.1
  have hPT := hCi.2.2.2.1
  have hD : ∀ q9, xb + 10 ≤ q9 → q9 < xb + 10 + 26 → D q9 := fun q9 h1 h2 => hCi.2.2.2.2.2.2.2.2.2.2.2.2.1 q9 (by omega) (Nat.lt_of_lt_of_le (show q9 < xb + 68 by omega) hCi.2.2.2.2.2.2.2.2.2.2.2.2.2.2.2.2.1)
  have hW : WF q := hCi.2.2.2.2.2.2.2.2.2.2.2.2.2.2.1
  have hZ : WZ q := hCi.2.2.2.2.2.2.2.2.2.2.2.2.2.2.2.1
  have hnm5 := hW.2.2.1
  have hz0 : (zOf q) 0 = nI (nmQ q) := by rw [zOf_lo (by omega), hW.1]
  refine lv_aload_n hx hb dX10_wouldGet_0 rfl (lv_at hl 0 rfl) ?_
  refine lv_iload_n hx hb dX10_wouldGet_1 rfl (lv_at hl 1 rfl) ?_
  refine cl_X10_123 (As := [.int (nI f)]) (rest := []) hB (c_X10_existingFrame l g H0 xb (zOf q) P f hCi.1 hS1 (by first | assumption | omega)) hCi.1 rfl hl.1 (Nat.le_of_ble_eq_true rfl) dX10_wouldGet_2 ⟨Nat.le_of_ble_eq_true rfl, Nat.le_of_ble_eq_true rfl⟩ ⟨Nat.le_of_ble_eq_true rfl, Nat.le_of_ble_eq_true rfl⟩ hS (by have hz9 := hS.1; rintro q (h | h) <;> first | exact Or.inr (by omega) | exact h.elim | exact Or.inl h | (simp only [ftA] at h ⊢; omega)) (fun v H1 locs hpo hfr hS => ?_)
  obtain ⟨rfl, rfl⟩ := hpo
  refine W.widen (k := 0) (n := 0) (Nat.le_of_ble_eq_true rfl) (Nat.le_of_ble_eq_true rfl) ?_
  refine lv_astore (lv' := [(4, .ref ((xb + 10) + (20 + 2 * f))), (0, .ref xb), (1, .int (nI f)), (2, .int y), (3, .int z)]) hx hb dX10_wouldGet_5 hl (by decide) rfl (fun ls hl => ?_)
  refine lv_aload_n hx hb dX10_wouldGet_7 rfl (lv_at hl 1 rfl) ?_
  refine lv_iload_n hx hb dX10_wouldGet_8 rfl (lv_at hl 3 rfl) ?_
  exact mx_runV (C := RX10) (n := 1) (As := [.int y]) (rest := []) rfl kw_558 kw_1 kw_555 kw_557 kp_14 (by decide +kernel)  hB hZ9 (x_X10_existingMember l g H0 bs xb (zOf q) P y (nmQ q) hCi.1 hS1 (hx1) (hz0) (hnm5) hfl hbs) hCi.1 rfl hl.1 (Nat.le_of_ble_eq_true rfl) dX10_wouldGet_9 ⟨Nat.le_of_ble_eq_true rfl, Nat.le_of_ble_eq_true rfl⟩ ⟨Nat.le_of_ble_eq_true rfl, Nat.le_of_ble_eq_true rfl⟩ hS (by have hz9 := hS.1; rintro q (h | h) <;> first | exact h.elim | exact Or.inr (by omega)) (fun q9 H1 locs1 ce hp9 hfr9 hS9 hce hcv hcl => mx_out hT9 hB hce hcv hcl hS9 ⟨Nat.le_of_ble_eq_true rfl, Nat.le_of_ble_eq_true rfl⟩ trivial)

def rm_fx_X10_wouldGet_t2 : Room := { frames := 8, cells := 1, slots := 6, locals := 123 }
set_option maxRecDepth 100000 in
set_option maxHeartbeats 400000 in
theorem fx_X10_wouldGet_t2 (l : Launch) (g : GG) (H0 : Heap) (bs : Nat) (xb : Nat) (lim : Nat) (q : Nat → Int32) (n : Nat) (rm : Nat → Int32) (sl : Nat → Int32) (sv : Nat → Int32) (tx : Nat → Int32) (ln : Nat) (f : Nat) (m0 : Nat) (z : Int32) (hC : CLS g xb lim q n rm sl sv tx ln H0) (hf : f < 3) (hm : m0 < nmQ q) (hx1 : isIx z 10000 = false) (hfl : l.stackTraces = false) (hbs : bs ≤ H0.size) : CtX l yX10_wouldGet cX10_wouldGet 5 (some .int) rm_fx_X10_wouldGet_t2 g bs [.ref xb, .int (nI f), .int (nI m0), .int z] H0 (ftA (fun _ => False) H0.size) XE1 (fun _ => True) := by
  refine CtX.of (by decide) (fun _ h => Or.inr h) (Nat.le_of_ble_eq_true rfl) ?_
  intro p e s m below meth c ls hB hZ9 hT9 hS hH hl
  have hx := hB.x
  have hb := hB.b
  have hl : lv_has ls 5 [(0, .ref xb), (1, .int (nI f)), (2, .int (nI m0)), (3, .int z)] := hl
  obtain ⟨D, P, T, Zr, Pr, zt, Pt, nx, hCi⟩ := hC
  have hS1 := hCi.2.2.1
  have hPT := hCi.2.2.2.1
  have hD : ∀ q9, xb + 10 ≤ q9 → q9 < xb + 10 + 26 → D q9 := fun q9 h1 h2 => hCi.2.2.2.2.2.2.2.2.2.2.2.2.1 q9 (by omega) (Nat.lt_of_lt_of_le (show q9 < xb + 68 by omega) hCi.2.2.2.2.2.2.2.2.2.2.2.2.2.2.2.2.1)
  have hW : WF q := hCi.2.2.2.2.2.2.2.2.2.2.2.2.2.2.1
  have hZ : WZ q := hCi.2.2.2.2.2.2.2.2.2.2.2.2.2.2.2.1
  have hnm5 := hW.2.2.1
  have hz0 : (zOf q) 0 = nI (nmQ q) := by rw [zOf_lo (by omega), hW.1]
  refine lv_aload_n hx hb dX10_wouldGet_0 rfl (lv_at hl 0 rfl) ?_
  refine lv_iload_n hx hb dX10_wouldGet_1 rfl (lv_at hl 1 rfl) ?_
  refine cl_X10_123 (As := [.int (nI f)]) (rest := []) hB (c_X10_existingFrame l g H0 xb (zOf q) P f hCi.1 hS1 (by first | assumption | omega)) hCi.1 rfl hl.1 (Nat.le_of_ble_eq_true rfl) dX10_wouldGet_2 ⟨Nat.le_of_ble_eq_true rfl, Nat.le_of_ble_eq_true rfl⟩ ⟨Nat.le_of_ble_eq_true rfl, Nat.le_of_ble_eq_true rfl⟩ hS (by have hz9 := hS.1; rintro q (h | h) <;> first | exact Or.inr (by omega) | exact h.elim | exact Or.inl h | (simp only [ftA] at h ⊢; omega)) (fun v H1 locs hpo hfr hS => ?_)
  obtain ⟨rfl, rfl⟩ := hpo
  refine W.widen (k := 0) (n := 0) (Nat.le_of_ble_eq_true rfl) (Nat.le_of_ble_eq_true rfl) ?_
  refine lv_astore (lv' := [(4, .ref ((xb + 10) + (20 + 2 * f))), (0, .ref xb), (1, .int (nI f)), (2, .int (nI m0)), (3, .int z)]) hx hb dX10_wouldGet_5 hl (by decide) rfl (fun ls hl => ?_)
  refine lv_aload_n hx hb dX10_wouldGet_7 rfl (lv_at hl 1 rfl) ?_
  refine lv_iload_n hx hb dX10_wouldGet_8 rfl (lv_at hl 3 rfl) ?_
  refine cl_X10_91 (As := [.int (nI m0)]) (rest := []) hB (c_X10_existingMember l g H0 xb (zOf q) P m0 (nmQ q) hCi.1 hS1 (by first | assumption | omega) (hz0) (hnm5)) hCi.1 rfl hl.1 (Nat.le_of_ble_eq_true rfl) dX10_wouldGet_9 ⟨Nat.le_of_ble_eq_true rfl, Nat.le_of_ble_eq_true rfl⟩ ⟨Nat.le_of_ble_eq_true rfl, Nat.le_of_ble_eq_true rfl⟩ hS (by have hz9 := hS.1; rintro q (h | h) <;> first | exact Or.inr (by omega) | exact h.elim | exact Or.inl h | (simp only [ftA] at h ⊢; omega)) (fun v H1 locs hpo hfr hS => ?_)
  obtain ⟨rfl, rfl⟩ := hpo
  refine W.widen (k := 0) (n := 0) (Nat.le_of_ble_eq_true rfl) (Nat.le_of_ble_eq_true rfl) ?_
  refine lv_pop hx hb dX10_wouldGet_12 rfl ?_
  refine lv_iload_n hx hb dX10_wouldGet_13 rfl (lv_at hl 4 rfl) ?_
  refine lv_iconst (v := nI 0) hx hb dX10_wouldGet_14 (by decide) ?_
  refine lv_sipush (v := nI 9999) hx hb dX10_wouldGet_15 (by decide +kernel) ?_
  exact mx_runS (n := 3) (As := [.int z, .int (nI 0), .int (nI 9999)]) (rest := []) kw_442 kw_1 kw_440 kw_441 (by decide +kernel)  hB hZ9 (x_X10_requireRange l g H0 bs z 0 9999 (rng_ix (b := 9999) hx1 (by omega)) hfl hbs) rfl hl.1 (Nat.le_of_ble_eq_true rfl) dX10_wouldGet_18 ⟨Nat.le_of_ble_eq_true rfl, Nat.le_of_ble_eq_true rfl⟩ ⟨Nat.le_of_ble_eq_true rfl, Nat.le_of_ble_eq_true rfl⟩ hS (by have hz9 := hS.1; rintro q (h | h) <;> first | exact h.elim | exact Or.inr (by omega)) (fun q9 H1 locs1 ce hp9 hfr9 hS9 hce hcv hcl => mx_out hT9 hB hce hcv hcl hS9 ⟨Nat.le_of_ble_eq_true rfl, Nat.le_of_ble_eq_true rfl⟩ trivial)

def rm_fx_X10_becomes_t1 : Room := { frames := 7, cells := 1, slots := 6, locals := 103 }
set_option maxRecDepth 100000 in
set_option maxHeartbeats 400000 in
theorem fx_X10_becomes_t1 (l : Launch) (g : GG) (H0 : Heap) (bs : Nat) (xb : Nat) (lim : Nat) (q : Nat → Int32) (n : Nat) (rm : Nat → Int32) (sl : Nat → Int32) (sv : Nat → Int32) (tx : Nat → Int32) (ln : Nat) (x : Int32) (y : Int32) (hC : CLS g xb lim q n rm sl sv tx ln H0) (hx1 : isIx x 3 = false) (hfl : l.stackTraces = false) (hbs : bs ≤ H0.size) : CtX l yX10_becomes cX10_becomes 6 (some .int) rm_fx_X10_becomes_t1 g bs [.ref xb, .int x, .int y] H0 (ftA (fun _ => False) H0.size) XE3 (fun _ => True) := by
  refine CtX.of (by decide) (fun _ h => Or.inr h) (Nat.le_of_ble_eq_true rfl) ?_
  intro p e s m below meth c ls hB hZ9 hT9 hS hH hl
  have hx := hB.x
  have hb := hB.b
  have hl : lv_has ls 6 [(0, .ref xb), (1, .int x), (2, .int y)] := hl
  obtain ⟨D, P, T, Zr, Pr, zt, Pt, nx, hCi⟩ := hC
  have hS1 := hCi.2.2.1
  have hPT := hCi.2.2.2.1
  have hD : ∀ q9, xb + 10 ≤ q9 → q9 < xb + 10 + 26 → D q9 := fun q9 h1 h2 => hCi.2.2.2.2.2.2.2.2.2.2.2.2.1 q9 (by omega) (Nat.lt_of_lt_of_le (show q9 < xb + 68 by omega) hCi.2.2.2.2.2.2.2.2.2.2.2.2.2.2.2.2.1)
  have hW : WF q := hCi.2.2.2.2.2.2.2.2.2.2.2.2.2.2.1
  have hZ : WZ q := hCi.2.2.2.2.2.2.2.2.2.2.2.2.2.2.2.1
  have hnm5 := hW.2.2.1
  have hz0 : (zOf q) 0 = nI (nmQ q) := by rw [zOf_lo (by omega), hW.1]
  refine lv_aload_n hx hb dX10_becomes_0 rfl (lv_at hl 0 rfl) ?_
  refine lv_iload_n hx hb dX10_becomes_1 rfl (lv_at hl 1 rfl) ?_
  exact mx_runV (C := RX10) (n := 1) (As := [.int x]) (rest := []) rfl kw_601 kw_1 kw_598 kw_600 kp_16 (by decide +kernel)  hB hZ9 (x_X10_existingFrame l g H0 bs xb (zOf q) P x hCi.1 hS1 (hx1) hfl hbs) hCi.1 rfl hl.1 (Nat.le_of_ble_eq_true rfl) dX10_becomes_2 ⟨Nat.le_of_ble_eq_true rfl, Nat.le_of_ble_eq_true rfl⟩ ⟨Nat.le_of_ble_eq_true rfl, Nat.le_of_ble_eq_true rfl⟩ hS (by have hz9 := hS.1; rintro q (h | h) <;> first | exact h.elim | exact Or.inr (by omega)) (fun q9 H1 locs1 ce hp9 hfr9 hS9 hce hcv hcl => mx_out hT9 hB hce hcv hcl hS9 ⟨Nat.le_of_ble_eq_true rfl, Nat.le_of_ble_eq_true rfl⟩ trivial)

def rm_fx_X10_becomes_t1b : Room := { frames := 7, cells := 1, slots := 6, locals := 103 }
set_option maxRecDepth 100000 in
set_option maxHeartbeats 400000 in
theorem fx_X10_becomes_t1b (l : Launch) (g : GG) (H0 : Heap) (bs : Nat) (xb : Nat) (lim : Nat) (q : Nat → Int32) (n : Nat) (rm : Nat → Int32) (sl : Nat → Int32) (sv : Nat → Int32) (tx : Nat → Int32) (ln : Nat) (f : Nat) (y : Int32) (hC : CLS g xb lim q n rm sl sv tx ln H0) (hf : f < 3) (hx1 : isIx y 3 = false) (hfl : l.stackTraces = false) (hbs : bs ≤ H0.size) : CtX l yX10_becomes cX10_becomes 6 (some .int) rm_fx_X10_becomes_t1b g bs [.ref xb, .int (nI f), .int y] H0 (ftA (fun _ => False) H0.size) XE3 (fun _ => True) := by
  refine CtX.of (by decide) (fun _ h => Or.inr h) (Nat.le_of_ble_eq_true rfl) ?_
  intro p e s m below meth c ls hB hZ9 hT9 hS hH hl
  have hx := hB.x
  have hb := hB.b
  have hl : lv_has ls 6 [(0, .ref xb), (1, .int (nI f)), (2, .int y)] := hl
  obtain ⟨D, P, T, Zr, Pr, zt, Pt, nx, hCi⟩ := hC
  have hS1 := hCi.2.2.1
  have hPT := hCi.2.2.2.1
  have hD : ∀ q9, xb + 10 ≤ q9 → q9 < xb + 10 + 26 → D q9 := fun q9 h1 h2 => hCi.2.2.2.2.2.2.2.2.2.2.2.2.1 q9 (by omega) (Nat.lt_of_lt_of_le (show q9 < xb + 68 by omega) hCi.2.2.2.2.2.2.2.2.2.2.2.2.2.2.2.2.1)
  have hW : WF q := hCi.2.2.2.2.2.2.2.2.2.2.2.2.2.2.1
  have hZ : WZ q := hCi.2.2.2.2.2.2.2.2.2.2.2.2.2.2.2.1
  have hnm5 := hW.2.2.1
  have hz0 : (zOf q) 0 = nI (nmQ q) := by rw [zOf_lo (by omega), hW.1]
  rcases hPf : P f with _ | p9
  · skip
    have hfz := hPT.none0 hf hPf
    refine lv_aload_n hx hb dX10_becomes_0 rfl (lv_at hl 0 rfl) ?_
    refine lv_iload_n hx hb dX10_becomes_1 rfl (lv_at hl 1 rfl) ?_
    refine cl_X10_123 (As := [.int (nI f)]) (rest := []) hB (c_X10_existingFrame l g H0 xb (zOf q) P f hCi.1 hS1 (by first | assumption | omega)) hCi.1 rfl hl.1 (Nat.le_of_ble_eq_true rfl) dX10_becomes_2 ⟨Nat.le_of_ble_eq_true rfl, Nat.le_of_ble_eq_true rfl⟩ ⟨Nat.le_of_ble_eq_true rfl, Nat.le_of_ble_eq_true rfl⟩ hS (by have hz9 := hS.1; rintro q (h | h) <;> first | exact Or.inr (by omega) | exact h.elim | exact Or.inl h | (simp only [ftA] at h ⊢; omega)) (fun v H1 locs hpo hfr hS => ?_)
    obtain ⟨rfl, rfl⟩ := hpo
    refine W.widen (k := 0) (n := 0) (Nat.le_of_ble_eq_true rfl) (Nat.le_of_ble_eq_true rfl) ?_
    refine gf_X10_127 hB (hS1.ofN (k := f) (by omega) hPf) rfl dX10_becomes_5 ?_
    refine lv_astore_nN (lv' := [(3, .null), (0, .ref xb), (1, .int (nI f)), (2, .int y)]) hx hb dX10_becomes_8 rfl hl (by decide) rfl (fun ls hl => ?_)
    refine lv_aload_n hx hb dX10_becomes_9 rfl (lv_at hl 1 rfl) ?_
    refine lv_iload_n hx hb dX10_becomes_10 rfl (lv_at hl 3 rfl) ?_
    exact mx_runV (C := RX10) (n := 1) (As := [.int y]) (rest := []) rfl kw_601 kw_1 kw_598 kw_600 kp_16 (by decide +kernel)  hB hZ9 (x_X10_existingFrame l g H0 bs xb (zOf q) P y hCi.1 hS1 (hx1) hfl hbs) hCi.1 rfl hl.1 (Nat.le_of_ble_eq_true rfl) dX10_becomes_11 ⟨Nat.le_of_ble_eq_true rfl, Nat.le_of_ble_eq_true rfl⟩ ⟨Nat.le_of_ble_eq_true rfl, Nat.le_of_ble_eq_true rfl⟩ hS (by have hz9 := hS.1; rintro q (h | h) <;> first | exact h.elim | exact Or.inr (by omega)) (fun q9 H1 locs1 ce hp9 hfr9 hS9 hce hcv hcl => mx_out hT9 hB hce hcv hcl hS9 ⟨Nat.le_of_ble_eq_true rfl, Nat.le_of_ble_eq_true rfl⟩ trivial)
  · skip
    have hfz := hPT.pos hf hPf
    obtain ⟨b9, hd1, hd2, hpb⟩ := hPT.some0 hf hPf
    have hw0 := hpb.2.2.1
    have hw16 := hpb.2.2.2.1
    have hh0 := hpb.2.2.2.2.1
    have hh16 := hpb.2.2.2.2.2.1
    have hwh := hpb.2.2.2.2.2.2.1
    have hcol := hpb.2.2.2.2.2.2.2
    have hfzz : szF q f = wdF q f * htF q f := rfl
    refine lv_aload_n hx hb dX10_becomes_0 rfl (lv_at hl 0 rfl) ?_
    refine lv_iload_n hx hb dX10_becomes_1 rfl (lv_at hl 1 rfl) ?_
    refine cl_X10_123 (As := [.int (nI f)]) (rest := []) hB (c_X10_existingFrame l g H0 xb (zOf q) P f hCi.1 hS1 (by first | assumption | omega)) hCi.1 rfl hl.1 (Nat.le_of_ble_eq_true rfl) dX10_becomes_2 ⟨Nat.le_of_ble_eq_true rfl, Nat.le_of_ble_eq_true rfl⟩ ⟨Nat.le_of_ble_eq_true rfl, Nat.le_of_ble_eq_true rfl⟩ hS (by have hz9 := hS.1; rintro q (h | h) <;> first | exact Or.inr (by omega) | exact h.elim | exact Or.inl h | (simp only [ftA] at h ⊢; omega)) (fun v H1 locs hpo hfr hS => ?_)
    obtain ⟨rfl, rfl⟩ := hpo
    refine W.widen (k := 0) (n := 0) (Nat.le_of_ble_eq_true rfl) (Nat.le_of_ble_eq_true rfl) ?_
    refine gf_X10_127 hB (hS1.ofS (k := f) (by omega) hPf) rfl dX10_becomes_5 ?_
    refine lv_astore_n (lv' := [(3, .ref p9), (0, .ref xb), (1, .int (nI f)), (2, .int y)]) hx hb dX10_becomes_8 rfl hl (by decide) rfl (fun ls hl => ?_)
    refine lv_aload_n hx hb dX10_becomes_9 rfl (lv_at hl 1 rfl) ?_
    refine lv_iload_n hx hb dX10_becomes_10 rfl (lv_at hl 3 rfl) ?_
    exact mx_runV (C := RX10) (n := 1) (As := [.int y]) (rest := []) rfl kw_601 kw_1 kw_598 kw_600 kp_16 (by decide +kernel)  hB hZ9 (x_X10_existingFrame l g H0 bs xb (zOf q) P y hCi.1 hS1 (hx1) hfl hbs) hCi.1 rfl hl.1 (Nat.le_of_ble_eq_true rfl) dX10_becomes_11 ⟨Nat.le_of_ble_eq_true rfl, Nat.le_of_ble_eq_true rfl⟩ ⟨Nat.le_of_ble_eq_true rfl, Nat.le_of_ble_eq_true rfl⟩ hS (by have hz9 := hS.1; rintro q (h | h) <;> first | exact h.elim | exact Or.inr (by omega)) (fun q9 H1 locs1 ce hp9 hfr9 hS9 hce hcv hcl => mx_out hT9 hB hce hcv hcl hS9 ⟨Nat.le_of_ble_eq_true rfl, Nat.le_of_ble_eq_true rfl⟩ trivial)

def rm_fx_X10_simulate_t1 : Room := { frames := 8, cells := 1, slots := 6, locals := 123 }
set_option maxRecDepth 100000 in
set_option maxHeartbeats 400000 in
theorem fx_X10_simulate_t1 (l : Launch) (g : GG) (H0 : Heap) (bs : Nat) (xb : Nat) (lim : Nat) (q : Nat → Int32) (n : Nat) (rm : Nat → Int32) (sl : Nat → Int32) (sv : Nat → Int32) (tx : Nat → Int32) (ln : Nat) (y : Int64) (x : Int32) (hC : CLS g xb lim q n rm sl sv tx ln H0) (hx1 : inL x.toInt64 1 99 = false) (hfl : l.stackTraces = false) (hbs : bs ≤ H0.size) : CtX l yX10_simulate cX10_simulate 8 (some .int) rm_fx_X10_simulate_t1 g bs [.ref xb, .long y, .int x] H0 (ftA (fun _ => False) H0.size) XE1 (fun _ => True) := by
  refine CtX.of (by decide) (fun _ h => Or.inr h) (Nat.le_of_ble_eq_true rfl) ?_
  intro p e s m below meth c ls hB hZ9 hT9 hS hH hl
  have hx := hB.x
  have hb := hB.b
  have hl : lv_has ls 8 [(0, .ref xb), (1, .long y), (3, .int x)] := hl
  obtain ⟨D, P, T, Zr, Pr, zt, Pt, nx, hCi⟩ := hC
  have hS1 := hCi.2.2.1
  have hPT := hCi.2.2.2.1
  have hD : ∀ q9, xb + 10 ≤ q9 → q9 < xb + 10 + 26 → D q9 := fun q9 h1 h2 => hCi.2.2.2.2.2.2.2.2.2.2.2.2.1 q9 (by omega) (Nat.lt_of_lt_of_le (show q9 < xb + 68 by omega) hCi.2.2.2.2.2.2.2.2.2.2.2.2.2.2.2.2.1)
  have hW : WF q := hCi.2.2.2.2.2.2.2.2.2.2.2.2.2.2.1
  have hZ : WZ q := hCi.2.2.2.2.2.2.2.2.2.2.2.2.2.2.2.1
  have hnm5 := hW.2.2.1
  have hz0 : (zOf q) 0 = nI (nmQ q) := by rw [zOf_lo (by omega), hW.1]
  refine lv_iload_n hx hb dX10_simulate_0 rfl (lv_at hl 2 rfl) ?_
  refine lv_iconst (v := nI 1) hx hb dX10_simulate_1 (by decide) ?_
  refine lv_bipush (v := nI 99) hx hb dX10_simulate_2 (by decide) ?_
  exact mx_runS (n := 3) (As := [.int x, .int (nI 1), .int (nI 99)]) (rest := []) kw_442 kw_1 kw_440 kw_441 (by decide +kernel)  hB hZ9 (x_X10_requireRange l g H0 bs x 1 99 (rng_inL (b := 99) (by omega) 99 rfl hx1) hfl hbs) rfl hl.1 (Nat.le_of_ble_eq_true rfl) dX10_simulate_4 ⟨Nat.le_of_ble_eq_true rfl, Nat.le_of_ble_eq_true rfl⟩ ⟨Nat.le_of_ble_eq_true rfl, Nat.le_of_ble_eq_true rfl⟩ hS (by have hz9 := hS.1; rintro q (h | h) <;> first | exact h.elim | exact Or.inr (by omega)) (fun q9 H1 locs1 ce hp9 hfr9 hS9 hce hcv hcl => mx_out hT9 hB hce hcv hcl hS9 ⟨Nat.le_of_ble_eq_true rfl, Nat.le_of_ble_eq_true rfl⟩ trivial)

def rm_fx_X10_runScript_t1 : Room := { frames := 8, cells := 1, slots := 6, locals := 123 }
set_option maxRecDepth 100000 in
set_option maxHeartbeats 400000 in
theorem fx_X10_runScript_t1 (l : Launch) (g : GG) (H0 : Heap) (bs : Nat) (xb : Nat) (lim : Nat) (q : Nat → Int32) (n : Nat) (rm : Nat → Int32) (sl : Nat → Int32) (sv : Nat → Int32) (tx : Nat → Int32) (ln : Nat) (x : Int32) (y : Int64) (hC : CLS g xb lim q n rm sl sv tx ln H0) (hx1 : inL x.toInt64 1 4 = false) (hfl : l.stackTraces = false) (hbs : bs ≤ H0.size) : CtX l yX10_runScript cX10_runScript 6 (some .int) rm_fx_X10_runScript_t1 g bs [.ref xb, .int x, .long y] H0 (ftA (fun _ => False) H0.size) XE1 (fun _ => True) := by
  refine CtX.of (by decide) (fun _ h => Or.inr h) (Nat.le_of_ble_eq_true rfl) ?_
  intro p e s m below meth c ls hB hZ9 hT9 hS hH hl
  have hx := hB.x
  have hb := hB.b
  have hl : lv_has ls 6 [(0, .ref xb), (1, .int x), (2, .long y)] := hl
  obtain ⟨D, P, T, Zr, Pr, zt, Pt, nx, hCi⟩ := hC
  have hS1 := hCi.2.2.1
  have hPT := hCi.2.2.2.1
  have hD : ∀ q9, xb + 10 ≤ q9 → q9 < xb + 10 + 26 → D q9 := fun q9 h1 h2 => hCi.2.2.2.2.2.2.2.2.2.2.2.2.1 q9 (by omega) (Nat.lt_of_lt_of_le (show q9 < xb + 68 by omega) hCi.2.2.2.2.2.2.2.2.2.2.2.2.2.2.2.2.1)
  have hW : WF q := hCi.2.2.2.2.2.2.2.2.2.2.2.2.2.2.1
  have hZ : WZ q := hCi.2.2.2.2.2.2.2.2.2.2.2.2.2.2.2.1
  have hnm5 := hW.2.2.1
  have hz0 : (zOf q) 0 = nI (nmQ q) := by rw [zOf_lo (by omega), hW.1]
  refine lv_iload_n hx hb dX10_runScript_0 rfl (lv_at hl 1 rfl) ?_
  refine lv_iconst (v := nI 1) hx hb dX10_runScript_1 (by decide) ?_
  refine lv_iconst (v := nI 4) hx hb dX10_runScript_2 (by decide) ?_
  exact mx_runS (n := 3) (As := [.int x, .int (nI 1), .int (nI 4)]) (rest := []) kw_442 kw_1 kw_440 kw_441 (by decide +kernel)  hB hZ9 (x_X10_requireRange l g H0 bs x 1 4 (rng_inL (b := 4) (by omega) 4 rfl hx1) hfl hbs) rfl hl.1 (Nat.le_of_ble_eq_true rfl) dX10_runScript_3 ⟨Nat.le_of_ble_eq_true rfl, Nat.le_of_ble_eq_true rfl⟩ ⟨Nat.le_of_ble_eq_true rfl, Nat.le_of_ble_eq_true rfl⟩ hS (by have hz9 := hS.1; rintro q (h | h) <;> first | exact h.elim | exact Or.inr (by omega)) (fun q9 H1 locs1 ce hp9 hfr9 hS9 hce hcv hcl => mx_out hT9 hB hce hcv hcl hS9 ⟨Nat.le_of_ble_eq_true rfl, Nat.le_of_ble_eq_true rfl⟩ trivial)

def rm_fx_X10_save_t1 : Room := { frames := 7, cells := 1, slots := 6, locals := 101 }
set_option maxRecDepth 100000 in
set_option maxHeartbeats 400000 in
theorem fx_X10_save_t1 (l : Launch) (g : GG) (H0 : Heap) (bs : Nat) (xb : Nat) (lim : Nat) (q : Nat → Int32) (n : Nat) (rm : Nat → Int32) (sl : Nat → Int32) (sv : Nat → Int32) (tx : Nat → Int32) (ln : Nat) (x : Int32) (hC : CLS g xb lim q n rm sl sv tx ln H0) (hx1 : isIx x 2 = false) (hfl : l.stackTraces = false) (hbs : bs ≤ H0.size) : CtX l yX10_save cX10_save 2 (some .int) rm_fx_X10_save_t1 g bs [.ref xb, .int x] H0 (ftA (fun _ => False) H0.size) XE3 (fun _ => True) := by
  refine CtX.of (by decide) (fun _ h => Or.inr h) (Nat.le_of_ble_eq_true rfl) ?_
  intro p e s m below meth c ls hB hZ9 hT9 hS hH hl
  have hx := hB.x
  have hb := hB.b
  have hl : lv_has ls 2 [(0, .ref xb), (1, .int x)] := hl
  obtain ⟨D, P, T, Zr, Pr, zt, Pt, nx, hCi⟩ := hC
  have hS1 := hCi.2.2.1
  have hPT := hCi.2.2.2.1
  have hD : ∀ q9, xb + 10 ≤ q9 → q9 < xb + 10 + 26 → D q9 := fun q9 h1 h2 => hCi.2.2.2.2.2.2.2.2.2.2.2.2.1 q9 (by omega) (Nat.lt_of_lt_of_le (show q9 < xb + 68 by omega) hCi.2.2.2.2.2.2.2.2.2.2.2.2.2.2.2.2.1)
  have hW : WF q := hCi.2.2.2.2.2.2.2.2.2.2.2.2.2.2.1
  have hZ : WZ q := hCi.2.2.2.2.2.2.2.2.2.2.2.2.2.2.2.1
  have hnm5 := hW.2.2.1
  have hz0 : (zOf q) 0 = nI (nmQ q) := by rw [zOf_lo (by omega), hW.1]
  refine lv_iload_n hx hb dX10_save_0 rfl (lv_at hl 1 rfl) ?_
  exact mx_runS (n := 1) (As := [.int x]) (rest := []) kw_951 kw_1 kw_949 kw_950 (by decide +kernel)  hB hZ9 (x_X10_requireSlot l g H0 bs x (by first | assumption | omega) hfl hbs) rfl hl.1 (Nat.le_of_ble_eq_true rfl) dX10_save_1 ⟨Nat.le_of_ble_eq_true rfl, Nat.le_of_ble_eq_true rfl⟩ ⟨Nat.le_of_ble_eq_true rfl, Nat.le_of_ble_eq_true rfl⟩ hS (by have hz9 := hS.1; rintro q (h | h) <;> first | exact h.elim | exact Or.inr (by omega)) (fun q9 H1 locs1 ce hp9 hfr9 hS9 hce hcv hcl => mx_out hT9 hB hce hcv hcl hS9 ⟨Nat.le_of_ble_eq_true rfl, Nat.le_of_ble_eq_true rfl⟩ trivial)

def rm_fx_X10_restore_t1 : Room := { frames := 7, cells := 1, slots := 6, locals := 101 }
set_option maxRecDepth 100000 in
set_option maxHeartbeats 400000 in
theorem fx_X10_restore_t1 (l : Launch) (g : GG) (H0 : Heap) (bs : Nat) (xb : Nat) (lim : Nat) (q : Nat → Int32) (n : Nat) (rm : Nat → Int32) (sl : Nat → Int32) (sv : Nat → Int32) (tx : Nat → Int32) (ln : Nat) (x : Int32) (hC : CLS g xb lim q n rm sl sv tx ln H0) (hx1 : isIx x 2 = false) (hfl : l.stackTraces = false) (hbs : bs ≤ H0.size) : CtX l yX10_restore cX10_restore 3 (some .int) rm_fx_X10_restore_t1 g bs [.ref xb, .int x] H0 (ftA (fun _ => False) H0.size) XE3 (fun _ => True) := by
  refine CtX.of (by decide) (fun _ h => Or.inr h) (Nat.le_of_ble_eq_true rfl) ?_
  intro p e s m below meth c ls hB hZ9 hT9 hS hH hl
  have hx := hB.x
  have hb := hB.b
  have hl : lv_has ls 3 [(0, .ref xb), (1, .int x)] := hl
  obtain ⟨D, P, T, Zr, Pr, zt, Pt, nx, hCi⟩ := hC
  have hS1 := hCi.2.2.1
  have hPT := hCi.2.2.2.1
  have hD : ∀ q9, xb + 10 ≤ q9 → q9 < xb + 10 + 26 → D q9 := fun q9 h1 h2 => hCi.2.2.2.2.2.2.2.2.2.2.2.2.1 q9 (by omega) (Nat.lt_of_lt_of_le (show q9 < xb + 68 by omega) hCi.2.2.2.2.2.2.2.2.2.2.2.2.2.2.2.2.1)
  have hW : WF q := hCi.2.2.2.2.2.2.2.2.2.2.2.2.2.2.1
  have hZ : WZ q := hCi.2.2.2.2.2.2.2.2.2.2.2.2.2.2.2.1
  have hnm5 := hW.2.2.1
  have hz0 : (zOf q) 0 = nI (nmQ q) := by rw [zOf_lo (by omega), hW.1]
  refine lv_iload_n hx hb dX10_restore_0 rfl (lv_at hl 1 rfl) ?_
  exact mx_runS (n := 1) (As := [.int x]) (rest := []) kw_951 kw_1 kw_949 kw_950 (by decide +kernel)  hB hZ9 (x_X10_requireSlot l g H0 bs x (by first | assumption | omega) hfl hbs) rfl hl.1 (Nat.le_of_ble_eq_true rfl) dX10_restore_1 ⟨Nat.le_of_ble_eq_true rfl, Nat.le_of_ble_eq_true rfl⟩ ⟨Nat.le_of_ble_eq_true rfl, Nat.le_of_ble_eq_true rfl⟩ hS (by have hz9 := hS.1; rintro q (h | h) <;> first | exact h.elim | exact Or.inr (by omega)) (fun q9 H1 locs1 ce hp9 hfr9 hS9 hce hcv hcl => mx_out hT9 hB hce hcv hcl hS9 ⟨Nat.le_of_ble_eq_true rfl, Nat.le_of_ble_eq_true rfl⟩ trivial)
