theorem clV_coV {q : Nat → Int32} {c : Nat} (hc : c < 6) : ∀ w, w < 5 → clV (zOf q) c w = coV q c w
  | 0, _ => zOf_lo (by omega)
  | 1, _ => zOf_cG hc
  | 2, _ => zOf_cQ hc
  | 3, _ => zOf_lo (by omega)
  | 4, _ => zOf_lo (by omega)
theorem cntR_none {P : Nat → Bool} (h : ∀ k, P k = false) (a : Nat) : ∀ n, cntR P a n = 0
  | 0 => rfl
  | n + 1 => by
    show cntR P a n + (if P (a + n) = true then 1 else 0) = 0
    rw [cntR_none h a n, h (a + n), if_neg (by decide)]
theorem WFf.e0 {q : Nat → Int32} {f : Nat} (h : WFf q f) (h0 : szF q f = 0) : wdF q f = 0 ∧ htF q f = 0 ∧ swF q f = 0 := by
  have h1 := h.wh0
  have h2 := WF.sw h
  unfold szF at h0 h2
  rcases Nat.mul_eq_zero.mp h0 with y | y
  · exact ⟨y, h1.mp y, by omega⟩
  · exact ⟨h1.mpr y, y, by omega⟩

def rm_f_X10_about_0 : Room := { frames := 2, cells := 0, slots := 0, locals := 42 }
set_option maxRecDepth 100000 in
set_option maxHeartbeats 400000 in
theorem f_X10_about_0 (l : Launch) (g : GG) (H0 : Heap) (xb : Nat) (lim : Nat) (q : Nat → Int32) (n : Nat) (rm : Nat → Int32) (sl : Nat → Int32) (sv : Nat → Int32) (tx : Nat → Int32) (ln : Nat) (hC : CLS g xb lim q n rm sl sv tx ln H0) : Ct l yX10_about cX10_about 2 (some .int) rm_f_X10_about_0 g [.ref xb, .int (nI 0)] H0 (ftA (fun _ => False) H0.size) (fun v H1 => v = some (.int (abV q 0)) ∧ H0 = H1) := by
  refine Ct.of (by decide) (fun _ h => Or.inr h) (Nat.le_of_ble_eq_true rfl) ?_
  intro p e s m below meth c ls hB hin hS hH hl
  have hx := hB.x
  have hb := hB.b
  have hl : lv_has ls 2 [(0, .ref xb), (1, .int (nI 0))] := hl
  obtain ⟨D, P, T, Zr, Pr, zt, Pt, nx, hCi⟩ := hC
  have hS1 := hCi.2.2.1
  have hPT := hCi.2.2.2.1
  have hD : ∀ q9, xb + 10 ≤ q9 → q9 < xb + 10 + 26 → D q9 := fun q9 h1 h2 => hCi.2.2.2.2.2.2.2.2.2.2.2.2.1 q9 (by omega) (Nat.lt_of_lt_of_le (show q9 < xb + 68 by omega) hCi.2.2.2.2.2.2.2.2.2.2.2.2.2.2.2.2.1)
  have hW : WF q := hCi.2.2.2.2.2.2.2.2.2.2.2.2.2.2.1
  have hZ : WZ q := hCi.2.2.2.2.2.2.2.2.2.2.2.2.2.2.2.1
  have hnm5 := hW.2.2.1
  have hz0 : (zOf q) 0 = nI (nmQ q) := by rw [zOf_lo (by omega), hW.1]
  refine lv_iload_n hx hb dX10_about_0 rfl (lv_at hl 1 rfl) ?_
  refine lv_iconst (v := nI 0) hx hb dX10_about_1 (by decide) ?_
  refine lv_bipush (v := nI 8) hx hb dX10_about_2 (by decide) ?_
  refine cl_X10_44 (As := [.int (nI 0), .int (nI 0), .int (nI 8)]) (rest := []) hB (c_X10_requireRange l g H0 0 0 8 (by first | assumption | omega) (by first | assumption | omega) (by first | assumption | omega)) rfl hl.1 (Nat.le_of_ble_eq_true rfl) dX10_about_4 ⟨Nat.le_of_ble_eq_true rfl, Nat.le_of_ble_eq_true rfl⟩ ⟨Nat.le_of_ble_eq_true rfl, Nat.le_of_ble_eq_true rfl⟩ hS (by have hz9 := hS.1; rintro q (h | h) <;> first | exact Or.inr (by omega) | exact h.elim | exact Or.inl h | (simp only [ftA] at h ⊢; omega)) (fun v H1 locs hpo hfr hS => ?_)
  obtain ⟨rfl, rfl⟩ := hpo
  refine W.widen (k := 0) (n := 0) (Nat.le_of_ble_eq_true rfl) (Nat.le_of_ble_eq_true rfl) ?_
  refine lv_iload_n hx hb dX10_about_7 rfl (lv_at hl 1 rfl) ?_
  refine lv_tableIn (tgt := 56) (off := 48) hx hb dX10_about_8 (by decide) (by decide) (by decide) (by decide) ?_
  refine lv_aload_n hx hb dX10_about_56 rfl (lv_at hl 0 rfl) ?_
  refine gf_X10_19 hB hCi.1 rfl dX10_about_57 ?_
  refine gf_X10_67 hB hS1.o rfl dX10_about_60 ?_
  refine mh_iret hB ⟨Nat.le_of_ble_eq_true rfl, Nat.le_of_ble_eq_true rfl⟩ hS dX10_about_63 ⟨?_, rfl⟩
  · rw [zOf_lo (by omega)]; rfl

def rm_f_X10_about_1 : Room := { frames := 2, cells := 0, slots := 0, locals := 42 }
set_option maxRecDepth 100000 in
set_option maxHeartbeats 400000 in
theorem f_X10_about_1 (l : Launch) (g : GG) (H0 : Heap) (xb : Nat) (lim : Nat) (q : Nat → Int32) (n : Nat) (rm : Nat → Int32) (sl : Nat → Int32) (sv : Nat → Int32) (tx : Nat → Int32) (ln : Nat) (hC : CLS g xb lim q n rm sl sv tx ln H0) : Ct l yX10_about cX10_about 2 (some .int) rm_f_X10_about_1 g [.ref xb, .int (nI 1)] H0 (ftA (fun _ => False) H0.size) (fun v H1 => v = some (.int (abV q 1)) ∧ H0 = H1) := by
  refine Ct.of (by decide) (fun _ h => Or.inr h) (Nat.le_of_ble_eq_true rfl) ?_
  intro p e s m below meth c ls hB hin hS hH hl
  have hx := hB.x
  have hb := hB.b
  have hl : lv_has ls 2 [(0, .ref xb), (1, .int (nI 1))] := hl
  obtain ⟨D, P, T, Zr, Pr, zt, Pt, nx, hCi⟩ := hC
  have hS1 := hCi.2.2.1
  have hPT := hCi.2.2.2.1
  have hD : ∀ q9, xb + 10 ≤ q9 → q9 < xb + 10 + 26 → D q9 := fun q9 h1 h2 => hCi.2.2.2.2.2.2.2.2.2.2.2.2.1 q9 (by omega) (Nat.lt_of_lt_of_le (show q9 < xb + 68 by omega) hCi.2.2.2.2.2.2.2.2.2.2.2.2.2.2.2.2.1)
  have hW : WF q := hCi.2.2.2.2.2.2.2.2.2.2.2.2.2.2.1
  have hZ : WZ q := hCi.2.2.2.2.2.2.2.2.2.2.2.2.2.2.2.1
  have hnm5 := hW.2.2.1
  have hz0 : (zOf q) 0 = nI (nmQ q) := by rw [zOf_lo (by omega), hW.1]
  refine lv_iload_n hx hb dX10_about_0 rfl (lv_at hl 1 rfl) ?_
  refine lv_iconst (v := nI 0) hx hb dX10_about_1 (by decide) ?_
  refine lv_bipush (v := nI 8) hx hb dX10_about_2 (by decide) ?_
  refine cl_X10_44 (As := [.int (nI 1), .int (nI 0), .int (nI 8)]) (rest := []) hB (c_X10_requireRange l g H0 1 0 8 (by first | assumption | omega) (by first | assumption | omega) (by first | assumption | omega)) rfl hl.1 (Nat.le_of_ble_eq_true rfl) dX10_about_4 ⟨Nat.le_of_ble_eq_true rfl, Nat.le_of_ble_eq_true rfl⟩ ⟨Nat.le_of_ble_eq_true rfl, Nat.le_of_ble_eq_true rfl⟩ hS (by have hz9 := hS.1; rintro q (h | h) <;> first | exact Or.inr (by omega) | exact h.elim | exact Or.inl h | (simp only [ftA] at h ⊢; omega)) (fun v H1 locs hpo hfr hS => ?_)
  obtain ⟨rfl, rfl⟩ := hpo
  refine W.widen (k := 0) (n := 0) (Nat.le_of_ble_eq_true rfl) (Nat.le_of_ble_eq_true rfl) ?_
  refine lv_iload_n hx hb dX10_about_7 rfl (lv_at hl 1 rfl) ?_
  refine lv_tableIn (tgt := 64) (off := 56) hx hb dX10_about_8 (by decide) (by decide) (by decide) (by decide) ?_
  refine lv_aload_n hx hb dX10_about_64 rfl (lv_at hl 0 rfl) ?_
  refine gf_X10_19 hB hCi.1 rfl dX10_about_65 ?_
  refine gf_X10_67 hB hS1.o rfl dX10_about_68 ?_
  refine mh_top (y := .int (nI (nmQ q))) (by rw [hz0]) ?_
  refine mn_if_le (tgt := 84) hB dX10_about_71 (by decide) (by omega) (fun h_71 => ?_) (fun h_71 => ?_)
  · skip
    refine lv_bipush (v := (-9)) hx hb dX10_about_84 (by decide) ?_
    refine mh_iret hB ⟨Nat.le_of_ble_eq_true rfl, Nat.le_of_ble_eq_true rfl⟩ hS dX10_about_86 ⟨?_, rfl⟩
    · show some (Value.int _) = some (Value.int (if nmQ q = 0 then -9 else q 1))
      first | (rw [if_pos (by omega)]; done) | (rw [if_neg (by omega), zOf_lo (by omega)])
  · skip
    refine lv_aload_n hx hb dX10_about_74 rfl (lv_at hl 0 rfl) ?_
    refine gf_X10_19 hB hCi.1 rfl dX10_about_75 ?_
    refine gf_X10_71 hB hS1.o rfl dX10_about_78 ?_
    refine lv_goto (tgt := 86) hx hb dX10_about_81 (by decide) ?_
    refine mh_iret hB ⟨Nat.le_of_ble_eq_true rfl, Nat.le_of_ble_eq_true rfl⟩ hS dX10_about_86 ⟨?_, rfl⟩
    · show some (Value.int _) = some (Value.int (if nmQ q = 0 then -9 else q 1))
      first | (rw [if_pos (by omega)]; done) | (rw [if_neg (by omega), zOf_lo (by omega)])

def rm_f_X10_about_2 : Room := { frames := 2, cells := 0, slots := 0, locals := 44 }
set_option maxRecDepth 100000 in
set_option maxHeartbeats 400000 in
theorem f_X10_about_2 (l : Launch) (g : GG) (H0 : Heap) (xb : Nat) (lim : Nat) (q : Nat → Int32) (n : Nat) (rm : Nat → Int32) (sl : Nat → Int32) (sv : Nat → Int32) (tx : Nat → Int32) (ln : Nat) (hC : CLS g xb lim q n rm sl sv tx ln H0) : Ct l yX10_about cX10_about 2 (some .int) rm_f_X10_about_2 g [.ref xb, .int (nI 2)] H0 (ftA (fun _ => False) H0.size) (fun v H1 => v = some (.int (abV q 2)) ∧ H0 = H1) := by
  refine Ct.of (by decide) (fun _ h => Or.inr h) (Nat.le_of_ble_eq_true rfl) ?_
  intro p e s m below meth c ls hB hin hS hH hl
  have hx := hB.x
  have hb := hB.b
  have hl : lv_has ls 2 [(0, .ref xb), (1, .int (nI 2))] := hl
  obtain ⟨D, P, T, Zr, Pr, zt, Pt, nx, hCi⟩ := hC
  have hS1 := hCi.2.2.1
  have hPT := hCi.2.2.2.1
  have hD : ∀ q9, xb + 10 ≤ q9 → q9 < xb + 10 + 26 → D q9 := fun q9 h1 h2 => hCi.2.2.2.2.2.2.2.2.2.2.2.2.1 q9 (by omega) (Nat.lt_of_lt_of_le (show q9 < xb + 68 by omega) hCi.2.2.2.2.2.2.2.2.2.2.2.2.2.2.2.2.1)
  have hW : WF q := hCi.2.2.2.2.2.2.2.2.2.2.2.2.2.2.1
  have hZ : WZ q := hCi.2.2.2.2.2.2.2.2.2.2.2.2.2.2.2.1
  have hnm5 := hW.2.2.1
  have hz0 : (zOf q) 0 = nI (nmQ q) := by rw [zOf_lo (by omega), hW.1]
  refine lv_iload_n hx hb dX10_about_0 rfl (lv_at hl 1 rfl) ?_
  refine lv_iconst (v := nI 0) hx hb dX10_about_1 (by decide) ?_
  refine lv_bipush (v := nI 8) hx hb dX10_about_2 (by decide) ?_
  refine cl_X10_44 (As := [.int (nI 2), .int (nI 0), .int (nI 8)]) (rest := []) hB (c_X10_requireRange l g H0 2 0 8 (by first | assumption | omega) (by first | assumption | omega) (by first | assumption | omega)) rfl hl.1 (Nat.le_of_ble_eq_true rfl) dX10_about_4 ⟨Nat.le_of_ble_eq_true rfl, Nat.le_of_ble_eq_true rfl⟩ ⟨Nat.le_of_ble_eq_true rfl, Nat.le_of_ble_eq_true rfl⟩ hS (by have hz9 := hS.1; rintro q (h | h) <;> first | exact Or.inr (by omega) | exact h.elim | exact Or.inl h | (simp only [ftA] at h ⊢; omega)) (fun v H1 locs hpo hfr hS => ?_)
  obtain ⟨rfl, rfl⟩ := hpo
  refine W.widen (k := 0) (n := 0) (Nat.le_of_ble_eq_true rfl) (Nat.le_of_ble_eq_true rfl) ?_
  refine lv_iload_n hx hb dX10_about_7 rfl (lv_at hl 1 rfl) ?_
  refine lv_tableIn (tgt := 87) (off := 79) hx hb dX10_about_8 (by decide) (by decide) (by decide) (by decide) ?_
  refine lv_aload_n hx hb dX10_about_87 rfl (lv_at hl 0 rfl) ?_
  refine gf_X10_19 hB hCi.1 rfl dX10_about_88 ?_
  refine cl_X10_74 (As := []) (rest := []) hB (c_X8_usedFrames l g H0 (xb + 10) (zOf q) P D q hS1 hPT) hS1.o rfl hl.1 (Nat.le_of_ble_eq_true rfl) dX10_about_91 ⟨Nat.le_of_ble_eq_true rfl, Nat.le_of_ble_eq_true rfl⟩ ⟨Nat.le_of_ble_eq_true rfl, Nat.le_of_ble_eq_true rfl⟩ hS (by have hz9 := hS.1; rintro q (h | h) <;> first | exact Or.inr (by omega) | exact h.elim | exact Or.inl h | (simp only [ftA] at h ⊢; omega)) (fun v H1 locs hpo hfr hS => ?_)
  obtain ⟨rfl, rfl⟩ := hpo
  refine W.widen (k := 0) (n := 0) (Nat.le_of_ble_eq_true rfl) (Nat.le_of_ble_eq_true rfl) ?_
  refine mh_iret hB ⟨Nat.le_of_ble_eq_true rfl, Nat.le_of_ble_eq_true rfl⟩ hS dX10_about_94 ⟨?_, rfl⟩
  · rfl

def rm_f_X10_about_3 : Room := { frames := 2, cells := 0, slots := 0, locals := 42 }
set_option maxRecDepth 100000 in
set_option maxHeartbeats 400000 in
theorem f_X10_about_3 (l : Launch) (g : GG) (H0 : Heap) (xb : Nat) (lim : Nat) (q : Nat → Int32) (n : Nat) (rm : Nat → Int32) (sl : Nat → Int32) (sv : Nat → Int32) (tx : Nat → Int32) (ln : Nat) (hC : CLS g xb lim q n rm sl sv tx ln H0) : Ct l yX10_about cX10_about 2 (some .int) rm_f_X10_about_3 g [.ref xb, .int (nI 3)] H0 (ftA (fun _ => False) H0.size) (fun v H1 => v = some (.int (abV q 3)) ∧ H0 = H1) := by
  refine Ct.of (by decide) (fun _ h => Or.inr h) (Nat.le_of_ble_eq_true rfl) ?_
  intro p e s m below meth c ls hB hin hS hH hl
  have hx := hB.x
  have hb := hB.b
  have hl : lv_has ls 2 [(0, .ref xb), (1, .int (nI 3))] := hl
  obtain ⟨D, P, T, Zr, Pr, zt, Pt, nx, hCi⟩ := hC
  have hS1 := hCi.2.2.1
  have hPT := hCi.2.2.2.1
  have hD : ∀ q9, xb + 10 ≤ q9 → q9 < xb + 10 + 26 → D q9 := fun q9 h1 h2 => hCi.2.2.2.2.2.2.2.2.2.2.2.2.1 q9 (by omega) (Nat.lt_of_lt_of_le (show q9 < xb + 68 by omega) hCi.2.2.2.2.2.2.2.2.2.2.2.2.2.2.2.2.1)
  have hW : WF q := hCi.2.2.2.2.2.2.2.2.2.2.2.2.2.2.1
  have hZ : WZ q := hCi.2.2.2.2.2.2.2.2.2.2.2.2.2.2.2.1
  have hnm5 := hW.2.2.1
  have hz0 : (zOf q) 0 = nI (nmQ q) := by rw [zOf_lo (by omega), hW.1]
  refine lv_iload_n hx hb dX10_about_0 rfl (lv_at hl 1 rfl) ?_
  refine lv_iconst (v := nI 0) hx hb dX10_about_1 (by decide) ?_
  refine lv_bipush (v := nI 8) hx hb dX10_about_2 (by decide) ?_
  refine cl_X10_44 (As := [.int (nI 3), .int (nI 0), .int (nI 8)]) (rest := []) hB (c_X10_requireRange l g H0 3 0 8 (by first | assumption | omega) (by first | assumption | omega) (by first | assumption | omega)) rfl hl.1 (Nat.le_of_ble_eq_true rfl) dX10_about_4 ⟨Nat.le_of_ble_eq_true rfl, Nat.le_of_ble_eq_true rfl⟩ ⟨Nat.le_of_ble_eq_true rfl, Nat.le_of_ble_eq_true rfl⟩ hS (by have hz9 := hS.1; rintro q (h | h) <;> first | exact Or.inr (by omega) | exact h.elim | exact Or.inl h | (simp only [ftA] at h ⊢; omega)) (fun v H1 locs hpo hfr hS => ?_)
  obtain ⟨rfl, rfl⟩ := hpo
  refine W.widen (k := 0) (n := 0) (Nat.le_of_ble_eq_true rfl) (Nat.le_of_ble_eq_true rfl) ?_
  refine lv_iload_n hx hb dX10_about_7 rfl (lv_at hl 1 rfl) ?_
  refine lv_tableIn (tgt := 95) (off := 87) hx hb dX10_about_8 (by decide) (by decide) (by decide) (by decide) ?_
  refine lv_aload_n hx hb dX10_about_95 rfl (lv_at hl 0 rfl) ?_
  refine gf_X10_19 hB hCi.1 rfl dX10_about_96 ?_
  refine gf_X10_77 hB hS1.o rfl dX10_about_99 ?_
  refine mh_iret hB ⟨Nat.le_of_ble_eq_true rfl, Nat.le_of_ble_eq_true rfl⟩ hS dX10_about_102 ⟨?_, rfl⟩
  · rw [zOf_lo (by omega)]; rfl

def rm_f_X10_about_4 : Room := { frames := 2, cells := 0, slots := 0, locals := 42 }
set_option maxRecDepth 100000 in
set_option maxHeartbeats 400000 in
theorem f_X10_about_4 (l : Launch) (g : GG) (H0 : Heap) (xb : Nat) (lim : Nat) (q : Nat → Int32) (n : Nat) (rm : Nat → Int32) (sl : Nat → Int32) (sv : Nat → Int32) (tx : Nat → Int32) (ln : Nat) (hC : CLS g xb lim q n rm sl sv tx ln H0) : Ct l yX10_about cX10_about 2 (some .int) rm_f_X10_about_4 g [.ref xb, .int (nI 4)] H0 (ftA (fun _ => False) H0.size) (fun v H1 => v = some (.int (abV q 4)) ∧ H0 = H1) := by
  refine Ct.of (by decide) (fun _ h => Or.inr h) (Nat.le_of_ble_eq_true rfl) ?_
  intro p e s m below meth c ls hB hin hS hH hl
  have hx := hB.x
  have hb := hB.b
  have hl : lv_has ls 2 [(0, .ref xb), (1, .int (nI 4))] := hl
  obtain ⟨D, P, T, Zr, Pr, zt, Pt, nx, hCi⟩ := hC
  have hS1 := hCi.2.2.1
  have hPT := hCi.2.2.2.1
  have hD : ∀ q9, xb + 10 ≤ q9 → q9 < xb + 10 + 26 → D q9 := fun q9 h1 h2 => hCi.2.2.2.2.2.2.2.2.2.2.2.2.1 q9 (by omega) (Nat.lt_of_lt_of_le (show q9 < xb + 68 by omega) hCi.2.2.2.2.2.2.2.2.2.2.2.2.2.2.2.2.1)
  have hW : WF q := hCi.2.2.2.2.2.2.2.2.2.2.2.2.2.2.1
  have hZ : WZ q := hCi.2.2.2.2.2.2.2.2.2.2.2.2.2.2.2.1
  have hnm5 := hW.2.2.1
  have hz0 : (zOf q) 0 = nI (nmQ q) := by rw [zOf_lo (by omega), hW.1]
  refine lv_iload_n hx hb dX10_about_0 rfl (lv_at hl 1 rfl) ?_
  refine lv_iconst (v := nI 0) hx hb dX10_about_1 (by decide) ?_
  refine lv_bipush (v := nI 8) hx hb dX10_about_2 (by decide) ?_
  refine cl_X10_44 (As := [.int (nI 4), .int (nI 0), .int (nI 8)]) (rest := []) hB (c_X10_requireRange l g H0 4 0 8 (by first | assumption | omega) (by first | assumption | omega) (by first | assumption | omega)) rfl hl.1 (Nat.le_of_ble_eq_true rfl) dX10_about_4 ⟨Nat.le_of_ble_eq_true rfl, Nat.le_of_ble_eq_true rfl⟩ ⟨Nat.le_of_ble_eq_true rfl, Nat.le_of_ble_eq_true rfl⟩ hS (by have hz9 := hS.1; rintro q (h | h) <;> first | exact Or.inr (by omega) | exact h.elim | exact Or.inl h | (simp only [ftA] at h ⊢; omega)) (fun v H1 locs hpo hfr hS => ?_)
  obtain ⟨rfl, rfl⟩ := hpo
  refine W.widen (k := 0) (n := 0) (Nat.le_of_ble_eq_true rfl) (Nat.le_of_ble_eq_true rfl) ?_
  refine lv_iload_n hx hb dX10_about_7 rfl (lv_at hl 1 rfl) ?_
  refine lv_tableIn (tgt := 103) (off := 95) hx hb dX10_about_8 (by decide) (by decide) (by decide) (by decide) ?_
  refine lv_aload_n hx hb dX10_about_103 rfl (lv_at hl 0 rfl) ?_
  refine gf_X10_19 hB hCi.1 rfl dX10_about_104 ?_
  refine gf_X10_80 hB hS1.o rfl dX10_about_107 ?_
  refine mh_iret hB ⟨Nat.le_of_ble_eq_true rfl, Nat.le_of_ble_eq_true rfl⟩ hS dX10_about_110 ⟨?_, rfl⟩
  · rw [zOf_lo (by omega)]; rfl

def rm_f_X10_about_5 : Room := { frames := 2, cells := 0, slots := 0, locals := 42 }
set_option maxRecDepth 100000 in
set_option maxHeartbeats 400000 in
theorem f_X10_about_5 (l : Launch) (g : GG) (H0 : Heap) (xb : Nat) (lim : Nat) (q : Nat → Int32) (n : Nat) (rm : Nat → Int32) (sl : Nat → Int32) (sv : Nat → Int32) (tx : Nat → Int32) (ln : Nat) (hC : CLS g xb lim q n rm sl sv tx ln H0) : Ct l yX10_about cX10_about 2 (some .int) rm_f_X10_about_5 g [.ref xb, .int (nI 5)] H0 (ftA (fun _ => False) H0.size) (fun v H1 => v = some (.int (abV q 5)) ∧ H0 = H1) := by
  refine Ct.of (by decide) (fun _ h => Or.inr h) (Nat.le_of_ble_eq_true rfl) ?_
  intro p e s m below meth c ls hB hin hS hH hl
  have hx := hB.x
  have hb := hB.b
  have hl : lv_has ls 2 [(0, .ref xb), (1, .int (nI 5))] := hl
  obtain ⟨D, P, T, Zr, Pr, zt, Pt, nx, hCi⟩ := hC
  have hS1 := hCi.2.2.1
  have hPT := hCi.2.2.2.1
  have hD : ∀ q9, xb + 10 ≤ q9 → q9 < xb + 10 + 26 → D q9 := fun q9 h1 h2 => hCi.2.2.2.2.2.2.2.2.2.2.2.2.1 q9 (by omega) (Nat.lt_of_lt_of_le (show q9 < xb + 68 by omega) hCi.2.2.2.2.2.2.2.2.2.2.2.2.2.2.2.2.1)
  have hW : WF q := hCi.2.2.2.2.2.2.2.2.2.2.2.2.2.2.1
  have hZ : WZ q := hCi.2.2.2.2.2.2.2.2.2.2.2.2.2.2.2.1
  have hnm5 := hW.2.2.1
  have hz0 : (zOf q) 0 = nI (nmQ q) := by rw [zOf_lo (by omega), hW.1]
  refine lv_iload_n hx hb dX10_about_0 rfl (lv_at hl 1 rfl) ?_
  refine lv_iconst (v := nI 0) hx hb dX10_about_1 (by decide) ?_
  refine lv_bipush (v := nI 8) hx hb dX10_about_2 (by decide) ?_
  refine cl_X10_44 (As := [.int (nI 5), .int (nI 0), .int (nI 8)]) (rest := []) hB (c_X10_requireRange l g H0 5 0 8 (by first | assumption | omega) (by first | assumption | omega) (by first | assumption | omega)) rfl hl.1 (Nat.le_of_ble_eq_true rfl) dX10_about_4 ⟨Nat.le_of_ble_eq_true rfl, Nat.le_of_ble_eq_true rfl⟩ ⟨Nat.le_of_ble_eq_true rfl, Nat.le_of_ble_eq_true rfl⟩ hS (by have hz9 := hS.1; rintro q (h | h) <;> first | exact Or.inr (by omega) | exact h.elim | exact Or.inl h | (simp only [ftA] at h ⊢; omega)) (fun v H1 locs hpo hfr hS => ?_)
  obtain ⟨rfl, rfl⟩ := hpo
  refine W.widen (k := 0) (n := 0) (Nat.le_of_ble_eq_true rfl) (Nat.le_of_ble_eq_true rfl) ?_
  refine lv_iload_n hx hb dX10_about_7 rfl (lv_at hl 1 rfl) ?_
  refine lv_tableIn (tgt := 111) (off := 103) hx hb dX10_about_8 (by decide) (by decide) (by decide) (by decide) ?_
  refine lv_aload_n hx hb dX10_about_111 rfl (lv_at hl 0 rfl) ?_
  refine gf_X10_19 hB hCi.1 rfl dX10_about_112 ?_
  refine gf_X10_83 hB hS1.o rfl dX10_about_115 ?_
  refine mh_iret hB ⟨Nat.le_of_ble_eq_true rfl, Nat.le_of_ble_eq_true rfl⟩ hS dX10_about_118 ⟨?_, rfl⟩
  · rw [zOf_lo (by omega)]; rfl

def rm_f_X10_about_6 : Room := { frames := 2, cells := 0, slots := 0, locals := 45 }
set_option maxRecDepth 100000 in
set_option maxHeartbeats 400000 in
theorem f_X10_about_6 (l : Launch) (g : GG) (H0 : Heap) (xb : Nat) (lim : Nat) (q : Nat → Int32) (n : Nat) (rm : Nat → Int32) (sl : Nat → Int32) (sv : Nat → Int32) (tx : Nat → Int32) (ln : Nat) (hC : CLS g xb lim q n rm sl sv tx ln H0) : Ct l yX10_about cX10_about 2 (some .int) rm_f_X10_about_6 g [.ref xb, .int (nI 6)] H0 (ftA (fun _ => False) H0.size) (fun v H1 => v = some (.int (abV q 6)) ∧ H0 = H1) := by
  refine Ct.of (by decide) (fun _ h => Or.inr h) (Nat.le_of_ble_eq_true rfl) ?_
  intro p e s m below meth c ls hB hin hS hH hl
  have hx := hB.x
  have hb := hB.b
  have hl : lv_has ls 2 [(0, .ref xb), (1, .int (nI 6))] := hl
  obtain ⟨D, P, T, Zr, Pr, zt, Pt, nx, hCi⟩ := hC
  have hS1 := hCi.2.2.1
  have hPT := hCi.2.2.2.1
  have hD : ∀ q9, xb + 10 ≤ q9 → q9 < xb + 10 + 26 → D q9 := fun q9 h1 h2 => hCi.2.2.2.2.2.2.2.2.2.2.2.2.1 q9 (by omega) (Nat.lt_of_lt_of_le (show q9 < xb + 68 by omega) hCi.2.2.2.2.2.2.2.2.2.2.2.2.2.2.2.2.1)
  have hW : WF q := hCi.2.2.2.2.2.2.2.2.2.2.2.2.2.2.1
  have hZ : WZ q := hCi.2.2.2.2.2.2.2.2.2.2.2.2.2.2.2.1
  have hnm5 := hW.2.2.1
  have hz0 : (zOf q) 0 = nI (nmQ q) := by rw [zOf_lo (by omega), hW.1]
  refine lv_iload_n hx hb dX10_about_0 rfl (lv_at hl 1 rfl) ?_
  refine lv_iconst (v := nI 0) hx hb dX10_about_1 (by decide) ?_
  refine lv_bipush (v := nI 8) hx hb dX10_about_2 (by decide) ?_
  refine cl_X10_44 (As := [.int (nI 6), .int (nI 0), .int (nI 8)]) (rest := []) hB (c_X10_requireRange l g H0 6 0 8 (by first | assumption | omega) (by first | assumption | omega) (by first | assumption | omega)) rfl hl.1 (Nat.le_of_ble_eq_true rfl) dX10_about_4 ⟨Nat.le_of_ble_eq_true rfl, Nat.le_of_ble_eq_true rfl⟩ ⟨Nat.le_of_ble_eq_true rfl, Nat.le_of_ble_eq_true rfl⟩ hS (by have hz9 := hS.1; rintro q (h | h) <;> first | exact Or.inr (by omega) | exact h.elim | exact Or.inl h | (simp only [ftA] at h ⊢; omega)) (fun v H1 locs hpo hfr hS => ?_)
  obtain ⟨rfl, rfl⟩ := hpo
  refine W.widen (k := 0) (n := 0) (Nat.le_of_ble_eq_true rfl) (Nat.le_of_ble_eq_true rfl) ?_
  refine lv_iload_n hx hb dX10_about_7 rfl (lv_at hl 1 rfl) ?_
  refine lv_tableIn (tgt := 119) (off := 111) hx hb dX10_about_8 (by decide) (by decide) (by decide) (by decide) ?_
  refine lv_aload_n hx hb dX10_about_119 rfl (lv_at hl 0 rfl) ?_
  refine gf_X10_19 hB hCi.1 rfl dX10_about_120 ?_
  refine lv_iconst (v := nI 0) hx hb dX10_about_123 (by decide) ?_
  refine cl_X10_88 (As := [.int (nI 0)]) (rest := []) hB (c_X8_clothInAll l g H0 (xb + 10) (zOf q) P 0 hS1 (by first | assumption | omega)) hS1.o rfl hl.1 (Nat.le_of_ble_eq_true rfl) dX10_about_124 ⟨Nat.le_of_ble_eq_true rfl, Nat.le_of_ble_eq_true rfl⟩ ⟨Nat.le_of_ble_eq_true rfl, Nat.le_of_ble_eq_true rfl⟩ hS (by have hz9 := hS.1; rintro q (h | h) <;> first | exact Or.inr (by omega) | exact h.elim | exact Or.inl h | (simp only [ftA] at h ⊢; omega)) (fun v H1 locs hpo hfr hS => ?_)
  obtain ⟨rfl, rfl⟩ := hpo
  refine W.widen (k := 0) (n := 0) (Nat.le_of_ble_eq_true rfl) (Nat.le_of_ble_eq_true rfl) ?_
  refine mh_iret hB ⟨Nat.le_of_ble_eq_true rfl, Nat.le_of_ble_eq_true rfl⟩ hS dX10_about_127 ⟨?_, rfl⟩
  · exact congrArg (fun x => some (Value.int x)) (sum_congr (n := 6) (fun j hj => show zOf q (50 + j) = q (50 + j) from zOf_lo (by omega)))

def rm_f_X10_about_7 : Room := { frames := 2, cells := 0, slots := 0, locals := 45 }
set_option maxRecDepth 100000 in
set_option maxHeartbeats 400000 in
theorem f_X10_about_7 (l : Launch) (g : GG) (H0 : Heap) (xb : Nat) (lim : Nat) (q : Nat → Int32) (n : Nat) (rm : Nat → Int32) (sl : Nat → Int32) (sv : Nat → Int32) (tx : Nat → Int32) (ln : Nat) (hC : CLS g xb lim q n rm sl sv tx ln H0) : Ct l yX10_about cX10_about 2 (some .int) rm_f_X10_about_7 g [.ref xb, .int (nI 7)] H0 (ftA (fun _ => False) H0.size) (fun v H1 => v = some (.int (abV q 7)) ∧ H0 = H1) := by
  refine Ct.of (by decide) (fun _ h => Or.inr h) (Nat.le_of_ble_eq_true rfl) ?_
  intro p e s m below meth c ls hB hin hS hH hl
  have hx := hB.x
  have hb := hB.b
  have hl : lv_has ls 2 [(0, .ref xb), (1, .int (nI 7))] := hl
  obtain ⟨D, P, T, Zr, Pr, zt, Pt, nx, hCi⟩ := hC
  have hS1 := hCi.2.2.1
  have hPT := hCi.2.2.2.1
  have hD : ∀ q9, xb + 10 ≤ q9 → q9 < xb + 10 + 26 → D q9 := fun q9 h1 h2 => hCi.2.2.2.2.2.2.2.2.2.2.2.2.1 q9 (by omega) (Nat.lt_of_lt_of_le (show q9 < xb + 68 by omega) hCi.2.2.2.2.2.2.2.2.2.2.2.2.2.2.2.2.1)
  have hW : WF q := hCi.2.2.2.2.2.2.2.2.2.2.2.2.2.2.1
  have hZ : WZ q := hCi.2.2.2.2.2.2.2.2.2.2.2.2.2.2.2.1
  have hnm5 := hW.2.2.1
  have hz0 : (zOf q) 0 = nI (nmQ q) := by rw [zOf_lo (by omega), hW.1]
  refine lv_iload_n hx hb dX10_about_0 rfl (lv_at hl 1 rfl) ?_
  refine lv_iconst (v := nI 0) hx hb dX10_about_1 (by decide) ?_
  refine lv_bipush (v := nI 8) hx hb dX10_about_2 (by decide) ?_
  refine cl_X10_44 (As := [.int (nI 7), .int (nI 0), .int (nI 8)]) (rest := []) hB (c_X10_requireRange l g H0 7 0 8 (by first | assumption | omega) (by first | assumption | omega) (by first | assumption | omega)) rfl hl.1 (Nat.le_of_ble_eq_true rfl) dX10_about_4 ⟨Nat.le_of_ble_eq_true rfl, Nat.le_of_ble_eq_true rfl⟩ ⟨Nat.le_of_ble_eq_true rfl, Nat.le_of_ble_eq_true rfl⟩ hS (by have hz9 := hS.1; rintro q (h | h) <;> first | exact Or.inr (by omega) | exact h.elim | exact Or.inl h | (simp only [ftA] at h ⊢; omega)) (fun v H1 locs hpo hfr hS => ?_)
  obtain ⟨rfl, rfl⟩ := hpo
  refine W.widen (k := 0) (n := 0) (Nat.le_of_ble_eq_true rfl) (Nat.le_of_ble_eq_true rfl) ?_
  refine lv_iload_n hx hb dX10_about_7 rfl (lv_at hl 1 rfl) ?_
  refine lv_tableIn (tgt := 128) (off := 120) hx hb dX10_about_8 (by decide) (by decide) (by decide) (by decide) ?_
  refine lv_aload_n hx hb dX10_about_128 rfl (lv_at hl 0 rfl) ?_
  refine gf_X10_19 hB hCi.1 rfl dX10_about_129 ?_
  refine lv_iconst (v := nI 3) hx hb dX10_about_132 (by decide) ?_
  refine cl_X10_88 (As := [.int (nI 3)]) (rest := []) hB (c_X8_clothInAll l g H0 (xb + 10) (zOf q) P 3 hS1 (by first | assumption | omega)) hS1.o rfl hl.1 (Nat.le_of_ble_eq_true rfl) dX10_about_133 ⟨Nat.le_of_ble_eq_true rfl, Nat.le_of_ble_eq_true rfl⟩ ⟨Nat.le_of_ble_eq_true rfl, Nat.le_of_ble_eq_true rfl⟩ hS (by have hz9 := hS.1; rintro q (h | h) <;> first | exact Or.inr (by omega) | exact h.elim | exact Or.inl h | (simp only [ftA] at h ⊢; omega)) (fun v H1 locs hpo hfr hS => ?_)
  obtain ⟨rfl, rfl⟩ := hpo
  refine W.widen (k := 0) (n := 0) (Nat.le_of_ble_eq_true rfl) (Nat.le_of_ble_eq_true rfl) ?_
  refine mh_iret hB ⟨Nat.le_of_ble_eq_true rfl, Nat.le_of_ble_eq_true rfl⟩ hS dX10_about_136 ⟨?_, rfl⟩
  · exact congrArg (fun x => some (Value.int x)) (sum_congr (n := 6) (fun j hj => show zOf q (56 + j) = q (56 + j) from zOf_lo (by omega)))

def rm_f_X10_about_8 : Room := { frames := 2, cells := 0, slots := 0, locals := 45 }
set_option maxRecDepth 100000 in
set_option maxHeartbeats 400000 in
theorem f_X10_about_8 (l : Launch) (g : GG) (H0 : Heap) (xb : Nat) (lim : Nat) (q : Nat → Int32) (n : Nat) (rm : Nat → Int32) (sl : Nat → Int32) (sv : Nat → Int32) (tx : Nat → Int32) (ln : Nat) (hC : CLS g xb lim q n rm sl sv tx ln H0) : Ct l yX10_about cX10_about 2 (some .int) rm_f_X10_about_8 g [.ref xb, .int (nI 8)] H0 (ftA (fun _ => False) H0.size) (fun v H1 => v = some (.int (abV q 8)) ∧ H0 = H1) := by
  refine Ct.of (by decide) (fun _ h => Or.inr h) (Nat.le_of_ble_eq_true rfl) ?_
  intro p e s m below meth c ls hB hin hS hH hl
  have hx := hB.x
  have hb := hB.b
  have hl : lv_has ls 2 [(0, .ref xb), (1, .int (nI 8))] := hl
  obtain ⟨D, P, T, Zr, Pr, zt, Pt, nx, hCi⟩ := hC
  have hS1 := hCi.2.2.1
  have hPT := hCi.2.2.2.1
  have hD : ∀ q9, xb + 10 ≤ q9 → q9 < xb + 10 + 26 → D q9 := fun q9 h1 h2 => hCi.2.2.2.2.2.2.2.2.2.2.2.2.1 q9 (by omega) (Nat.lt_of_lt_of_le (show q9 < xb + 68 by omega) hCi.2.2.2.2.2.2.2.2.2.2.2.2.2.2.2.2.1)
  have hW : WF q := hCi.2.2.2.2.2.2.2.2.2.2.2.2.2.2.1
  have hZ : WZ q := hCi.2.2.2.2.2.2.2.2.2.2.2.2.2.2.2.1
  have hnm5 := hW.2.2.1
  have hz0 : (zOf q) 0 = nI (nmQ q) := by rw [zOf_lo (by omega), hW.1]
  refine lv_iload_n hx hb dX10_about_0 rfl (lv_at hl 1 rfl) ?_
  refine lv_iconst (v := nI 0) hx hb dX10_about_1 (by decide) ?_
  refine lv_bipush (v := nI 8) hx hb dX10_about_2 (by decide) ?_
  refine cl_X10_44 (As := [.int (nI 8), .int (nI 0), .int (nI 8)]) (rest := []) hB (c_X10_requireRange l g H0 8 0 8 (by first | assumption | omega) (by first | assumption | omega) (by first | assumption | omega)) rfl hl.1 (Nat.le_of_ble_eq_true rfl) dX10_about_4 ⟨Nat.le_of_ble_eq_true rfl, Nat.le_of_ble_eq_true rfl⟩ ⟨Nat.le_of_ble_eq_true rfl, Nat.le_of_ble_eq_true rfl⟩ hS (by have hz9 := hS.1; rintro q (h | h) <;> first | exact Or.inr (by omega) | exact h.elim | exact Or.inl h | (simp only [ftA] at h ⊢; omega)) (fun v H1 locs hpo hfr hS => ?_)
  obtain ⟨rfl, rfl⟩ := hpo
  refine W.widen (k := 0) (n := 0) (Nat.le_of_ble_eq_true rfl) (Nat.le_of_ble_eq_true rfl) ?_
  refine lv_iload_n hx hb dX10_about_7 rfl (lv_at hl 1 rfl) ?_
  refine lv_tableOut (tgt := 137) hx hb dX10_about_8 (by decide) (by decide) ?_
  refine lv_aload_n hx hb dX10_about_137 rfl (lv_at hl 0 rfl) ?_
  refine gf_X10_19 hB hCi.1 rfl dX10_about_138 ?_
  refine lv_iconst (v := nI 4) hx hb dX10_about_141 (by decide) ?_
  refine cl_X10_88 (As := [.int (nI 4)]) (rest := []) hB (c_X8_clothInAll l g H0 (xb + 10) (zOf q) P 4 hS1 (by first | assumption | omega)) hS1.o rfl hl.1 (Nat.le_of_ble_eq_true rfl) dX10_about_142 ⟨Nat.le_of_ble_eq_true rfl, Nat.le_of_ble_eq_true rfl⟩ ⟨Nat.le_of_ble_eq_true rfl, Nat.le_of_ble_eq_true rfl⟩ hS (by have hz9 := hS.1; rintro q (h | h) <;> first | exact Or.inr (by omega) | exact h.elim | exact Or.inl h | (simp only [ftA] at h ⊢; omega)) (fun v H1 locs hpo hfr hS => ?_)
  obtain ⟨rfl, rfl⟩ := hpo
  refine W.widen (k := 0) (n := 0) (Nat.le_of_ble_eq_true rfl) (Nat.le_of_ble_eq_true rfl) ?_
  refine mh_iret hB ⟨Nat.le_of_ble_eq_true rfl, Nat.le_of_ble_eq_true rfl⟩ hS dX10_about_145 ⟨?_, rfl⟩
  · exact congrArg (fun x => some (Value.int x)) (sum_congr (n := 6) (fun j hj => show zOf q (62 + j) = q (62 + j) from zOf_lo (by omega)))

def rm_f_X10_member_0 : Room := { frames := 2, cells := 0, slots := 0, locals := 43 }
set_option maxRecDepth 100000 in
set_option maxHeartbeats 400000 in
theorem f_X10_member_0 (l : Launch) (g : GG) (H0 : Heap) (xb : Nat) (lim : Nat) (q : Nat → Int32) (n : Nat) (rm : Nat → Int32) (sl : Nat → Int32) (sv : Nat → Int32) (tx : Nat → Int32) (ln : Nat) (k : Nat) (hC : CLS g xb lim q n rm sl sv tx ln H0) (hk : k < nmQ q) : Ct l yX10_member cX10_member 4 (some .int) rm_f_X10_member_0 g [.ref xb, .int (nI k), .int (nI 0)] H0 (ftA (fun _ => False) H0.size) (fun v H1 => v = some (.int (meV q k 0)) ∧ H0 = H1) := by
  refine Ct.of (by decide) (fun _ h => Or.inr h) (Nat.le_of_ble_eq_true rfl) ?_
  intro p e s m below meth c ls hB hin hS hH hl
  have hx := hB.x
  have hb := hB.b
  have hl : lv_has ls 4 [(0, .ref xb), (1, .int (nI k)), (2, .int (nI 0))] := hl
  obtain ⟨D, P, T, Zr, Pr, zt, Pt, nx, hCi⟩ := hC
  have hS1 := hCi.2.2.1
  have hPT := hCi.2.2.2.1
  have hD : ∀ q9, xb + 10 ≤ q9 → q9 < xb + 10 + 26 → D q9 := fun q9 h1 h2 => hCi.2.2.2.2.2.2.2.2.2.2.2.2.1 q9 (by omega) (Nat.lt_of_lt_of_le (show q9 < xb + 68 by omega) hCi.2.2.2.2.2.2.2.2.2.2.2.2.2.2.2.2.1)
  have hW : WF q := hCi.2.2.2.2.2.2.2.2.2.2.2.2.2.2.1
  have hZ : WZ q := hCi.2.2.2.2.2.2.2.2.2.2.2.2.2.2.2.1
  have hnm5 := hW.2.2.1
  have hz0 : (zOf q) 0 = nI (nmQ q) := by rw [zOf_lo (by omega), hW.1]
  refine lv_aload_n hx hb dX10_member_0 rfl (lv_at hl 0 rfl) ?_
  refine lv_iload_n hx hb dX10_member_1 rfl (lv_at hl 1 rfl) ?_
  refine cl_X10_91 (As := [.int (nI k)]) (rest := []) hB (c_X10_existingMember l g H0 xb (zOf q) P k (nmQ q) hCi.1 hS1 (by first | assumption | omega) (hz0) (hnm5)) hCi.1 rfl hl.1 (Nat.le_of_ble_eq_true rfl) dX10_member_2 ⟨Nat.le_of_ble_eq_true rfl, Nat.le_of_ble_eq_true rfl⟩ ⟨Nat.le_of_ble_eq_true rfl, Nat.le_of_ble_eq_true rfl⟩ hS (by have hz9 := hS.1; rintro q (h | h) <;> first | exact Or.inr (by omega) | exact h.elim | exact Or.inl h | (simp only [ftA] at h ⊢; omega)) (fun v H1 locs hpo hfr hS => ?_)
  obtain ⟨rfl, rfl⟩ := hpo
  refine W.widen (k := 0) (n := 0) (Nat.le_of_ble_eq_true rfl) (Nat.le_of_ble_eq_true rfl) ?_
  refine lv_astore_n (lv' := [(3, .ref ((xb + 10) + (4 + 2 * k))), (0, .ref xb), (1, .int (nI k)), (2, .int (nI 0))]) hx hb dX10_member_5 rfl hl (by decide) rfl (fun ls hl => ?_)
  refine lv_iload_n hx hb dX10_member_6 rfl (lv_at hl 3 rfl) ?_
  refine lv_iconst (v := nI 0) hx hb dX10_member_7 (by decide) ?_
  refine lv_iconst (v := nI 3) hx hb dX10_member_8 (by decide) ?_
  refine cl_X10_44 (As := [.int (nI 0), .int (nI 0), .int (nI 3)]) (rest := []) hB (c_X10_requireRange l g H0 0 0 3 (by first | assumption | omega) (by first | assumption | omega) (by first | assumption | omega)) rfl hl.1 (Nat.le_of_ble_eq_true rfl) dX10_member_9 ⟨Nat.le_of_ble_eq_true rfl, Nat.le_of_ble_eq_true rfl⟩ ⟨Nat.le_of_ble_eq_true rfl, Nat.le_of_ble_eq_true rfl⟩ hS (by have hz9 := hS.1; rintro q (h | h) <;> first | exact Or.inr (by omega) | exact h.elim | exact Or.inl h | (simp only [ftA] at h ⊢; omega)) (fun v H1 locs hpo hfr hS => ?_)
  obtain ⟨rfl, rfl⟩ := hpo
  refine W.widen (k := 0) (n := 0) (Nat.le_of_ble_eq_true rfl) (Nat.le_of_ble_eq_true rfl) ?_
  refine lv_iload_n hx hb dX10_member_12 rfl (lv_at hl 3 rfl) ?_
  refine lv_tableIn (tgt := 40) (off := 27) hx hb dX10_member_13 (by decide) (by decide) (by decide) (by decide) ?_
  refine lv_aload_n hx hb dX10_member_40 rfl (lv_at hl 0 rfl) ?_
  refine gf_X10_95 hB (hS1.om (k := k) (by omega)) rfl dX10_member_41 ?_
  refine mh_iret hB ⟨Nat.le_of_ble_eq_true rfl, Nat.le_of_ble_eq_true rfl⟩ hS dX10_member_44 ⟨?_, rfl⟩
  · rw [zOf_lo (by omega)]; rfl

def rm_f_X10_member_1 : Room := { frames := 2, cells := 0, slots := 0, locals := 43 }
set_option maxRecDepth 100000 in
set_option maxHeartbeats 400000 in
theorem f_X10_member_1 (l : Launch) (g : GG) (H0 : Heap) (xb : Nat) (lim : Nat) (q : Nat → Int32) (n : Nat) (rm : Nat → Int32) (sl : Nat → Int32) (sv : Nat → Int32) (tx : Nat → Int32) (ln : Nat) (k : Nat) (hC : CLS g xb lim q n rm sl sv tx ln H0) (hk : k < nmQ q) : Ct l yX10_member cX10_member 4 (some .int) rm_f_X10_member_1 g [.ref xb, .int (nI k), .int (nI 1)] H0 (ftA (fun _ => False) H0.size) (fun v H1 => v = some (.int (meV q k 1)) ∧ H0 = H1) := by
  refine Ct.of (by decide) (fun _ h => Or.inr h) (Nat.le_of_ble_eq_true rfl) ?_
  intro p e s m below meth c ls hB hin hS hH hl
  have hx := hB.x
  have hb := hB.b
  have hl : lv_has ls 4 [(0, .ref xb), (1, .int (nI k)), (2, .int (nI 1))] := hl
  obtain ⟨D, P, T, Zr, Pr, zt, Pt, nx, hCi⟩ := hC
  have hS1 := hCi.2.2.1
  have hPT := hCi.2.2.2.1
  have hD : ∀ q9, xb + 10 ≤ q9 → q9 < xb + 10 + 26 → D q9 := fun q9 h1 h2 => hCi.2.2.2.2.2.2.2.2.2.2.2.2.1 q9 (by omega) (Nat.lt_of_lt_of_le (show q9 < xb + 68 by omega) hCi.2.2.2.2.2.2.2.2.2.2.2.2.2.2.2.2.1)
  have hW : WF q := hCi.2.2.2.2.2.2.2.2.2.2.2.2.2.2.1
  have hZ : WZ q := hCi.2.2.2.2.2.2.2.2.2.2.2.2.2.2.2.1
  have hnm5 := hW.2.2.1
  have hz0 : (zOf q) 0 = nI (nmQ q) := by rw [zOf_lo (by omega), hW.1]
  refine lv_aload_n hx hb dX10_member_0 rfl (lv_at hl 0 rfl) ?_
  refine lv_iload_n hx hb dX10_member_1 rfl (lv_at hl 1 rfl) ?_
  refine cl_X10_91 (As := [.int (nI k)]) (rest := []) hB (c_X10_existingMember l g H0 xb (zOf q) P k (nmQ q) hCi.1 hS1 (by first | assumption | omega) (hz0) (hnm5)) hCi.1 rfl hl.1 (Nat.le_of_ble_eq_true rfl) dX10_member_2 ⟨Nat.le_of_ble_eq_true rfl, Nat.le_of_ble_eq_true rfl⟩ ⟨Nat.le_of_ble_eq_true rfl, Nat.le_of_ble_eq_true rfl⟩ hS (by have hz9 := hS.1; rintro q (h | h) <;> first | exact Or.inr (by omega) | exact h.elim | exact Or.inl h | (simp only [ftA] at h ⊢; omega)) (fun v H1 locs hpo hfr hS => ?_)
  obtain ⟨rfl, rfl⟩ := hpo
  refine W.widen (k := 0) (n := 0) (Nat.le_of_ble_eq_true rfl) (Nat.le_of_ble_eq_true rfl) ?_
  refine lv_astore_n (lv' := [(3, .ref ((xb + 10) + (4 + 2 * k))), (0, .ref xb), (1, .int (nI k)), (2, .int (nI 1))]) hx hb dX10_member_5 rfl hl (by decide) rfl (fun ls hl => ?_)
  refine lv_iload_n hx hb dX10_member_6 rfl (lv_at hl 3 rfl) ?_
  refine lv_iconst (v := nI 0) hx hb dX10_member_7 (by decide) ?_
  refine lv_iconst (v := nI 3) hx hb dX10_member_8 (by decide) ?_
  refine cl_X10_44 (As := [.int (nI 1), .int (nI 0), .int (nI 3)]) (rest := []) hB (c_X10_requireRange l g H0 1 0 3 (by first | assumption | omega) (by first | assumption | omega) (by first | assumption | omega)) rfl hl.1 (Nat.le_of_ble_eq_true rfl) dX10_member_9 ⟨Nat.le_of_ble_eq_true rfl, Nat.le_of_ble_eq_true rfl⟩ ⟨Nat.le_of_ble_eq_true rfl, Nat.le_of_ble_eq_true rfl⟩ hS (by have hz9 := hS.1; rintro q (h | h) <;> first | exact Or.inr (by omega) | exact h.elim | exact Or.inl h | (simp only [ftA] at h ⊢; omega)) (fun v H1 locs hpo hfr hS => ?_)
  obtain ⟨rfl, rfl⟩ := hpo
  refine W.widen (k := 0) (n := 0) (Nat.le_of_ble_eq_true rfl) (Nat.le_of_ble_eq_true rfl) ?_
  refine lv_iload_n hx hb dX10_member_12 rfl (lv_at hl 3 rfl) ?_
  refine lv_tableIn (tgt := 45) (off := 32) hx hb dX10_member_13 (by decide) (by decide) (by decide) (by decide) ?_
  refine lv_aload_n hx hb dX10_member_45 rfl (lv_at hl 0 rfl) ?_
  refine gf_X10_100 hB (hS1.om (k := k) (by omega)) rfl dX10_member_46 ?_
  refine mh_iret hB ⟨Nat.le_of_ble_eq_true rfl, Nat.le_of_ble_eq_true rfl⟩ hS dX10_member_49 ⟨?_, rfl⟩
  · rw [zOf_lo (by omega)]; rfl

def rm_f_X10_member_2 : Room := { frames := 2, cells := 0, slots := 0, locals := 43 }
set_option maxRecDepth 100000 in
set_option maxHeartbeats 400000 in
theorem f_X10_member_2 (l : Launch) (g : GG) (H0 : Heap) (xb : Nat) (lim : Nat) (q : Nat → Int32) (n : Nat) (rm : Nat → Int32) (sl : Nat → Int32) (sv : Nat → Int32) (tx : Nat → Int32) (ln : Nat) (k : Nat) (hC : CLS g xb lim q n rm sl sv tx ln H0) (hk : k < nmQ q) : Ct l yX10_member cX10_member 4 (some .int) rm_f_X10_member_2 g [.ref xb, .int (nI k), .int (nI 2)] H0 (ftA (fun _ => False) H0.size) (fun v H1 => v = some (.int (meV q k 2)) ∧ H0 = H1) := by
  refine Ct.of (by decide) (fun _ h => Or.inr h) (Nat.le_of_ble_eq_true rfl) ?_
  intro p e s m below meth c ls hB hin hS hH hl
  have hx := hB.x
  have hb := hB.b
  have hl : lv_has ls 4 [(0, .ref xb), (1, .int (nI k)), (2, .int (nI 2))] := hl
  obtain ⟨D, P, T, Zr, Pr, zt, Pt, nx, hCi⟩ := hC
  have hS1 := hCi.2.2.1
  have hPT := hCi.2.2.2.1
  have hD : ∀ q9, xb + 10 ≤ q9 → q9 < xb + 10 + 26 → D q9 := fun q9 h1 h2 => hCi.2.2.2.2.2.2.2.2.2.2.2.2.1 q9 (by omega) (Nat.lt_of_lt_of_le (show q9 < xb + 68 by omega) hCi.2.2.2.2.2.2.2.2.2.2.2.2.2.2.2.2.1)
  have hW : WF q := hCi.2.2.2.2.2.2.2.2.2.2.2.2.2.2.1
  have hZ : WZ q := hCi.2.2.2.2.2.2.2.2.2.2.2.2.2.2.2.1
  have hnm5 := hW.2.2.1
  have hz0 : (zOf q) 0 = nI (nmQ q) := by rw [zOf_lo (by omega), hW.1]
  refine lv_aload_n hx hb dX10_member_0 rfl (lv_at hl 0 rfl) ?_
  refine lv_iload_n hx hb dX10_member_1 rfl (lv_at hl 1 rfl) ?_
  refine cl_X10_91 (As := [.int (nI k)]) (rest := []) hB (c_X10_existingMember l g H0 xb (zOf q) P k (nmQ q) hCi.1 hS1 (by first | assumption | omega) (hz0) (hnm5)) hCi.1 rfl hl.1 (Nat.le_of_ble_eq_true rfl) dX10_member_2 ⟨Nat.le_of_ble_eq_true rfl, Nat.le_of_ble_eq_true rfl⟩ ⟨Nat.le_of_ble_eq_true rfl, Nat.le_of_ble_eq_true rfl⟩ hS (by have hz9 := hS.1; rintro q (h | h) <;> first | exact Or.inr (by omega) | exact h.elim | exact Or.inl h | (simp only [ftA] at h ⊢; omega)) (fun v H1 locs hpo hfr hS => ?_)
  obtain ⟨rfl, rfl⟩ := hpo
  refine W.widen (k := 0) (n := 0) (Nat.le_of_ble_eq_true rfl) (Nat.le_of_ble_eq_true rfl) ?_
  refine lv_astore_n (lv' := [(3, .ref ((xb + 10) + (4 + 2 * k))), (0, .ref xb), (1, .int (nI k)), (2, .int (nI 2))]) hx hb dX10_member_5 rfl hl (by decide) rfl (fun ls hl => ?_)
  refine lv_iload_n hx hb dX10_member_6 rfl (lv_at hl 3 rfl) ?_
  refine lv_iconst (v := nI 0) hx hb dX10_member_7 (by decide) ?_
  refine lv_iconst (v := nI 3) hx hb dX10_member_8 (by decide) ?_
  refine cl_X10_44 (As := [.int (nI 2), .int (nI 0), .int (nI 3)]) (rest := []) hB (c_X10_requireRange l g H0 2 0 3 (by first | assumption | omega) (by first | assumption | omega) (by first | assumption | omega)) rfl hl.1 (Nat.le_of_ble_eq_true rfl) dX10_member_9 ⟨Nat.le_of_ble_eq_true rfl, Nat.le_of_ble_eq_true rfl⟩ ⟨Nat.le_of_ble_eq_true rfl, Nat.le_of_ble_eq_true rfl⟩ hS (by have hz9 := hS.1; rintro q (h | h) <;> first | exact Or.inr (by omega) | exact h.elim | exact Or.inl h | (simp only [ftA] at h ⊢; omega)) (fun v H1 locs hpo hfr hS => ?_)
  obtain ⟨rfl, rfl⟩ := hpo
  refine W.widen (k := 0) (n := 0) (Nat.le_of_ble_eq_true rfl) (Nat.le_of_ble_eq_true rfl) ?_
  refine lv_iload_n hx hb dX10_member_12 rfl (lv_at hl 3 rfl) ?_
  refine lv_tableIn (tgt := 50) (off := 37) hx hb dX10_member_13 (by decide) (by decide) (by decide) (by decide) ?_
  refine lv_aload_n hx hb dX10_member_50 rfl (lv_at hl 0 rfl) ?_
  refine gf_X10_103 hB (hS1.om (k := k) (by omega)) rfl dX10_member_51 ?_
  refine cl_X10_107 (As := [.ref ((xb + 10) + (5 + 2 * k))]) (rest := []) hB (c_X6_sum l g H0 ((xb + 10) + (5 + 2 * k)) 6 (fun j7 => (zOf q) (15 + 6 * k + j7)) (hS1.om2 (k := k) (by omega)) (by first | assumption | omega)) rfl hl.1 (Nat.le_of_ble_eq_true rfl) dX10_member_54 ⟨Nat.le_of_ble_eq_true rfl, Nat.le_of_ble_eq_true rfl⟩ ⟨Nat.le_of_ble_eq_true rfl, Nat.le_of_ble_eq_true rfl⟩ hS (by have hz9 := hS.1; rintro q (h | h) <;> first | exact Or.inr (by omega) | exact h.elim | exact Or.inl h | (simp only [ftA] at h ⊢; omega)) (fun v H1 locs hpo hfr hS => ?_)
  obtain ⟨rfl, rfl⟩ := hpo
  refine W.widen (k := 0) (n := 0) (Nat.le_of_ble_eq_true rfl) (Nat.le_of_ble_eq_true rfl) ?_
  refine mh_iret hB ⟨Nat.le_of_ble_eq_true rfl, Nat.le_of_ble_eq_true rfl⟩ hS dX10_member_57 ⟨?_, rfl⟩
  · exact congrArg (fun x => some (Value.int x)) (sum_congr (n := 6) (fun j hj => show zOf q (15 + 6 * k + j) = q (15 + 6 * k + j) from zOf_lo (by omega)))

def rm_f_X10_member_3 : Room := { frames := 2, cells := 0, slots := 0, locals := 43 }
set_option maxRecDepth 100000 in
set_option maxHeartbeats 400000 in
theorem f_X10_member_3 (l : Launch) (g : GG) (H0 : Heap) (xb : Nat) (lim : Nat) (q : Nat → Int32) (n : Nat) (rm : Nat → Int32) (sl : Nat → Int32) (sv : Nat → Int32) (tx : Nat → Int32) (ln : Nat) (k : Nat) (hC : CLS g xb lim q n rm sl sv tx ln H0) (hk : k < nmQ q) : Ct l yX10_member cX10_member 4 (some .int) rm_f_X10_member_3 g [.ref xb, .int (nI k), .int (nI 3)] H0 (ftA (fun _ => False) H0.size) (fun v H1 => v = some (.int (meV q k 3)) ∧ H0 = H1) := by
  refine Ct.of (by decide) (fun _ h => Or.inr h) (Nat.le_of_ble_eq_true rfl) ?_
  intro p e s m below meth c ls hB hin hS hH hl
  have hx := hB.x
  have hb := hB.b
  have hl : lv_has ls 4 [(0, .ref xb), (1, .int (nI k)), (2, .int (nI 3))] := hl
  obtain ⟨D, P, T, Zr, Pr, zt, Pt, nx, hCi⟩ := hC
  have hS1 := hCi.2.2.1
  have hPT := hCi.2.2.2.1
  have hD : ∀ q9, xb + 10 ≤ q9 → q9 < xb + 10 + 26 → D q9 := fun q9 h1 h2 => hCi.2.2.2.2.2.2.2.2.2.2.2.2.1 q9 (by omega) (Nat.lt_of_lt_of_le (show q9 < xb + 68 by omega) hCi.2.2.2.2.2.2.2.2.2.2.2.2.2.2.2.2.1)
  have hW : WF q := hCi.2.2.2.2.2.2.2.2.2.2.2.2.2.2.1
  have hZ : WZ q := hCi.2.2.2.2.2.2.2.2.2.2.2.2.2.2.2.1
  have hnm5 := hW.2.2.1
  have hz0 : (zOf q) 0 = nI (nmQ q) := by rw [zOf_lo (by omega), hW.1]
  refine lv_aload_n hx hb dX10_member_0 rfl (lv_at hl 0 rfl) ?_
  refine lv_iload_n hx hb dX10_member_1 rfl (lv_at hl 1 rfl) ?_
  refine cl_X10_91 (As := [.int (nI k)]) (rest := []) hB (c_X10_existingMember l g H0 xb (zOf q) P k (nmQ q) hCi.1 hS1 (by first | assumption | omega) (hz0) (hnm5)) hCi.1 rfl hl.1 (Nat.le_of_ble_eq_true rfl) dX10_member_2 ⟨Nat.le_of_ble_eq_true rfl, Nat.le_of_ble_eq_true rfl⟩ ⟨Nat.le_of_ble_eq_true rfl, Nat.le_of_ble_eq_true rfl⟩ hS (by have hz9 := hS.1; rintro q (h | h) <;> first | exact Or.inr (by omega) | exact h.elim | exact Or.inl h | (simp only [ftA] at h ⊢; omega)) (fun v H1 locs hpo hfr hS => ?_)
  obtain ⟨rfl, rfl⟩ := hpo
  refine W.widen (k := 0) (n := 0) (Nat.le_of_ble_eq_true rfl) (Nat.le_of_ble_eq_true rfl) ?_
  refine lv_astore_n (lv' := [(3, .ref ((xb + 10) + (4 + 2 * k))), (0, .ref xb), (1, .int (nI k)), (2, .int (nI 3))]) hx hb dX10_member_5 rfl hl (by decide) rfl (fun ls hl => ?_)
  refine lv_iload_n hx hb dX10_member_6 rfl (lv_at hl 3 rfl) ?_
  refine lv_iconst (v := nI 0) hx hb dX10_member_7 (by decide) ?_
  refine lv_iconst (v := nI 3) hx hb dX10_member_8 (by decide) ?_
  refine cl_X10_44 (As := [.int (nI 3), .int (nI 0), .int (nI 3)]) (rest := []) hB (c_X10_requireRange l g H0 3 0 3 (by first | assumption | omega) (by first | assumption | omega) (by first | assumption | omega)) rfl hl.1 (Nat.le_of_ble_eq_true rfl) dX10_member_9 ⟨Nat.le_of_ble_eq_true rfl, Nat.le_of_ble_eq_true rfl⟩ ⟨Nat.le_of_ble_eq_true rfl, Nat.le_of_ble_eq_true rfl⟩ hS (by have hz9 := hS.1; rintro q (h | h) <;> first | exact Or.inr (by omega) | exact h.elim | exact Or.inl h | (simp only [ftA] at h ⊢; omega)) (fun v H1 locs hpo hfr hS => ?_)
  obtain ⟨rfl, rfl⟩ := hpo
  refine W.widen (k := 0) (n := 0) (Nat.le_of_ble_eq_true rfl) (Nat.le_of_ble_eq_true rfl) ?_
  refine lv_iload_n hx hb dX10_member_12 rfl (lv_at hl 3 rfl) ?_
  refine lv_tableOut (tgt := 58) hx hb dX10_member_13 (by decide) (by decide) ?_
  refine lv_aload_n hx hb dX10_member_58 rfl (lv_at hl 0 rfl) ?_
  refine gf_X10_113 hB (hS1.om (k := k) (by omega)) rfl dX10_member_59 ?_
  refine mh_iret hB ⟨Nat.le_of_ble_eq_true rfl, Nat.le_of_ble_eq_true rfl⟩ hS dX10_member_62 ⟨?_, rfl⟩
  · rw [zOf_lo (by omega)]; rfl

def rm_f_X10_cloth : Room := { frames := 2, cells := 0, slots := 0, locals := 43 }
set_option maxRecDepth 100000 in
set_option maxHeartbeats 400000 in
theorem f_X10_cloth (l : Launch) (g : GG) (H0 : Heap) (xb : Nat) (lim : Nat) (q : Nat → Int32) (n : Nat) (rm : Nat → Int32) (sl : Nat → Int32) (sv : Nat → Int32) (tx : Nat → Int32) (ln : Nat) (k : Nat) (w : Nat) (hC : CLS g xb lim q n rm sl sv tx ln H0) (hk : k < 6) (hw : w < 5) : Ct l yX10_cloth cX10_cloth 4 (some .int) rm_f_X10_cloth g [.ref xb, .int (nI k), .int (nI w)] H0 (ftA (fun _ => False) H0.size) (fun v H1 => v = some (.int (coV q k w)) ∧ H0 = H1) := by
  refine Ct.of (by decide) (fun _ h => Or.inr h) (Nat.le_of_ble_eq_true rfl) ?_
  intro p e s m below meth c ls hB hin hS hH hl
  have hx := hB.x
  have hb := hB.b
  have hl : lv_has ls 4 [(0, .ref xb), (1, .int (nI k)), (2, .int (nI w))] := hl
  obtain ⟨D, P, T, Zr, Pr, zt, Pt, nx, hCi⟩ := hC
  have hS1 := hCi.2.2.1
  have hPT := hCi.2.2.2.1
  have hD : ∀ q9, xb + 10 ≤ q9 → q9 < xb + 10 + 26 → D q9 := fun q9 h1 h2 => hCi.2.2.2.2.2.2.2.2.2.2.2.2.1 q9 (by omega) (Nat.lt_of_lt_of_le (show q9 < xb + 68 by omega) hCi.2.2.2.2.2.2.2.2.2.2.2.2.2.2.2.2.1)
  have hW : WF q := hCi.2.2.2.2.2.2.2.2.2.2.2.2.2.2.1
  have hZ : WZ q := hCi.2.2.2.2.2.2.2.2.2.2.2.2.2.2.2.1
  have hnm5 := hW.2.2.1
  have hz0 : (zOf q) 0 = nI (nmQ q) := by rw [zOf_lo (by omega), hW.1]
  refine lv_aload_n hx hb dX10_cloth_0 rfl (lv_at hl 0 rfl) ?_
  refine lv_iload_n hx hb dX10_cloth_1 rfl (lv_at hl 1 rfl) ?_
  refine cl_X10_116 (As := [.int (nI k)]) (rest := []) hB (c_X10_existingCloth l g H0 xb (zOf q) P k hCi.1 hS1 (by first | assumption | omega)) hCi.1 rfl hl.1 (Nat.le_of_ble_eq_true rfl) dX10_cloth_2 ⟨Nat.le_of_ble_eq_true rfl, Nat.le_of_ble_eq_true rfl⟩ ⟨Nat.le_of_ble_eq_true rfl, Nat.le_of_ble_eq_true rfl⟩ hS (by have hz9 := hS.1; rintro q (h | h) <;> first | exact Or.inr (by omega) | exact h.elim | exact Or.inl h | (simp only [ftA] at h ⊢; omega)) (fun v H1 locs hpo hfr hS => ?_)
  obtain ⟨rfl, rfl⟩ := hpo
  refine W.widen (k := 0) (n := 0) (Nat.le_of_ble_eq_true rfl) (Nat.le_of_ble_eq_true rfl) ?_
  refine lv_astore_n (lv' := [(3, .ref ((xb + 10) + (14 + k))), (0, .ref xb), (1, .int (nI k)), (2, .int (nI w))]) hx hb dX10_cloth_5 rfl hl (by decide) rfl (fun ls hl => ?_)
  refine lv_iload_n hx hb dX10_cloth_6 rfl (lv_at hl 3 rfl) ?_
  refine lv_iconst (v := nI 0) hx hb dX10_cloth_7 (by decide) ?_
  refine lv_iconst (v := nI 4) hx hb dX10_cloth_8 (by decide) ?_
  refine cl_X10_44 (As := [.int (nI w), .int (nI 0), .int (nI 4)]) (rest := []) hB (c_X10_requireRange l g H0 w 0 4 (by first | assumption | omega) (by first | assumption | omega) (by first | assumption | omega)) rfl hl.1 (Nat.le_of_ble_eq_true rfl) dX10_cloth_9 ⟨Nat.le_of_ble_eq_true rfl, Nat.le_of_ble_eq_true rfl⟩ ⟨Nat.le_of_ble_eq_true rfl, Nat.le_of_ble_eq_true rfl⟩ hS (by have hz9 := hS.1; rintro q (h | h) <;> first | exact Or.inr (by omega) | exact h.elim | exact Or.inl h | (simp only [ftA] at h ⊢; omega)) (fun v H1 locs hpo hfr hS => ?_)
  obtain ⟨rfl, rfl⟩ := hpo
  refine W.widen (k := 0) (n := 0) (Nat.le_of_ble_eq_true rfl) (Nat.le_of_ble_eq_true rfl) ?_
  refine lv_aload_n hx hb dX10_cloth_12 rfl (lv_at hl 0 rfl) ?_
  refine lv_iload_n hx hb dX10_cloth_13 rfl (lv_at hl 3 rfl) ?_
  refine cl_X10_120 (As := [.int (nI w)]) (rest := []) hB (c_X0_pieces l g H0 (xb + 10) (zOf q) P k w hS1 (hk) (hw)) (hS1.oc (k := k) (by omega)) rfl hl.1 (Nat.le_of_ble_eq_true rfl) dX10_cloth_14 ⟨Nat.le_of_ble_eq_true rfl, Nat.le_of_ble_eq_true rfl⟩ ⟨Nat.le_of_ble_eq_true rfl, Nat.le_of_ble_eq_true rfl⟩ hS (by have hz9 := hS.1; rintro q (h | h) <;> first | exact Or.inr (by omega) | exact h.elim | exact Or.inl h | (simp only [ftA] at h ⊢; omega)) (fun v H1 locs hpo hfr hS => ?_)
  obtain ⟨rfl, rfl⟩ := hpo
  refine W.widen (k := 0) (n := 0) (Nat.le_of_ble_eq_true rfl) (Nat.le_of_ble_eq_true rfl) ?_
  refine mh_iret hB ⟨Nat.le_of_ble_eq_true rfl, Nat.le_of_ble_eq_true rfl⟩ hS dX10_cloth_17 ⟨?_, rfl⟩
  · rw [clV_coV hk w hw]

def rm_f_X10_frame_0 : Room := { frames := 2, cells := 0, slots := 0, locals := 43 }
set_option maxRecDepth 100000 in
set_option maxHeartbeats 400000 in
theorem f_X10_frame_0 (l : Launch) (g : GG) (H0 : Heap) (xb : Nat) (lim : Nat) (q : Nat → Int32) (n : Nat) (rm : Nat → Int32) (sl : Nat → Int32) (sv : Nat → Int32) (tx : Nat → Int32) (ln : Nat) (f : Nat) (hC : CLS g xb lim q n rm sl sv tx ln H0) (hf : f < 3) : Ct l yX10_frame cX10_frame 5 (some .int) rm_f_X10_frame_0 g [.ref xb, .int (nI f), .int (nI 0)] H0 (ftA (fun _ => False) H0.size) (fun v H1 => v = some (.int (q (74 + 264 * f + 0))) ∧ H0 = H1) := by
  refine Ct.of (by decide) (fun _ h => Or.inr h) (Nat.le_of_ble_eq_true rfl) ?_
  intro p e s m below meth c ls hB hin hS hH hl
  have hx := hB.x
  have hb := hB.b
  have hl : lv_has ls 5 [(0, .ref xb), (1, .int (nI f)), (2, .int (nI 0))] := hl
  obtain ⟨D, P, T, Zr, Pr, zt, Pt, nx, hCi⟩ := hC
  have hS1 := hCi.2.2.1
  have hPT := hCi.2.2.2.1
  have hD : ∀ q9, xb + 10 ≤ q9 → q9 < xb + 10 + 26 → D q9 := fun q9 h1 h2 => hCi.2.2.2.2.2.2.2.2.2.2.2.2.1 q9 (by omega) (Nat.lt_of_lt_of_le (show q9 < xb + 68 by omega) hCi.2.2.2.2.2.2.2.2.2.2.2.2.2.2.2.2.1)
  have hW : WF q := hCi.2.2.2.2.2.2.2.2.2.2.2.2.2.2.1
  have hZ : WZ q := hCi.2.2.2.2.2.2.2.2.2.2.2.2.2.2.2.1
  have hnm5 := hW.2.2.1
  have hz0 : (zOf q) 0 = nI (nmQ q) := by rw [zOf_lo (by omega), hW.1]
  rcases hPf : P f with _ | p9
  · skip
    have hfz := hPT.none0 hf hPf
    refine lv_aload_n hx hb dX10_frame_0 rfl (lv_at hl 0 rfl) ?_
    refine lv_iload_n hx hb dX10_frame_1 rfl (lv_at hl 1 rfl) ?_
    refine cl_X10_123 (As := [.int (nI f)]) (rest := []) hB (c_X10_existingFrame l g H0 xb (zOf q) P f hCi.1 hS1 (by first | assumption | omega)) hCi.1 rfl hl.1 (Nat.le_of_ble_eq_true rfl) dX10_frame_2 ⟨Nat.le_of_ble_eq_true rfl, Nat.le_of_ble_eq_true rfl⟩ ⟨Nat.le_of_ble_eq_true rfl, Nat.le_of_ble_eq_true rfl⟩ hS (by have hz9 := hS.1; rintro q (h | h) <;> first | exact Or.inr (by omega) | exact h.elim | exact Or.inl h | (simp only [ftA] at h ⊢; omega)) (fun v H1 locs hpo hfr hS => ?_)
    obtain ⟨rfl, rfl⟩ := hpo
    refine W.widen (k := 0) (n := 0) (Nat.le_of_ble_eq_true rfl) (Nat.le_of_ble_eq_true rfl) ?_
    refine lv_astore_n (lv' := [(3, .ref ((xb + 10) + (20 + 2 * f))), (0, .ref xb), (1, .int (nI f)), (2, .int (nI 0))]) hx hb dX10_frame_5 rfl hl (by decide) rfl (fun ls hl => ?_)
    refine lv_iload_n hx hb dX10_frame_6 rfl (lv_at hl 3 rfl) ?_
    refine lv_iconst (v := nI 0) hx hb dX10_frame_7 (by decide) ?_
    refine lv_bipush (v := nI 6) hx hb dX10_frame_8 (by decide) ?_
    refine cl_X10_44 (As := [.int (nI 0), .int (nI 0), .int (nI 6)]) (rest := []) hB (c_X10_requireRange l g H0 0 0 6 (by first | assumption | omega) (by first | assumption | omega) (by first | assumption | omega)) rfl hl.1 (Nat.le_of_ble_eq_true rfl) dX10_frame_10 ⟨Nat.le_of_ble_eq_true rfl, Nat.le_of_ble_eq_true rfl⟩ ⟨Nat.le_of_ble_eq_true rfl, Nat.le_of_ble_eq_true rfl⟩ hS (by have hz9 := hS.1; rintro q (h | h) <;> first | exact Or.inr (by omega) | exact h.elim | exact Or.inl h | (simp only [ftA] at h ⊢; omega)) (fun v H1 locs hpo hfr hS => ?_)
    obtain ⟨rfl, rfl⟩ := hpo
    refine W.widen (k := 0) (n := 0) (Nat.le_of_ble_eq_true rfl) (Nat.le_of_ble_eq_true rfl) ?_
    refine lv_aload_n hx hb dX10_frame_13 rfl (lv_at hl 0 rfl) ?_
    refine gf_X10_127 hB (hS1.ofN (k := f) (by omega) hPf) rfl dX10_frame_14 ?_
    refine lv_astoreN (lv' := [(4, .null), (3, .ref ((xb + 10) + (20 + 2 * f))), (0, .ref xb), (1, .int (nI f)), (2, .int (nI 0))]) hx hb dX10_frame_17 hl (by decide) rfl (fun ls hl => ?_)
    refine lv_aloadN hx hb dX10_frame_19 (lv_at hl 0 rfl) ?_
    refine lv_ifnonnullN hx hb dX10_frame_21 ?_
    refine lv_iconst (v := nI 0) hx hb dX10_frame_24 (by decide) ?_
    refine mh_iret hB ⟨Nat.le_of_ble_eq_true rfl, Nat.le_of_ble_eq_true rfl⟩ hS dX10_frame_25 ⟨?_, rfl⟩
    · have he0 := (hW.fr hf).e0 (by omega)
      rw [(hW.fr hf).w, he0.1]
  · skip
    have hfz := hPT.pos hf hPf
    obtain ⟨b9, hd1, hd2, hpb⟩ := hPT.some0 hf hPf
    have hw0 := hpb.2.2.1
    have hw16 := hpb.2.2.2.1
    have hh0 := hpb.2.2.2.2.1
    have hh16 := hpb.2.2.2.2.2.1
    have hwh := hpb.2.2.2.2.2.2.1
    have hcol := hpb.2.2.2.2.2.2.2
    have hfzz : szF q f = wdF q f * htF q f := rfl
    refine lv_aload_n hx hb dX10_frame_0 rfl (lv_at hl 0 rfl) ?_
    refine lv_iload_n hx hb dX10_frame_1 rfl (lv_at hl 1 rfl) ?_
    refine cl_X10_123 (As := [.int (nI f)]) (rest := []) hB (c_X10_existingFrame l g H0 xb (zOf q) P f hCi.1 hS1 (by first | assumption | omega)) hCi.1 rfl hl.1 (Nat.le_of_ble_eq_true rfl) dX10_frame_2 ⟨Nat.le_of_ble_eq_true rfl, Nat.le_of_ble_eq_true rfl⟩ ⟨Nat.le_of_ble_eq_true rfl, Nat.le_of_ble_eq_true rfl⟩ hS (by have hz9 := hS.1; rintro q (h | h) <;> first | exact Or.inr (by omega) | exact h.elim | exact Or.inl h | (simp only [ftA] at h ⊢; omega)) (fun v H1 locs hpo hfr hS => ?_)
    obtain ⟨rfl, rfl⟩ := hpo
    refine W.widen (k := 0) (n := 0) (Nat.le_of_ble_eq_true rfl) (Nat.le_of_ble_eq_true rfl) ?_
    refine lv_astore_n (lv' := [(3, .ref ((xb + 10) + (20 + 2 * f))), (0, .ref xb), (1, .int (nI f)), (2, .int (nI 0))]) hx hb dX10_frame_5 rfl hl (by decide) rfl (fun ls hl => ?_)
    refine lv_iload_n hx hb dX10_frame_6 rfl (lv_at hl 3 rfl) ?_
    refine lv_iconst (v := nI 0) hx hb dX10_frame_7 (by decide) ?_
    refine lv_bipush (v := nI 6) hx hb dX10_frame_8 (by decide) ?_
    refine cl_X10_44 (As := [.int (nI 0), .int (nI 0), .int (nI 6)]) (rest := []) hB (c_X10_requireRange l g H0 0 0 6 (by first | assumption | omega) (by first | assumption | omega) (by first | assumption | omega)) rfl hl.1 (Nat.le_of_ble_eq_true rfl) dX10_frame_10 ⟨Nat.le_of_ble_eq_true rfl, Nat.le_of_ble_eq_true rfl⟩ ⟨Nat.le_of_ble_eq_true rfl, Nat.le_of_ble_eq_true rfl⟩ hS (by have hz9 := hS.1; rintro q (h | h) <;> first | exact Or.inr (by omega) | exact h.elim | exact Or.inl h | (simp only [ftA] at h ⊢; omega)) (fun v H1 locs hpo hfr hS => ?_)
    obtain ⟨rfl, rfl⟩ := hpo
    refine W.widen (k := 0) (n := 0) (Nat.le_of_ble_eq_true rfl) (Nat.le_of_ble_eq_true rfl) ?_
    refine lv_aload_n hx hb dX10_frame_13 rfl (lv_at hl 0 rfl) ?_
    refine gf_X10_127 hB (hS1.ofS (k := f) (by omega) hPf) rfl dX10_frame_14 ?_
    refine lv_astore (lv' := [(4, .ref p9), (3, .ref ((xb + 10) + (20 + 2 * f))), (0, .ref xb), (1, .int (nI f)), (2, .int (nI 0))]) hx hb dX10_frame_17 hl (by decide) rfl (fun ls hl => ?_)
    refine lv_aload hx hb dX10_frame_19 (lv_at hl 0 rfl) ?_
    refine lv_ifnonnull (tgt := 26) hx hb dX10_frame_21 (by decide) ?_
    refine lv_iload_n hx hb dX10_frame_26 rfl (lv_at hl 4 rfl) ?_
    refine lv_tableIn (tgt := 64) (off := 37) hx hb dX10_frame_27 (by decide) (by decide) (by decide) (by decide) ?_
    refine lv_aload hx hb dX10_frame_64 (lv_at hl 0 rfl) ?_
    refine gf_X10_133 hB hpb.1 rfl dX10_frame_66 ?_
    refine mh_iret hB ⟨Nat.le_of_ble_eq_true rfl, Nat.le_of_ble_eq_true rfl⟩ hS dX10_frame_69 ⟨?_, rfl⟩
    · rw [(hW.fr hf).w]

def rm_f_X10_frame_1 : Room := { frames := 2, cells := 0, slots := 0, locals := 43 }
set_option maxRecDepth 100000 in
set_option maxHeartbeats 400000 in
theorem f_X10_frame_1 (l : Launch) (g : GG) (H0 : Heap) (xb : Nat) (lim : Nat) (q : Nat → Int32) (n : Nat) (rm : Nat → Int32) (sl : Nat → Int32) (sv : Nat → Int32) (tx : Nat → Int32) (ln : Nat) (f : Nat) (hC : CLS g xb lim q n rm sl sv tx ln H0) (hf : f < 3) : Ct l yX10_frame cX10_frame 5 (some .int) rm_f_X10_frame_1 g [.ref xb, .int (nI f), .int (nI 1)] H0 (ftA (fun _ => False) H0.size) (fun v H1 => v = some (.int (q (74 + 264 * f + 1))) ∧ H0 = H1) := by
  refine Ct.of (by decide) (fun _ h => Or.inr h) (Nat.le_of_ble_eq_true rfl) ?_
  intro p e s m below meth c ls hB hin hS hH hl
  have hx := hB.x
  have hb := hB.b
  have hl : lv_has ls 5 [(0, .ref xb), (1, .int (nI f)), (2, .int (nI 1))] := hl
  obtain ⟨D, P, T, Zr, Pr, zt, Pt, nx, hCi⟩ := hC
  have hS1 := hCi.2.2.1
  have hPT := hCi.2.2.2.1
  have hD : ∀ q9, xb + 10 ≤ q9 → q9 < xb + 10 + 26 → D q9 := fun q9 h1 h2 => hCi.2.2.2.2.2.2.2.2.2.2.2.2.1 q9 (by omega) (Nat.lt_of_lt_of_le (show q9 < xb + 68 by omega) hCi.2.2.2.2.2.2.2.2.2.2.2.2.2.2.2.2.1)
  have hW : WF q := hCi.2.2.2.2.2.2.2.2.2.2.2.2.2.2.1
  have hZ : WZ q := hCi.2.2.2.2.2.2.2.2.2.2.2.2.2.2.2.1
  have hnm5 := hW.2.2.1
  have hz0 : (zOf q) 0 = nI (nmQ q) := by rw [zOf_lo (by omega), hW.1]
  rcases hPf : P f with _ | p9
  · skip
    have hfz := hPT.none0 hf hPf
    refine lv_aload_n hx hb dX10_frame_0 rfl (lv_at hl 0 rfl) ?_
    refine lv_iload_n hx hb dX10_frame_1 rfl (lv_at hl 1 rfl) ?_
    refine cl_X10_123 (As := [.int (nI f)]) (rest := []) hB (c_X10_existingFrame l g H0 xb (zOf q) P f hCi.1 hS1 (by first | assumption | omega)) hCi.1 rfl hl.1 (Nat.le_of_ble_eq_true rfl) dX10_frame_2 ⟨Nat.le_of_ble_eq_true rfl, Nat.le_of_ble_eq_true rfl⟩ ⟨Nat.le_of_ble_eq_true rfl, Nat.le_of_ble_eq_true rfl⟩ hS (by have hz9 := hS.1; rintro q (h | h) <;> first | exact Or.inr (by omega) | exact h.elim | exact Or.inl h | (simp only [ftA] at h ⊢; omega)) (fun v H1 locs hpo hfr hS => ?_)
    obtain ⟨rfl, rfl⟩ := hpo
    refine W.widen (k := 0) (n := 0) (Nat.le_of_ble_eq_true rfl) (Nat.le_of_ble_eq_true rfl) ?_
    refine lv_astore_n (lv' := [(3, .ref ((xb + 10) + (20 + 2 * f))), (0, .ref xb), (1, .int (nI f)), (2, .int (nI 1))]) hx hb dX10_frame_5 rfl hl (by decide) rfl (fun ls hl => ?_)
    refine lv_iload_n hx hb dX10_frame_6 rfl (lv_at hl 3 rfl) ?_
    refine lv_iconst (v := nI 0) hx hb dX10_frame_7 (by decide) ?_
    refine lv_bipush (v := nI 6) hx hb dX10_frame_8 (by decide) ?_
    refine cl_X10_44 (As := [.int (nI 1), .int (nI 0), .int (nI 6)]) (rest := []) hB (c_X10_requireRange l g H0 1 0 6 (by first | assumption | omega) (by first | assumption | omega) (by first | assumption | omega)) rfl hl.1 (Nat.le_of_ble_eq_true rfl) dX10_frame_10 ⟨Nat.le_of_ble_eq_true rfl, Nat.le_of_ble_eq_true rfl⟩ ⟨Nat.le_of_ble_eq_true rfl, Nat.le_of_ble_eq_true rfl⟩ hS (by have hz9 := hS.1; rintro q (h | h) <;> first | exact Or.inr (by omega) | exact h.elim | exact Or.inl h | (simp only [ftA] at h ⊢; omega)) (fun v H1 locs hpo hfr hS => ?_)
    obtain ⟨rfl, rfl⟩ := hpo
    refine W.widen (k := 0) (n := 0) (Nat.le_of_ble_eq_true rfl) (Nat.le_of_ble_eq_true rfl) ?_
    refine lv_aload_n hx hb dX10_frame_13 rfl (lv_at hl 0 rfl) ?_
    refine gf_X10_127 hB (hS1.ofN (k := f) (by omega) hPf) rfl dX10_frame_14 ?_
    refine lv_astoreN (lv' := [(4, .null), (3, .ref ((xb + 10) + (20 + 2 * f))), (0, .ref xb), (1, .int (nI f)), (2, .int (nI 1))]) hx hb dX10_frame_17 hl (by decide) rfl (fun ls hl => ?_)
    refine lv_aloadN hx hb dX10_frame_19 (lv_at hl 0 rfl) ?_
    refine lv_ifnonnullN hx hb dX10_frame_21 ?_
    refine lv_iconst (v := nI 0) hx hb dX10_frame_24 (by decide) ?_
    refine mh_iret hB ⟨Nat.le_of_ble_eq_true rfl, Nat.le_of_ble_eq_true rfl⟩ hS dX10_frame_25 ⟨?_, rfl⟩
    · have he0 := (hW.fr hf).e0 (by omega)
      rw [(hW.fr hf).h, he0.2.1]
  · skip
    have hfz := hPT.pos hf hPf
    obtain ⟨b9, hd1, hd2, hpb⟩ := hPT.some0 hf hPf
    have hw0 := hpb.2.2.1
    have hw16 := hpb.2.2.2.1
    have hh0 := hpb.2.2.2.2.1
    have hh16 := hpb.2.2.2.2.2.1
    have hwh := hpb.2.2.2.2.2.2.1
    have hcol := hpb.2.2.2.2.2.2.2
    have hfzz : szF q f = wdF q f * htF q f := rfl
    refine lv_aload_n hx hb dX10_frame_0 rfl (lv_at hl 0 rfl) ?_
    refine lv_iload_n hx hb dX10_frame_1 rfl (lv_at hl 1 rfl) ?_
    refine cl_X10_123 (As := [.int (nI f)]) (rest := []) hB (c_X10_existingFrame l g H0 xb (zOf q) P f hCi.1 hS1 (by first | assumption | omega)) hCi.1 rfl hl.1 (Nat.le_of_ble_eq_true rfl) dX10_frame_2 ⟨Nat.le_of_ble_eq_true rfl, Nat.le_of_ble_eq_true rfl⟩ ⟨Nat.le_of_ble_eq_true rfl, Nat.le_of_ble_eq_true rfl⟩ hS (by have hz9 := hS.1; rintro q (h | h) <;> first | exact Or.inr (by omega) | exact h.elim | exact Or.inl h | (simp only [ftA] at h ⊢; omega)) (fun v H1 locs hpo hfr hS => ?_)
    obtain ⟨rfl, rfl⟩ := hpo
    refine W.widen (k := 0) (n := 0) (Nat.le_of_ble_eq_true rfl) (Nat.le_of_ble_eq_true rfl) ?_
    refine lv_astore_n (lv' := [(3, .ref ((xb + 10) + (20 + 2 * f))), (0, .ref xb), (1, .int (nI f)), (2, .int (nI 1))]) hx hb dX10_frame_5 rfl hl (by decide) rfl (fun ls hl => ?_)
    refine lv_iload_n hx hb dX10_frame_6 rfl (lv_at hl 3 rfl) ?_
    refine lv_iconst (v := nI 0) hx hb dX10_frame_7 (by decide) ?_
    refine lv_bipush (v := nI 6) hx hb dX10_frame_8 (by decide) ?_
    refine cl_X10_44 (As := [.int (nI 1), .int (nI 0), .int (nI 6)]) (rest := []) hB (c_X10_requireRange l g H0 1 0 6 (by first | assumption | omega) (by first | assumption | omega) (by first | assumption | omega)) rfl hl.1 (Nat.le_of_ble_eq_true rfl) dX10_frame_10 ⟨Nat.le_of_ble_eq_true rfl, Nat.le_of_ble_eq_true rfl⟩ ⟨Nat.le_of_ble_eq_true rfl, Nat.le_of_ble_eq_true rfl⟩ hS (by have hz9 := hS.1; rintro q (h | h) <;> first | exact Or.inr (by omega) | exact h.elim | exact Or.inl h | (simp only [ftA] at h ⊢; omega)) (fun v H1 locs hpo hfr hS => ?_)
    obtain ⟨rfl, rfl⟩ := hpo
    refine W.widen (k := 0) (n := 0) (Nat.le_of_ble_eq_true rfl) (Nat.le_of_ble_eq_true rfl) ?_
    refine lv_aload_n hx hb dX10_frame_13 rfl (lv_at hl 0 rfl) ?_
    refine gf_X10_127 hB (hS1.ofS (k := f) (by omega) hPf) rfl dX10_frame_14 ?_
    refine lv_astore (lv' := [(4, .ref p9), (3, .ref ((xb + 10) + (20 + 2 * f))), (0, .ref xb), (1, .int (nI f)), (2, .int (nI 1))]) hx hb dX10_frame_17 hl (by decide) rfl (fun ls hl => ?_)
    refine lv_aload hx hb dX10_frame_19 (lv_at hl 0 rfl) ?_
    refine lv_ifnonnull (tgt := 26) hx hb dX10_frame_21 (by decide) ?_
    refine lv_iload_n hx hb dX10_frame_26 rfl (lv_at hl 4 rfl) ?_
    refine lv_tableIn (tgt := 70) (off := 43) hx hb dX10_frame_27 (by decide) (by decide) (by decide) (by decide) ?_
    refine lv_aload hx hb dX10_frame_70 (lv_at hl 0 rfl) ?_
    refine gf_X10_138 hB hpb.1 rfl dX10_frame_72 ?_
    refine mh_iret hB ⟨Nat.le_of_ble_eq_true rfl, Nat.le_of_ble_eq_true rfl⟩ hS dX10_frame_75 ⟨?_, rfl⟩
    · rw [(hW.fr hf).h]

def rm_f_X10_frame_2 : Room := { frames := 2, cells := 0, slots := 0, locals := 43 }
set_option maxRecDepth 100000 in
set_option maxHeartbeats 400000 in
theorem f_X10_frame_2 (l : Launch) (g : GG) (H0 : Heap) (xb : Nat) (lim : Nat) (q : Nat → Int32) (n : Nat) (rm : Nat → Int32) (sl : Nat → Int32) (sv : Nat → Int32) (tx : Nat → Int32) (ln : Nat) (f : Nat) (hC : CLS g xb lim q n rm sl sv tx ln H0) (hf : f < 3) : Ct l yX10_frame cX10_frame 5 (some .int) rm_f_X10_frame_2 g [.ref xb, .int (nI f), .int (nI 2)] H0 (ftA (fun _ => False) H0.size) (fun v H1 => v = some (.int (q (74 + 264 * f + 2))) ∧ H0 = H1) := by
  refine Ct.of (by decide) (fun _ h => Or.inr h) (Nat.le_of_ble_eq_true rfl) ?_
  intro p e s m below meth c ls hB hin hS hH hl
  have hx := hB.x
  have hb := hB.b
  have hl : lv_has ls 5 [(0, .ref xb), (1, .int (nI f)), (2, .int (nI 2))] := hl
  obtain ⟨D, P, T, Zr, Pr, zt, Pt, nx, hCi⟩ := hC
  have hS1 := hCi.2.2.1
  have hPT := hCi.2.2.2.1
  have hD : ∀ q9, xb + 10 ≤ q9 → q9 < xb + 10 + 26 → D q9 := fun q9 h1 h2 => hCi.2.2.2.2.2.2.2.2.2.2.2.2.1 q9 (by omega) (Nat.lt_of_lt_of_le (show q9 < xb + 68 by omega) hCi.2.2.2.2.2.2.2.2.2.2.2.2.2.2.2.2.1)
  have hW : WF q := hCi.2.2.2.2.2.2.2.2.2.2.2.2.2.2.1
  have hZ : WZ q := hCi.2.2.2.2.2.2.2.2.2.2.2.2.2.2.2.1
  have hnm5 := hW.2.2.1
  have hz0 : (zOf q) 0 = nI (nmQ q) := by rw [zOf_lo (by omega), hW.1]
  rcases hPf : P f with _ | p9
  · skip
    have hfz := hPT.none0 hf hPf
    refine lv_aload_n hx hb dX10_frame_0 rfl (lv_at hl 0 rfl) ?_
    refine lv_iload_n hx hb dX10_frame_1 rfl (lv_at hl 1 rfl) ?_
    refine cl_X10_123 (As := [.int (nI f)]) (rest := []) hB (c_X10_existingFrame l g H0 xb (zOf q) P f hCi.1 hS1 (by first | assumption | omega)) hCi.1 rfl hl.1 (Nat.le_of_ble_eq_true rfl) dX10_frame_2 ⟨Nat.le_of_ble_eq_true rfl, Nat.le_of_ble_eq_true rfl⟩ ⟨Nat.le_of_ble_eq_true rfl, Nat.le_of_ble_eq_true rfl⟩ hS (by have hz9 := hS.1; rintro q (h | h) <;> first | exact Or.inr (by omega) | exact h.elim | exact Or.inl h | (simp only [ftA] at h ⊢; omega)) (fun v H1 locs hpo hfr hS => ?_)
    obtain ⟨rfl, rfl⟩ := hpo
    refine W.widen (k := 0) (n := 0) (Nat.le_of_ble_eq_true rfl) (Nat.le_of_ble_eq_true rfl) ?_
    refine lv_astore_n (lv' := [(3, .ref ((xb + 10) + (20 + 2 * f))), (0, .ref xb), (1, .int (nI f)), (2, .int (nI 2))]) hx hb dX10_frame_5 rfl hl (by decide) rfl (fun ls hl => ?_)
    refine lv_iload_n hx hb dX10_frame_6 rfl (lv_at hl 3 rfl) ?_
    refine lv_iconst (v := nI 0) hx hb dX10_frame_7 (by decide) ?_
    refine lv_bipush (v := nI 6) hx hb dX10_frame_8 (by decide) ?_
    refine cl_X10_44 (As := [.int (nI 2), .int (nI 0), .int (nI 6)]) (rest := []) hB (c_X10_requireRange l g H0 2 0 6 (by first | assumption | omega) (by first | assumption | omega) (by first | assumption | omega)) rfl hl.1 (Nat.le_of_ble_eq_true rfl) dX10_frame_10 ⟨Nat.le_of_ble_eq_true rfl, Nat.le_of_ble_eq_true rfl⟩ ⟨Nat.le_of_ble_eq_true rfl, Nat.le_of_ble_eq_true rfl⟩ hS (by have hz9 := hS.1; rintro q (h | h) <;> first | exact Or.inr (by omega) | exact h.elim | exact Or.inl h | (simp only [ftA] at h ⊢; omega)) (fun v H1 locs hpo hfr hS => ?_)
    obtain ⟨rfl, rfl⟩ := hpo
    refine W.widen (k := 0) (n := 0) (Nat.le_of_ble_eq_true rfl) (Nat.le_of_ble_eq_true rfl) ?_
    refine lv_aload_n hx hb dX10_frame_13 rfl (lv_at hl 0 rfl) ?_
    refine gf_X10_127 hB (hS1.ofN (k := f) (by omega) hPf) rfl dX10_frame_14 ?_
    refine lv_astoreN (lv' := [(4, .null), (3, .ref ((xb + 10) + (20 + 2 * f))), (0, .ref xb), (1, .int (nI f)), (2, .int (nI 2))]) hx hb dX10_frame_17 hl (by decide) rfl (fun ls hl => ?_)
    refine lv_aloadN hx hb dX10_frame_19 (lv_at hl 0 rfl) ?_
    refine lv_ifnonnullN hx hb dX10_frame_21 ?_
    refine lv_iconst (v := nI 0) hx hb dX10_frame_24 (by decide) ?_
    refine mh_iret hB ⟨Nat.le_of_ble_eq_true rfl, Nat.le_of_ble_eq_true rfl⟩ hS dX10_frame_25 ⟨?_, rfl⟩
    · have he0 := (hW.fr hf).e0 (by omega)
      rw [(hW.fr hf).s, he0.2.2]
  · skip
    have hfz := hPT.pos hf hPf
    obtain ⟨b9, hd1, hd2, hpb⟩ := hPT.some0 hf hPf
    have hw0 := hpb.2.2.1
    have hw16 := hpb.2.2.2.1
    have hh0 := hpb.2.2.2.2.1
    have hh16 := hpb.2.2.2.2.2.1
    have hwh := hpb.2.2.2.2.2.2.1
    have hcol := hpb.2.2.2.2.2.2.2
    have hfzz : szF q f = wdF q f * htF q f := rfl
    refine lv_aload_n hx hb dX10_frame_0 rfl (lv_at hl 0 rfl) ?_
    refine lv_iload_n hx hb dX10_frame_1 rfl (lv_at hl 1 rfl) ?_
    refine cl_X10_123 (As := [.int (nI f)]) (rest := []) hB (c_X10_existingFrame l g H0 xb (zOf q) P f hCi.1 hS1 (by first | assumption | omega)) hCi.1 rfl hl.1 (Nat.le_of_ble_eq_true rfl) dX10_frame_2 ⟨Nat.le_of_ble_eq_true rfl, Nat.le_of_ble_eq_true rfl⟩ ⟨Nat.le_of_ble_eq_true rfl, Nat.le_of_ble_eq_true rfl⟩ hS (by have hz9 := hS.1; rintro q (h | h) <;> first | exact Or.inr (by omega) | exact h.elim | exact Or.inl h | (simp only [ftA] at h ⊢; omega)) (fun v H1 locs hpo hfr hS => ?_)
    obtain ⟨rfl, rfl⟩ := hpo
    refine W.widen (k := 0) (n := 0) (Nat.le_of_ble_eq_true rfl) (Nat.le_of_ble_eq_true rfl) ?_
    refine lv_astore_n (lv' := [(3, .ref ((xb + 10) + (20 + 2 * f))), (0, .ref xb), (1, .int (nI f)), (2, .int (nI 2))]) hx hb dX10_frame_5 rfl hl (by decide) rfl (fun ls hl => ?_)
    refine lv_iload_n hx hb dX10_frame_6 rfl (lv_at hl 3 rfl) ?_
    refine lv_iconst (v := nI 0) hx hb dX10_frame_7 (by decide) ?_
    refine lv_bipush (v := nI 6) hx hb dX10_frame_8 (by decide) ?_
    refine cl_X10_44 (As := [.int (nI 2), .int (nI 0), .int (nI 6)]) (rest := []) hB (c_X10_requireRange l g H0 2 0 6 (by first | assumption | omega) (by first | assumption | omega) (by first | assumption | omega)) rfl hl.1 (Nat.le_of_ble_eq_true rfl) dX10_frame_10 ⟨Nat.le_of_ble_eq_true rfl, Nat.le_of_ble_eq_true rfl⟩ ⟨Nat.le_of_ble_eq_true rfl, Nat.le_of_ble_eq_true rfl⟩ hS (by have hz9 := hS.1; rintro q (h | h) <;> first | exact Or.inr (by omega) | exact h.elim | exact Or.inl h | (simp only [ftA] at h ⊢; omega)) (fun v H1 locs hpo hfr hS => ?_)
    obtain ⟨rfl, rfl⟩ := hpo
    refine W.widen (k := 0) (n := 0) (Nat.le_of_ble_eq_true rfl) (Nat.le_of_ble_eq_true rfl) ?_
    refine lv_aload_n hx hb dX10_frame_13 rfl (lv_at hl 0 rfl) ?_
    refine gf_X10_127 hB (hS1.ofS (k := f) (by omega) hPf) rfl dX10_frame_14 ?_
    refine lv_astore (lv' := [(4, .ref p9), (3, .ref ((xb + 10) + (20 + 2 * f))), (0, .ref xb), (1, .int (nI f)), (2, .int (nI 2))]) hx hb dX10_frame_17 hl (by decide) rfl (fun ls hl => ?_)
    refine lv_aload hx hb dX10_frame_19 (lv_at hl 0 rfl) ?_
    refine lv_ifnonnull (tgt := 26) hx hb dX10_frame_21 (by decide) ?_
    refine lv_iload_n hx hb dX10_frame_26 rfl (lv_at hl 4 rfl) ?_
    refine lv_tableIn (tgt := 76) (off := 49) hx hb dX10_frame_27 (by decide) (by decide) (by decide) (by decide) ?_
    refine lv_aload_n hx hb dX10_frame_76 rfl (lv_at hl 1 rfl) ?_
    refine gf_X10_141 hB (hS1.ofS (k := f) (by omega) hPf) rfl dX10_frame_77 ?_
    refine mh_iret hB ⟨Nat.le_of_ble_eq_true rfl, Nat.le_of_ble_eq_true rfl⟩ hS dX10_frame_80 ⟨?_, rfl⟩
    · rw [zOf_fS hf]

def rm_f_X10_frame_3 : Room := { frames := 3, cells := 0, slots := 0, locals := 68 }
set_option maxRecDepth 100000 in
set_option maxHeartbeats 400000 in
theorem f_X10_frame_3 (l : Launch) (g : GG) (H0 : Heap) (xb : Nat) (lim : Nat) (q : Nat → Int32) (n : Nat) (rm : Nat → Int32) (sl : Nat → Int32) (sv : Nat → Int32) (tx : Nat → Int32) (ln : Nat) (f : Nat) (hC : CLS g xb lim q n rm sl sv tx ln H0) (hf : f < 3) : Ct l yX10_frame cX10_frame 5 (some .int) rm_f_X10_frame_3 g [.ref xb, .int (nI f), .int (nI 3)] H0 (ftA (fun _ => False) H0.size) (fun v H1 => v = some (.int (nI (cntR (fun j9 => decide (0 < cntC q f j9 0 (szF q f))) 0 6))) ∧ H0 = H1) := by
  refine Ct.of (by decide) (fun _ h => Or.inr h) (Nat.le_of_ble_eq_true rfl) ?_
  intro p e s m below meth c ls hB hin hS hH hl
  have hx := hB.x
  have hb := hB.b
  have hl : lv_has ls 5 [(0, .ref xb), (1, .int (nI f)), (2, .int (nI 3))] := hl
  obtain ⟨D, P, T, Zr, Pr, zt, Pt, nx, hCi⟩ := hC
  have hS1 := hCi.2.2.1
  have hPT := hCi.2.2.2.1
  have hD : ∀ q9, xb + 10 ≤ q9 → q9 < xb + 10 + 26 → D q9 := fun q9 h1 h2 => hCi.2.2.2.2.2.2.2.2.2.2.2.2.1 q9 (by omega) (Nat.lt_of_lt_of_le (show q9 < xb + 68 by omega) hCi.2.2.2.2.2.2.2.2.2.2.2.2.2.2.2.2.1)
  have hW : WF q := hCi.2.2.2.2.2.2.2.2.2.2.2.2.2.2.1
  have hZ : WZ q := hCi.2.2.2.2.2.2.2.2.2.2.2.2.2.2.2.1
  have hnm5 := hW.2.2.1
  have hz0 : (zOf q) 0 = nI (nmQ q) := by rw [zOf_lo (by omega), hW.1]
  rcases hPf : P f with _ | p9
  · skip
    have hfz := hPT.none0 hf hPf
    refine lv_aload_n hx hb dX10_frame_0 rfl (lv_at hl 0 rfl) ?_
    refine lv_iload_n hx hb dX10_frame_1 rfl (lv_at hl 1 rfl) ?_
    refine cl_X10_123 (As := [.int (nI f)]) (rest := []) hB (c_X10_existingFrame l g H0 xb (zOf q) P f hCi.1 hS1 (by first | assumption | omega)) hCi.1 rfl hl.1 (Nat.le_of_ble_eq_true rfl) dX10_frame_2 ⟨Nat.le_of_ble_eq_true rfl, Nat.le_of_ble_eq_true rfl⟩ ⟨Nat.le_of_ble_eq_true rfl, Nat.le_of_ble_eq_true rfl⟩ hS (by have hz9 := hS.1; rintro q (h | h) <;> first | exact Or.inr (by omega) | exact h.elim | exact Or.inl h | (simp only [ftA] at h ⊢; omega)) (fun v H1 locs hpo hfr hS => ?_)
    obtain ⟨rfl, rfl⟩ := hpo
    refine W.widen (k := 0) (n := 0) (Nat.le_of_ble_eq_true rfl) (Nat.le_of_ble_eq_true rfl) ?_
    refine lv_astore_n (lv' := [(3, .ref ((xb + 10) + (20 + 2 * f))), (0, .ref xb), (1, .int (nI f)), (2, .int (nI 3))]) hx hb dX10_frame_5 rfl hl (by decide) rfl (fun ls hl => ?_)
    refine lv_iload_n hx hb dX10_frame_6 rfl (lv_at hl 3 rfl) ?_
    refine lv_iconst (v := nI 0) hx hb dX10_frame_7 (by decide) ?_
    refine lv_bipush (v := nI 6) hx hb dX10_frame_8 (by decide) ?_
    refine cl_X10_44 (As := [.int (nI 3), .int (nI 0), .int (nI 6)]) (rest := []) hB (c_X10_requireRange l g H0 3 0 6 (by first | assumption | omega) (by first | assumption | omega) (by first | assumption | omega)) rfl hl.1 (Nat.le_of_ble_eq_true rfl) dX10_frame_10 ⟨Nat.le_of_ble_eq_true rfl, Nat.le_of_ble_eq_true rfl⟩ ⟨Nat.le_of_ble_eq_true rfl, Nat.le_of_ble_eq_true rfl⟩ hS (by have hz9 := hS.1; rintro q (h | h) <;> first | exact Or.inr (by omega) | exact h.elim | exact Or.inl h | (simp only [ftA] at h ⊢; omega)) (fun v H1 locs hpo hfr hS => ?_)
    obtain ⟨rfl, rfl⟩ := hpo
    refine W.widen (k := 0) (n := 0) (Nat.le_of_ble_eq_true rfl) (Nat.le_of_ble_eq_true rfl) ?_
    refine lv_aload_n hx hb dX10_frame_13 rfl (lv_at hl 0 rfl) ?_
    refine gf_X10_127 hB (hS1.ofN (k := f) (by omega) hPf) rfl dX10_frame_14 ?_
    refine lv_astoreN (lv' := [(4, .null), (3, .ref ((xb + 10) + (20 + 2 * f))), (0, .ref xb), (1, .int (nI f)), (2, .int (nI 3))]) hx hb dX10_frame_17 hl (by decide) rfl (fun ls hl => ?_)
    refine lv_aloadN hx hb dX10_frame_19 (lv_at hl 0 rfl) ?_
    refine lv_ifnonnullN hx hb dX10_frame_21 ?_
    refine lv_iconst (v := nI 0) hx hb dX10_frame_24 (by decide) ?_
    refine mh_iret hB ⟨Nat.le_of_ble_eq_true rfl, Nat.le_of_ble_eq_true rfl⟩ hS dX10_frame_25 ⟨?_, rfl⟩
    · have he0 := (hW.fr hf).e0 (by omega)
      rw [hfz]; exact congrArg (fun x => some (Value.int (nI x))) (cntR_none (P := fun j9 => decide (0 < cntC q f j9 0 0)) (fun k => rfl) 0 6).symm
  · skip
    have hfz := hPT.pos hf hPf
    obtain ⟨b9, hd1, hd2, hpb⟩ := hPT.some0 hf hPf
    have hw0 := hpb.2.2.1
    have hw16 := hpb.2.2.2.1
    have hh0 := hpb.2.2.2.2.1
    have hh16 := hpb.2.2.2.2.2.1
    have hwh := hpb.2.2.2.2.2.2.1
    have hcol := hpb.2.2.2.2.2.2.2
    have hfzz : szF q f = wdF q f * htF q f := rfl
    refine lv_aload_n hx hb dX10_frame_0 rfl (lv_at hl 0 rfl) ?_
    refine lv_iload_n hx hb dX10_frame_1 rfl (lv_at hl 1 rfl) ?_
    refine cl_X10_123 (As := [.int (nI f)]) (rest := []) hB (c_X10_existingFrame l g H0 xb (zOf q) P f hCi.1 hS1 (by first | assumption | omega)) hCi.1 rfl hl.1 (Nat.le_of_ble_eq_true rfl) dX10_frame_2 ⟨Nat.le_of_ble_eq_true rfl, Nat.le_of_ble_eq_true rfl⟩ ⟨Nat.le_of_ble_eq_true rfl, Nat.le_of_ble_eq_true rfl⟩ hS (by have hz9 := hS.1; rintro q (h | h) <;> first | exact Or.inr (by omega) | exact h.elim | exact Or.inl h | (simp only [ftA] at h ⊢; omega)) (fun v H1 locs hpo hfr hS => ?_)
    obtain ⟨rfl, rfl⟩ := hpo
    refine W.widen (k := 0) (n := 0) (Nat.le_of_ble_eq_true rfl) (Nat.le_of_ble_eq_true rfl) ?_
    refine lv_astore_n (lv' := [(3, .ref ((xb + 10) + (20 + 2 * f))), (0, .ref xb), (1, .int (nI f)), (2, .int (nI 3))]) hx hb dX10_frame_5 rfl hl (by decide) rfl (fun ls hl => ?_)
    refine lv_iload_n hx hb dX10_frame_6 rfl (lv_at hl 3 rfl) ?_
    refine lv_iconst (v := nI 0) hx hb dX10_frame_7 (by decide) ?_
    refine lv_bipush (v := nI 6) hx hb dX10_frame_8 (by decide) ?_
    refine cl_X10_44 (As := [.int (nI 3), .int (nI 0), .int (nI 6)]) (rest := []) hB (c_X10_requireRange l g H0 3 0 6 (by first | assumption | omega) (by first | assumption | omega) (by first | assumption | omega)) rfl hl.1 (Nat.le_of_ble_eq_true rfl) dX10_frame_10 ⟨Nat.le_of_ble_eq_true rfl, Nat.le_of_ble_eq_true rfl⟩ ⟨Nat.le_of_ble_eq_true rfl, Nat.le_of_ble_eq_true rfl⟩ hS (by have hz9 := hS.1; rintro q (h | h) <;> first | exact Or.inr (by omega) | exact h.elim | exact Or.inl h | (simp only [ftA] at h ⊢; omega)) (fun v H1 locs hpo hfr hS => ?_)
    obtain ⟨rfl, rfl⟩ := hpo
    refine W.widen (k := 0) (n := 0) (Nat.le_of_ble_eq_true rfl) (Nat.le_of_ble_eq_true rfl) ?_
    refine lv_aload_n hx hb dX10_frame_13 rfl (lv_at hl 0 rfl) ?_
    refine gf_X10_127 hB (hS1.ofS (k := f) (by omega) hPf) rfl dX10_frame_14 ?_
    refine lv_astore (lv' := [(4, .ref p9), (3, .ref ((xb + 10) + (20 + 2 * f))), (0, .ref xb), (1, .int (nI f)), (2, .int (nI 3))]) hx hb dX10_frame_17 hl (by decide) rfl (fun ls hl => ?_)
    refine lv_aload hx hb dX10_frame_19 (lv_at hl 0 rfl) ?_
    refine lv_ifnonnull (tgt := 26) hx hb dX10_frame_21 (by decide) ?_
    refine lv_iload_n hx hb dX10_frame_26 rfl (lv_at hl 4 rfl) ?_
    refine lv_tableIn (tgt := 81) (off := 54) hx hb dX10_frame_27 (by decide) (by decide) (by decide) (by decide) ?_
    refine lv_aload hx hb dX10_frame_81 (lv_at hl 0 rfl) ?_
    refine cl_X10_142 (As := []) (rest := []) hB (c_X4_differentColours l g H0 p9 b9 (wdF q f) (htF q f) (clF q f) hpb) hpb.1 rfl hl.1 (Nat.le_of_ble_eq_true rfl) dX10_frame_83 ⟨Nat.le_of_ble_eq_true rfl, Nat.le_of_ble_eq_true rfl⟩ ⟨Nat.le_of_ble_eq_true rfl, Nat.le_of_ble_eq_true rfl⟩ hS (by have hz9 := hS.1; rintro q (h | h) <;> first | exact Or.inr (by omega) | exact h.elim | exact Or.inl h | (simp only [ftA] at h ⊢; omega)) (fun v H1 locs hpo hfr hS => ?_)
    obtain ⟨rfl, rfl⟩ := hpo
    refine W.widen (k := 0) (n := 0) (Nat.le_of_ble_eq_true rfl) (Nat.le_of_ble_eq_true rfl) ?_
    refine mh_iret hB ⟨Nat.le_of_ble_eq_true rfl, Nat.le_of_ble_eq_true rfl⟩ hS dX10_frame_86 ⟨?_, rfl⟩
    · rfl

def rm_f_X10_frame_4 : Room := { frames := 4, cells := 0, slots := 0, locals := 91 }
set_option maxRecDepth 100000 in
set_option maxHeartbeats 400000 in
theorem f_X10_frame_4 (l : Launch) (g : GG) (H0 : Heap) (xb : Nat) (lim : Nat) (q : Nat → Int32) (n : Nat) (rm : Nat → Int32) (sl : Nat → Int32) (sv : Nat → Int32) (tx : Nat → Int32) (ln : Nat) (f : Nat) (hC : CLS g xb lim q n rm sl sv tx ln H0) (hf : f < 3) : Ct l yX10_frame cX10_frame 5 (some .int) rm_f_X10_frame_4 g [.ref xb, .int (nI f), .int (nI 4)] H0 (ftA (fun _ => False) H0.size) (fun v H1 => v = some (.int (nI (seamN (wdF q f) (szF q f) (clF q f) (szF q f)))) ∧ H0 = H1) := by
  refine Ct.of (by decide) (fun _ h => Or.inr h) (Nat.le_of_ble_eq_true rfl) ?_
  intro p e s m below meth c ls hB hin hS hH hl
  have hx := hB.x
  have hb := hB.b
  have hl : lv_has ls 5 [(0, .ref xb), (1, .int (nI f)), (2, .int (nI 4))] := hl
  obtain ⟨D, P, T, Zr, Pr, zt, Pt, nx, hCi⟩ := hC
  have hS1 := hCi.2.2.1
  have hPT := hCi.2.2.2.1
  have hD : ∀ q9, xb + 10 ≤ q9 → q9 < xb + 10 + 26 → D q9 := fun q9 h1 h2 => hCi.2.2.2.2.2.2.2.2.2.2.2.2.1 q9 (by omega) (Nat.lt_of_lt_of_le (show q9 < xb + 68 by omega) hCi.2.2.2.2.2.2.2.2.2.2.2.2.2.2.2.2.1)
  have hW : WF q := hCi.2.2.2.2.2.2.2.2.2.2.2.2.2.2.1
  have hZ : WZ q := hCi.2.2.2.2.2.2.2.2.2.2.2.2.2.2.2.1
  have hnm5 := hW.2.2.1
  have hz0 : (zOf q) 0 = nI (nmQ q) := by rw [zOf_lo (by omega), hW.1]
  rcases hPf : P f with _ | p9
  · skip
    have hfz := hPT.none0 hf hPf
    refine lv_aload_n hx hb dX10_frame_0 rfl (lv_at hl 0 rfl) ?_
    refine lv_iload_n hx hb dX10_frame_1 rfl (lv_at hl 1 rfl) ?_
    refine cl_X10_123 (As := [.int (nI f)]) (rest := []) hB (c_X10_existingFrame l g H0 xb (zOf q) P f hCi.1 hS1 (by first | assumption | omega)) hCi.1 rfl hl.1 (Nat.le_of_ble_eq_true rfl) dX10_frame_2 ⟨Nat.le_of_ble_eq_true rfl, Nat.le_of_ble_eq_true rfl⟩ ⟨Nat.le_of_ble_eq_true rfl, Nat.le_of_ble_eq_true rfl⟩ hS (by have hz9 := hS.1; rintro q (h | h) <;> first | exact Or.inr (by omega) | exact h.elim | exact Or.inl h | (simp only [ftA] at h ⊢; omega)) (fun v H1 locs hpo hfr hS => ?_)
    obtain ⟨rfl, rfl⟩ := hpo
    refine W.widen (k := 0) (n := 0) (Nat.le_of_ble_eq_true rfl) (Nat.le_of_ble_eq_true rfl) ?_
    refine lv_astore_n (lv' := [(3, .ref ((xb + 10) + (20 + 2 * f))), (0, .ref xb), (1, .int (nI f)), (2, .int (nI 4))]) hx hb dX10_frame_5 rfl hl (by decide) rfl (fun ls hl => ?_)
    refine lv_iload_n hx hb dX10_frame_6 rfl (lv_at hl 3 rfl) ?_
    refine lv_iconst (v := nI 0) hx hb dX10_frame_7 (by decide) ?_
    refine lv_bipush (v := nI 6) hx hb dX10_frame_8 (by decide) ?_
    refine cl_X10_44 (As := [.int (nI 4), .int (nI 0), .int (nI 6)]) (rest := []) hB (c_X10_requireRange l g H0 4 0 6 (by first | assumption | omega) (by first | assumption | omega) (by first | assumption | omega)) rfl hl.1 (Nat.le_of_ble_eq_true rfl) dX10_frame_10 ⟨Nat.le_of_ble_eq_true rfl, Nat.le_of_ble_eq_true rfl⟩ ⟨Nat.le_of_ble_eq_true rfl, Nat.le_of_ble_eq_true rfl⟩ hS (by have hz9 := hS.1; rintro q (h | h) <;> first | exact Or.inr (by omega) | exact h.elim | exact Or.inl h | (simp only [ftA] at h ⊢; omega)) (fun v H1 locs hpo hfr hS => ?_)
    obtain ⟨rfl, rfl⟩ := hpo
    refine W.widen (k := 0) (n := 0) (Nat.le_of_ble_eq_true rfl) (Nat.le_of_ble_eq_true rfl) ?_
    refine lv_aload_n hx hb dX10_frame_13 rfl (lv_at hl 0 rfl) ?_
    refine gf_X10_127 hB (hS1.ofN (k := f) (by omega) hPf) rfl dX10_frame_14 ?_
    refine lv_astoreN (lv' := [(4, .null), (3, .ref ((xb + 10) + (20 + 2 * f))), (0, .ref xb), (1, .int (nI f)), (2, .int (nI 4))]) hx hb dX10_frame_17 hl (by decide) rfl (fun ls hl => ?_)
    refine lv_aloadN hx hb dX10_frame_19 (lv_at hl 0 rfl) ?_
    refine lv_ifnonnullN hx hb dX10_frame_21 ?_
    refine lv_iconst (v := nI 0) hx hb dX10_frame_24 (by decide) ?_
    refine mh_iret hB ⟨Nat.le_of_ble_eq_true rfl, Nat.le_of_ble_eq_true rfl⟩ hS dX10_frame_25 ⟨?_, rfl⟩
    · have he0 := (hW.fr hf).e0 (by omega)
      rw [hfz]; rfl
  · skip
    have hfz := hPT.pos hf hPf
    obtain ⟨b9, hd1, hd2, hpb⟩ := hPT.some0 hf hPf
    have hw0 := hpb.2.2.1
    have hw16 := hpb.2.2.2.1
    have hh0 := hpb.2.2.2.2.1
    have hh16 := hpb.2.2.2.2.2.1
    have hwh := hpb.2.2.2.2.2.2.1
    have hcol := hpb.2.2.2.2.2.2.2
    have hfzz : szF q f = wdF q f * htF q f := rfl
    refine lv_aload_n hx hb dX10_frame_0 rfl (lv_at hl 0 rfl) ?_
    refine lv_iload_n hx hb dX10_frame_1 rfl (lv_at hl 1 rfl) ?_
    refine cl_X10_123 (As := [.int (nI f)]) (rest := []) hB (c_X10_existingFrame l g H0 xb (zOf q) P f hCi.1 hS1 (by first | assumption | omega)) hCi.1 rfl hl.1 (Nat.le_of_ble_eq_true rfl) dX10_frame_2 ⟨Nat.le_of_ble_eq_true rfl, Nat.le_of_ble_eq_true rfl⟩ ⟨Nat.le_of_ble_eq_true rfl, Nat.le_of_ble_eq_true rfl⟩ hS (by have hz9 := hS.1; rintro q (h | h) <;> first | exact Or.inr (by omega) | exact h.elim | exact Or.inl h | (simp only [ftA] at h ⊢; omega)) (fun v H1 locs hpo hfr hS => ?_)
    obtain ⟨rfl, rfl⟩ := hpo
    refine W.widen (k := 0) (n := 0) (Nat.le_of_ble_eq_true rfl) (Nat.le_of_ble_eq_true rfl) ?_
    refine lv_astore_n (lv' := [(3, .ref ((xb + 10) + (20 + 2 * f))), (0, .ref xb), (1, .int (nI f)), (2, .int (nI 4))]) hx hb dX10_frame_5 rfl hl (by decide) rfl (fun ls hl => ?_)
    refine lv_iload_n hx hb dX10_frame_6 rfl (lv_at hl 3 rfl) ?_
    refine lv_iconst (v := nI 0) hx hb dX10_frame_7 (by decide) ?_
    refine lv_bipush (v := nI 6) hx hb dX10_frame_8 (by decide) ?_
    refine cl_X10_44 (As := [.int (nI 4), .int (nI 0), .int (nI 6)]) (rest := []) hB (c_X10_requireRange l g H0 4 0 6 (by first | assumption | omega) (by first | assumption | omega) (by first | assumption | omega)) rfl hl.1 (Nat.le_of_ble_eq_true rfl) dX10_frame_10 ⟨Nat.le_of_ble_eq_true rfl, Nat.le_of_ble_eq_true rfl⟩ ⟨Nat.le_of_ble_eq_true rfl, Nat.le_of_ble_eq_true rfl⟩ hS (by have hz9 := hS.1; rintro q (h | h) <;> first | exact Or.inr (by omega) | exact h.elim | exact Or.inl h | (simp only [ftA] at h ⊢; omega)) (fun v H1 locs hpo hfr hS => ?_)
    obtain ⟨rfl, rfl⟩ := hpo
    refine W.widen (k := 0) (n := 0) (Nat.le_of_ble_eq_true rfl) (Nat.le_of_ble_eq_true rfl) ?_
    refine lv_aload_n hx hb dX10_frame_13 rfl (lv_at hl 0 rfl) ?_
    refine gf_X10_127 hB (hS1.ofS (k := f) (by omega) hPf) rfl dX10_frame_14 ?_
    refine lv_astore (lv' := [(4, .ref p9), (3, .ref ((xb + 10) + (20 + 2 * f))), (0, .ref xb), (1, .int (nI f)), (2, .int (nI 4))]) hx hb dX10_frame_17 hl (by decide) rfl (fun ls hl => ?_)
    refine lv_aload hx hb dX10_frame_19 (lv_at hl 0 rfl) ?_
    refine lv_ifnonnull (tgt := 26) hx hb dX10_frame_21 (by decide) ?_
    refine lv_iload_n hx hb dX10_frame_26 rfl (lv_at hl 4 rfl) ?_
    refine lv_tableIn (tgt := 87) (off := 60) hx hb dX10_frame_27 (by decide) (by decide) (by decide) (by decide) ?_
    refine lv_aload hx hb dX10_frame_87 (lv_at hl 0 rfl) ?_
    refine cl_X10_145 (As := []) (rest := []) hB (c_X4_seams l g H0 p9 b9 (wdF q f) (htF q f) (clF q f) hpb) hpb.1 rfl hl.1 (Nat.le_of_ble_eq_true rfl) dX10_frame_89 ⟨Nat.le_of_ble_eq_true rfl, Nat.le_of_ble_eq_true rfl⟩ ⟨Nat.le_of_ble_eq_true rfl, Nat.le_of_ble_eq_true rfl⟩ hS (by have hz9 := hS.1; rintro q (h | h) <;> first | exact Or.inr (by omega) | exact h.elim | exact Or.inl h | (simp only [ftA] at h ⊢; omega)) (fun v H1 locs hpo hfr hS => ?_)
    obtain ⟨rfl, rfl⟩ := hpo
    refine W.widen (k := 0) (n := 0) (Nat.le_of_ble_eq_true rfl) (Nat.le_of_ble_eq_true rfl) ?_
    refine mh_iret hB ⟨Nat.le_of_ble_eq_true rfl, Nat.le_of_ble_eq_true rfl⟩ hS dX10_frame_92 ⟨?_, rfl⟩
    · rfl

def rm_f_X10_patch : Room := { frames := 2, cells := 0, slots := 0, locals := 43 }
set_option maxRecDepth 100000 in
set_option maxHeartbeats 400000 in
theorem f_X10_patch (l : Launch) (g : GG) (H0 : Heap) (xb : Nat) (lim : Nat) (q : Nat → Int32) (n : Nat) (rm : Nat → Int32) (sl : Nat → Int32) (sv : Nat → Int32) (tx : Nat → Int32) (ln : Nat) (f : Nat) (a : Nat) (b : Nat) (hC : CLS g xb lim q n rm sl sv tx ln H0) (hf : f < 3) (ha : a < 2147483648) (hb8 : b < 2147483648) : Ct l yX10_patch cX10_patch 6 (some .int) rm_f_X10_patch g [.ref xb, .int (nI f), .int (nI a), .int (nI b)] H0 (ftA (fun _ => False) H0.size) (fun v H1 => v = some (.int (patV q f a b)) ∧ H0 = H1) := by
  refine Ct.of (by decide) (fun _ h => Or.inr h) (Nat.le_of_ble_eq_true rfl) ?_
  intro p e s m below meth c ls hB hin hS hH hl
  have hx := hB.x
  have hb := hB.b
  have hl : lv_has ls 6 [(0, .ref xb), (1, .int (nI f)), (2, .int (nI a)), (3, .int (nI b))] := hl
  obtain ⟨D, P, T, Zr, Pr, zt, Pt, nx, hCi⟩ := hC
  have hS1 := hCi.2.2.1
  have hPT := hCi.2.2.2.1
  have hD : ∀ q9, xb + 10 ≤ q9 → q9 < xb + 10 + 26 → D q9 := fun q9 h1 h2 => hCi.2.2.2.2.2.2.2.2.2.2.2.2.1 q9 (by omega) (Nat.lt_of_lt_of_le (show q9 < xb + 68 by omega) hCi.2.2.2.2.2.2.2.2.2.2.2.2.2.2.2.2.1)
  have hW : WF q := hCi.2.2.2.2.2.2.2.2.2.2.2.2.2.2.1
  have hZ : WZ q := hCi.2.2.2.2.2.2.2.2.2.2.2.2.2.2.2.1
  have hnm5 := hW.2.2.1
  have hz0 : (zOf q) 0 = nI (nmQ q) := by rw [zOf_lo (by omega), hW.1]
  rcases hPf : P f with _ | p9
  · skip
    have hfz := hPT.none0 hf hPf
    refine lv_aload_n hx hb dX10_patch_0 rfl (lv_at hl 0 rfl) ?_
    refine lv_iload_n hx hb dX10_patch_1 rfl (lv_at hl 1 rfl) ?_
    refine cl_X10_123 (As := [.int (nI f)]) (rest := []) hB (c_X10_existingFrame l g H0 xb (zOf q) P f hCi.1 hS1 (by first | assumption | omega)) hCi.1 rfl hl.1 (Nat.le_of_ble_eq_true rfl) dX10_patch_2 ⟨Nat.le_of_ble_eq_true rfl, Nat.le_of_ble_eq_true rfl⟩ ⟨Nat.le_of_ble_eq_true rfl, Nat.le_of_ble_eq_true rfl⟩ hS (by have hz9 := hS.1; rintro q (h | h) <;> first | exact Or.inr (by omega) | exact h.elim | exact Or.inl h | (simp only [ftA] at h ⊢; omega)) (fun v H1 locs hpo hfr hS => ?_)
    obtain ⟨rfl, rfl⟩ := hpo
    refine W.widen (k := 0) (n := 0) (Nat.le_of_ble_eq_true rfl) (Nat.le_of_ble_eq_true rfl) ?_
    refine lv_astore (lv' := [(4, .ref ((xb + 10) + (20 + 2 * f))), (0, .ref xb), (1, .int (nI f)), (2, .int (nI a)), (3, .int (nI b))]) hx hb dX10_patch_5 hl (by decide) rfl (fun ls hl => ?_)
    refine lv_iload_n hx hb dX10_patch_7 rfl (lv_at hl 3 rfl) ?_
    refine mn_if_lt (tgt := 19) hB dX10_patch_8 (by decide) (by omega) (fun h => by exfalso; omega) (fun h_8 => ?_)
    refine lv_iload_n hx hb dX10_patch_11 rfl (lv_at hl 4 rfl) ?_
    refine mn_if_lt (tgt := 19) hB dX10_patch_12 (by decide) (by omega) (fun h => by exfalso; omega) (fun h_12 => ?_)
    refine lv_iconst (v := nI 1) hx hb dX10_patch_15 (by decide) ?_
    refine lv_goto (tgt := 20) hx hb dX10_patch_16 (by decide) ?_
    refine cl_X10_155 (As := [.int (nI 1)]) (rest := []) hB (c_X10_requireArgument l g H0 ) rfl hl.1 (Nat.le_of_ble_eq_true rfl) dX10_patch_20 ⟨Nat.le_of_ble_eq_true rfl, Nat.le_of_ble_eq_true rfl⟩ ⟨Nat.le_of_ble_eq_true rfl, Nat.le_of_ble_eq_true rfl⟩ hS (by have hz9 := hS.1; rintro q (h | h) <;> first | exact Or.inr (by omega) | exact h.elim | exact Or.inl h | (simp only [ftA] at h ⊢; omega)) (fun v H1 locs hpo hfr hS => ?_)
    obtain ⟨rfl, rfl⟩ := hpo
    refine W.widen (k := 0) (n := 0) (Nat.le_of_ble_eq_true rfl) (Nat.le_of_ble_eq_true rfl) ?_
    refine lv_aload hx hb dX10_patch_23 (lv_at hl 0 rfl) ?_
    refine gf_X10_127 hB (hS1.ofN (k := f) (by omega) hPf) rfl dX10_patch_25 ?_
    refine lv_astoreN (lv' := [(5, .null), (4, .ref ((xb + 10) + (20 + 2 * f))), (0, .ref xb), (1, .int (nI f)), (2, .int (nI a)), (3, .int (nI b))]) hx hb dX10_patch_28 hl (by decide) rfl (fun ls hl => ?_)
    refine lv_aloadN hx hb dX10_patch_30 (lv_at hl 0 rfl) ?_
    refine lv_ifnonnullN hx hb dX10_patch_32 ?_
    refine lv_bipush (v := (-9)) hx hb dX10_patch_35 (by decide) ?_
    refine lv_goto (tgt := 47) hx hb dX10_patch_37 (by decide) ?_
    refine mh_iret hB ⟨Nat.le_of_ble_eq_true rfl, Nat.le_of_ble_eq_true rfl⟩ hS dX10_patch_47 ⟨?_, rfl⟩
    · show some (Value.int _) = some (Value.int (if a < wdF q f ∧ b < htF q f then _ else -9))
      have he0 := (hW.fr hf).e0 (by omega)
      rw [if_neg (by omega)]
  · skip
    have hfz := hPT.pos hf hPf
    obtain ⟨b9, hd1, hd2, hpb⟩ := hPT.some0 hf hPf
    have hw0 := hpb.2.2.1
    have hw16 := hpb.2.2.2.1
    have hh0 := hpb.2.2.2.2.1
    have hh16 := hpb.2.2.2.2.2.1
    have hwh := hpb.2.2.2.2.2.2.1
    have hcol := hpb.2.2.2.2.2.2.2
    have hfzz : szF q f = wdF q f * htF q f := rfl
    refine lv_aload_n hx hb dX10_patch_0 rfl (lv_at hl 0 rfl) ?_
    refine lv_iload_n hx hb dX10_patch_1 rfl (lv_at hl 1 rfl) ?_
    refine cl_X10_123 (As := [.int (nI f)]) (rest := []) hB (c_X10_existingFrame l g H0 xb (zOf q) P f hCi.1 hS1 (by first | assumption | omega)) hCi.1 rfl hl.1 (Nat.le_of_ble_eq_true rfl) dX10_patch_2 ⟨Nat.le_of_ble_eq_true rfl, Nat.le_of_ble_eq_true rfl⟩ ⟨Nat.le_of_ble_eq_true rfl, Nat.le_of_ble_eq_true rfl⟩ hS (by have hz9 := hS.1; rintro q (h | h) <;> first | exact Or.inr (by omega) | exact h.elim | exact Or.inl h | (simp only [ftA] at h ⊢; omega)) (fun v H1 locs hpo hfr hS => ?_)
    obtain ⟨rfl, rfl⟩ := hpo
    refine W.widen (k := 0) (n := 0) (Nat.le_of_ble_eq_true rfl) (Nat.le_of_ble_eq_true rfl) ?_
    refine lv_astore (lv' := [(4, .ref ((xb + 10) + (20 + 2 * f))), (0, .ref xb), (1, .int (nI f)), (2, .int (nI a)), (3, .int (nI b))]) hx hb dX10_patch_5 hl (by decide) rfl (fun ls hl => ?_)
    refine lv_iload_n hx hb dX10_patch_7 rfl (lv_at hl 3 rfl) ?_
    refine mn_if_lt (tgt := 19) hB dX10_patch_8 (by decide) (by omega) (fun h => by exfalso; omega) (fun h_8 => ?_)
    refine lv_iload_n hx hb dX10_patch_11 rfl (lv_at hl 4 rfl) ?_
    refine mn_if_lt (tgt := 19) hB dX10_patch_12 (by decide) (by omega) (fun h => by exfalso; omega) (fun h_12 => ?_)
    refine lv_iconst (v := nI 1) hx hb dX10_patch_15 (by decide) ?_
    refine lv_goto (tgt := 20) hx hb dX10_patch_16 (by decide) ?_
    refine cl_X10_155 (As := [.int (nI 1)]) (rest := []) hB (c_X10_requireArgument l g H0 ) rfl hl.1 (Nat.le_of_ble_eq_true rfl) dX10_patch_20 ⟨Nat.le_of_ble_eq_true rfl, Nat.le_of_ble_eq_true rfl⟩ ⟨Nat.le_of_ble_eq_true rfl, Nat.le_of_ble_eq_true rfl⟩ hS (by have hz9 := hS.1; rintro q (h | h) <;> first | exact Or.inr (by omega) | exact h.elim | exact Or.inl h | (simp only [ftA] at h ⊢; omega)) (fun v H1 locs hpo hfr hS => ?_)
    obtain ⟨rfl, rfl⟩ := hpo
    refine W.widen (k := 0) (n := 0) (Nat.le_of_ble_eq_true rfl) (Nat.le_of_ble_eq_true rfl) ?_
    refine lv_aload hx hb dX10_patch_23 (lv_at hl 0 rfl) ?_
    refine gf_X10_127 hB (hS1.ofS (k := f) (by omega) hPf) rfl dX10_patch_25 ?_
    refine lv_astore (lv' := [(5, .ref p9), (4, .ref ((xb + 10) + (20 + 2 * f))), (0, .ref xb), (1, .int (nI f)), (2, .int (nI a)), (3, .int (nI b))]) hx hb dX10_patch_28 hl (by decide) rfl (fun ls hl => ?_)
    refine lv_aload hx hb dX10_patch_30 (lv_at hl 0 rfl) ?_
    refine lv_ifnonnull (tgt := 40) hx hb dX10_patch_32 (by decide) ?_
    refine lv_aload hx hb dX10_patch_40 (lv_at hl 0 rfl) ?_
    refine lv_iload_n hx hb dX10_patch_42 rfl (lv_at hl 4 rfl) ?_
    refine lv_iload_n hx hb dX10_patch_43 rfl (lv_at hl 5 rfl) ?_
    refine cl_X10_158 (As := [.int (nI a), .int (nI b)]) (rest := []) hB (c_X4_colourAt l g H0 p9 b9 (wdF q f) (htF q f) (clF q f) a b hpb (by first | assumption | omega) (by first | assumption | omega)) hpb.1 rfl hl.1 (Nat.le_of_ble_eq_true rfl) dX10_patch_44 ⟨Nat.le_of_ble_eq_true rfl, Nat.le_of_ble_eq_true rfl⟩ ⟨Nat.le_of_ble_eq_true rfl, Nat.le_of_ble_eq_true rfl⟩ hS (by have hz9 := hS.1; rintro q (h | h) <;> first | exact Or.inr (by omega) | exact h.elim | exact Or.inl h | (simp only [ftA] at h ⊢; omega)) (fun v H1 locs hpo hfr hS => ?_)
    obtain ⟨rfl, rfl⟩ := hpo
    refine W.widen (k := 0) (n := 0) (Nat.le_of_ble_eq_true rfl) (Nat.le_of_ble_eq_true rfl) ?_
    refine mh_iret hB ⟨Nat.le_of_ble_eq_true rfl, Nat.le_of_ble_eq_true rfl⟩ hS dX10_patch_47 ⟨?_, rfl⟩
    · rfl

def rm_f_X10_count_0 : Room := { frames := 3, cells := 0, slots := 0, locals := 69 }
set_option maxRecDepth 100000 in
set_option maxHeartbeats 400000 in
theorem f_X10_count_0 (l : Launch) (g : GG) (H0 : Heap) (xb : Nat) (lim : Nat) (q : Nat → Int32) (n : Nat) (rm : Nat → Int32) (sl : Nat → Int32) (sv : Nat → Int32) (tx : Nat → Int32) (ln : Nat) (f : Nat) (c0 : Nat) (hC : CLS g xb lim q n rm sl sv tx ln H0) (hf : f < 3) (hc : c0 < 6) : Ct l yX10_count cX10_count 5 (some .int) rm_f_X10_count_0 g [.ref xb, .int (nI f), .int (nI c0), .int (nI 0)] H0 (ftA (fun _ => False) H0.size) (fun v H1 => v = some (.int (nI (cntC q f c0 0 (szF q f)))) ∧ H0 = H1) := by
  refine Ct.of (by decide) (fun _ h => Or.inr h) (Nat.le_of_ble_eq_true rfl) ?_
  intro p e s m below meth c ls hB hin hS hH hl
  have hx := hB.x
  have hb := hB.b
  have hl : lv_has ls 5 [(0, .ref xb), (1, .int (nI f)), (2, .int (nI c0)), (3, .int (nI 0))] := hl
  obtain ⟨D, P, T, Zr, Pr, zt, Pt, nx, hCi⟩ := hC
  have hS1 := hCi.2.2.1
  have hPT := hCi.2.2.2.1
  have hD : ∀ q9, xb + 10 ≤ q9 → q9 < xb + 10 + 26 → D q9 := fun q9 h1 h2 => hCi.2.2.2.2.2.2.2.2.2.2.2.2.1 q9 (by omega) (Nat.lt_of_lt_of_le (show q9 < xb + 68 by omega) hCi.2.2.2.2.2.2.2.2.2.2.2.2.2.2.2.2.1)
  have hW : WF q := hCi.2.2.2.2.2.2.2.2.2.2.2.2.2.2.1
  have hZ : WZ q := hCi.2.2.2.2.2.2.2.2.2.2.2.2.2.2.2.1
  have hnm5 := hW.2.2.1
  have hz0 : (zOf q) 0 = nI (nmQ q) := by rw [zOf_lo (by omega), hW.1]
  refine lv_aload_n hx hb dX10_count_0 rfl (lv_at hl 0 rfl) ?_
  refine lv_iload_n hx hb dX10_count_1 rfl (lv_at hl 1 rfl) ?_
  refine cl_X10_123 (As := [.int (nI f)]) (rest := []) hB (c_X10_existingFrame l g H0 xb (zOf q) P f hCi.1 hS1 (by first | assumption | omega)) hCi.1 rfl hl.1 (Nat.le_of_ble_eq_true rfl) dX10_count_2 ⟨Nat.le_of_ble_eq_true rfl, Nat.le_of_ble_eq_true rfl⟩ ⟨Nat.le_of_ble_eq_true rfl, Nat.le_of_ble_eq_true rfl⟩ hS (by have hz9 := hS.1; rintro q (h | h) <;> first | exact Or.inr (by omega) | exact h.elim | exact Or.inl h | (simp only [ftA] at h ⊢; omega)) (fun v H1 locs hpo hfr hS => ?_)
  obtain ⟨rfl, rfl⟩ := hpo
  refine W.widen (k := 0) (n := 0) (Nat.le_of_ble_eq_true rfl) (Nat.le_of_ble_eq_true rfl) ?_
  refine lv_astore (lv' := [(4, .ref ((xb + 10) + (20 + 2 * f))), (0, .ref xb), (1, .int (nI f)), (2, .int (nI c0)), (3, .int (nI 0))]) hx hb dX10_count_5 hl (by decide) rfl (fun ls hl => ?_)
  refine lv_aload_n hx hb dX10_count_7 rfl (lv_at hl 1 rfl) ?_
  refine lv_iload_n hx hb dX10_count_8 rfl (lv_at hl 3 rfl) ?_
  refine cl_X10_116 (As := [.int (nI c0)]) (rest := []) hB (c_X10_existingCloth l g H0 xb (zOf q) P c0 hCi.1 hS1 (by first | assumption | omega)) hCi.1 rfl hl.1 (Nat.le_of_ble_eq_true rfl) dX10_count_9 ⟨Nat.le_of_ble_eq_true rfl, Nat.le_of_ble_eq_true rfl⟩ ⟨Nat.le_of_ble_eq_true rfl, Nat.le_of_ble_eq_true rfl⟩ hS (by have hz9 := hS.1; rintro q (h | h) <;> first | exact Or.inr (by omega) | exact h.elim | exact Or.inl h | (simp only [ftA] at h ⊢; omega)) (fun v H1 locs hpo hfr hS => ?_)
  obtain ⟨rfl, rfl⟩ := hpo
  refine W.widen (k := 0) (n := 0) (Nat.le_of_ble_eq_true rfl) (Nat.le_of_ble_eq_true rfl) ?_
  refine lv_pop hx hb dX10_count_12 rfl ?_
  refine lv_aload hx hb dX10_count_13 (lv_at hl 0 rfl) ?_
  refine lv_iload_n hx hb dX10_count_15 rfl (lv_at hl 3 rfl) ?_
  refine lv_iconst (v := nI 0) hx hb dX10_count_16 (by decide) ?_
  refine lv_iload_n hx hb dX10_count_17 rfl (lv_at hl 4 rfl) ?_
  refine mn_if_eq (tgt := 29) hB dX10_count_18 (by decide) (by omega) (fun h_18 => ?_) (fun h => by exfalso; omega)
  refine lv_aload hx hb dX10_count_29 (lv_at hl 0 rfl) ?_
  refine cl_X10_162 (As := []) (rest := [.int (nI 0), .int (nI c0), .ref ((xb + 10) + (20 + 2 * f))]) hB (c_X1_patches l g H0 (xb + 10) (zOf q) P D q f hS1 hPT (by first | assumption | omega)) (hS1.of (k := f) (by omega)) rfl hl.1 (Nat.le_of_ble_eq_true rfl) dX10_count_31 ⟨Nat.le_of_ble_eq_true rfl, Nat.le_of_ble_eq_true rfl⟩ ⟨Nat.le_of_ble_eq_true rfl, Nat.le_of_ble_eq_true rfl⟩ hS (by have hz9 := hS.1; rintro q (h | h) <;> first | exact Or.inr (by omega) | exact h.elim | exact Or.inl h | (simp only [ftA] at h ⊢; omega)) (fun v H1 locs hpo hfr hS => ?_)
  obtain ⟨rfl, rfl⟩ := hpo
  refine W.widen (k := 0) (n := 0) (Nat.le_of_ble_eq_true rfl) (Nat.le_of_ble_eq_true rfl) ?_
  refine cl_X10_165 (As := [.int (nI c0), .int (nI 0), .int (nI (szF q f))]) (rest := []) hB (c_X1_patchesOf l g H0 (xb + 10) (zOf q) P D q f c0 0 (szF q f) hS1 hPT (by first | assumption | omega) (by first | assumption | omega) (Nat.zero_le _) (Nat.le_refl _)) (hS1.of (k := f) (by omega)) rfl hl.1 (Nat.le_of_ble_eq_true rfl) dX10_count_34 ⟨Nat.le_of_ble_eq_true rfl, Nat.le_of_ble_eq_true rfl⟩ ⟨Nat.le_of_ble_eq_true rfl, Nat.le_of_ble_eq_true rfl⟩ hS (by have hz9 := hS.1; rintro q (h | h) <;> first | exact Or.inr (by omega) | exact h.elim | exact Or.inl h | (simp only [ftA] at h ⊢; omega)) (fun v H1 locs hpo hfr hS => ?_)
  obtain ⟨rfl, rfl⟩ := hpo
  refine W.widen (k := 0) (n := 0) (Nat.le_of_ble_eq_true rfl) (Nat.le_of_ble_eq_true rfl) ?_
  refine mh_iret hB ⟨Nat.le_of_ble_eq_true rfl, Nat.le_of_ble_eq_true rfl⟩ hS dX10_count_37 ⟨?_, rfl⟩
  · rfl

def rm_f_X10_count_1 : Room := { frames := 3, cells := 0, slots := 0, locals := 69 }
set_option maxRecDepth 100000 in
set_option maxHeartbeats 400000 in
theorem f_X10_count_1 (l : Launch) (g : GG) (H0 : Heap) (xb : Nat) (lim : Nat) (q : Nat → Int32) (n : Nat) (rm : Nat → Int32) (sl : Nat → Int32) (sv : Nat → Int32) (tx : Nat → Int32) (ln : Nat) (f : Nat) (c0 : Nat) (hC : CLS g xb lim q n rm sl sv tx ln H0) (hf : f < 3) (hc : c0 < 6) : Ct l yX10_count cX10_count 5 (some .int) rm_f_X10_count_1 g [.ref xb, .int (nI f), .int (nI c0), .int (nI 1)] H0 (ftA (fun _ => False) H0.size) (fun v H1 => v = some (.int (nI (cntC q f c0 0 (swF q f)))) ∧ H0 = H1) := by
  refine Ct.of (by decide) (fun _ h => Or.inr h) (Nat.le_of_ble_eq_true rfl) ?_
  intro p e s m below meth c ls hB hin hS hH hl
  have hx := hB.x
  have hb := hB.b
  have hl : lv_has ls 5 [(0, .ref xb), (1, .int (nI f)), (2, .int (nI c0)), (3, .int (nI 1))] := hl
  obtain ⟨D, P, T, Zr, Pr, zt, Pt, nx, hCi⟩ := hC
  have hS1 := hCi.2.2.1
  have hPT := hCi.2.2.2.1
  have hD : ∀ q9, xb + 10 ≤ q9 → q9 < xb + 10 + 26 → D q9 := fun q9 h1 h2 => hCi.2.2.2.2.2.2.2.2.2.2.2.2.1 q9 (by omega) (Nat.lt_of_lt_of_le (show q9 < xb + 68 by omega) hCi.2.2.2.2.2.2.2.2.2.2.2.2.2.2.2.2.1)
  have hW : WF q := hCi.2.2.2.2.2.2.2.2.2.2.2.2.2.2.1
  have hZ : WZ q := hCi.2.2.2.2.2.2.2.2.2.2.2.2.2.2.2.1
  have hnm5 := hW.2.2.1
  have hz0 : (zOf q) 0 = nI (nmQ q) := by rw [zOf_lo (by omega), hW.1]
  refine lv_aload_n hx hb dX10_count_0 rfl (lv_at hl 0 rfl) ?_
  refine lv_iload_n hx hb dX10_count_1 rfl (lv_at hl 1 rfl) ?_
  refine cl_X10_123 (As := [.int (nI f)]) (rest := []) hB (c_X10_existingFrame l g H0 xb (zOf q) P f hCi.1 hS1 (by first | assumption | omega)) hCi.1 rfl hl.1 (Nat.le_of_ble_eq_true rfl) dX10_count_2 ⟨Nat.le_of_ble_eq_true rfl, Nat.le_of_ble_eq_true rfl⟩ ⟨Nat.le_of_ble_eq_true rfl, Nat.le_of_ble_eq_true rfl⟩ hS (by have hz9 := hS.1; rintro q (h | h) <;> first | exact Or.inr (by omega) | exact h.elim | exact Or.inl h | (simp only [ftA] at h ⊢; omega)) (fun v H1 locs hpo hfr hS => ?_)
  obtain ⟨rfl, rfl⟩ := hpo
  refine W.widen (k := 0) (n := 0) (Nat.le_of_ble_eq_true rfl) (Nat.le_of_ble_eq_true rfl) ?_
  refine lv_astore (lv' := [(4, .ref ((xb + 10) + (20 + 2 * f))), (0, .ref xb), (1, .int (nI f)), (2, .int (nI c0)), (3, .int (nI 1))]) hx hb dX10_count_5 hl (by decide) rfl (fun ls hl => ?_)
  refine lv_aload_n hx hb dX10_count_7 rfl (lv_at hl 1 rfl) ?_
  refine lv_iload_n hx hb dX10_count_8 rfl (lv_at hl 3 rfl) ?_
  refine cl_X10_116 (As := [.int (nI c0)]) (rest := []) hB (c_X10_existingCloth l g H0 xb (zOf q) P c0 hCi.1 hS1 (by first | assumption | omega)) hCi.1 rfl hl.1 (Nat.le_of_ble_eq_true rfl) dX10_count_9 ⟨Nat.le_of_ble_eq_true rfl, Nat.le_of_ble_eq_true rfl⟩ ⟨Nat.le_of_ble_eq_true rfl, Nat.le_of_ble_eq_true rfl⟩ hS (by have hz9 := hS.1; rintro q (h | h) <;> first | exact Or.inr (by omega) | exact h.elim | exact Or.inl h | (simp only [ftA] at h ⊢; omega)) (fun v H1 locs hpo hfr hS => ?_)
  obtain ⟨rfl, rfl⟩ := hpo
  refine W.widen (k := 0) (n := 0) (Nat.le_of_ble_eq_true rfl) (Nat.le_of_ble_eq_true rfl) ?_
  refine lv_pop hx hb dX10_count_12 rfl ?_
  refine lv_aload hx hb dX10_count_13 (lv_at hl 0 rfl) ?_
  refine lv_iload_n hx hb dX10_count_15 rfl (lv_at hl 3 rfl) ?_
  refine lv_iconst (v := nI 0) hx hb dX10_count_16 (by decide) ?_
  refine lv_iload_n hx hb dX10_count_17 rfl (lv_at hl 4 rfl) ?_
  refine mn_if_eq (tgt := 29) hB dX10_count_18 (by decide) (by omega) (fun h => by exfalso; omega) (fun h_18 => ?_)
  refine lv_aload hx hb dX10_count_21 (lv_at hl 0 rfl) ?_
  refine gf_X10_141 hB (hS1.of (k := f) (by omega)) rfl dX10_count_23 ?_
  refine mh_top (y := .int (nI (swF q f))) (by rw [zOf_fS hf, (hW.fr hf).s]) ?_
  refine lv_goto (tgt := 34) hx hb dX10_count_26 (by decide) ?_
  refine cl_X10_165 (As := [.int (nI c0), .int (nI 0), .int (nI (swF q f))]) (rest := []) hB (c_X1_patchesOf l g H0 (xb + 10) (zOf q) P D q f c0 0 (swF q f) hS1 hPT (by first | assumption | omega) (by first | assumption | omega) (Nat.zero_le _) (WF.sw (hW.fr hf))) (hS1.of (k := f) (by omega)) rfl hl.1 (Nat.le_of_ble_eq_true rfl) dX10_count_34 ⟨Nat.le_of_ble_eq_true rfl, Nat.le_of_ble_eq_true rfl⟩ ⟨Nat.le_of_ble_eq_true rfl, Nat.le_of_ble_eq_true rfl⟩ hS (by have hz9 := hS.1; rintro q (h | h) <;> first | exact Or.inr (by omega) | exact h.elim | exact Or.inl h | (simp only [ftA] at h ⊢; omega)) (fun v H1 locs hpo hfr hS => ?_)
  obtain ⟨rfl, rfl⟩ := hpo
  refine W.widen (k := 0) (n := 0) (Nat.le_of_ble_eq_true rfl) (Nat.le_of_ble_eq_true rfl) ?_
  refine mh_iret hB ⟨Nat.le_of_ble_eq_true rfl, Nat.le_of_ble_eq_true rfl⟩ hS dX10_count_37 ⟨?_, rfl⟩
  · rfl

def rm_f_X10_same_0 : Room := { frames := 4, cells := 0, slots := 0, locals := 96 }
set_option maxRecDepth 100000 in
set_option maxHeartbeats 400000 in
theorem f_X10_same_0 (l : Launch) (g : GG) (H0 : Heap) (xb : Nat) (lim : Nat) (q : Nat → Int32) (n : Nat) (rm : Nat → Int32) (sl : Nat → Int32) (sv : Nat → Int32) (tx : Nat → Int32) (ln : Nat) (f : Nat) (hC : CLS g xb lim q n rm sl sv tx ln H0) (hf : f < 3) (hs0 : 0 < szF q f) : Ct l yX10_same cX10_same 5 (some .boolean) rm_f_X10_same_0 g [.ref xb, .int (nI f), .int (nI 0)] H0 (ftA (fun _ => False) H0.size) (fun v H1 => v = some (.int (bI (samB q f 0))) ∧ H0 = H1) := by
  refine Ct.of (by decide) (fun _ h => Or.inr h) (Nat.le_of_ble_eq_true rfl) ?_
  intro p e s m below meth c ls hB hin hS hH hl
  have hx := hB.x
  have hb := hB.b
  have hl : lv_has ls 5 [(0, .ref xb), (1, .int (nI f)), (2, .int (nI 0))] := hl
  obtain ⟨D, P, T, Zr, Pr, zt, Pt, nx, hCi⟩ := hC
  have hS1 := hCi.2.2.1
  have hPT := hCi.2.2.2.1
  have hD : ∀ q9, xb + 10 ≤ q9 → q9 < xb + 10 + 26 → D q9 := fun q9 h1 h2 => hCi.2.2.2.2.2.2.2.2.2.2.2.2.1 q9 (by omega) (Nat.lt_of_lt_of_le (show q9 < xb + 68 by omega) hCi.2.2.2.2.2.2.2.2.2.2.2.2.2.2.2.2.1)
  have hW : WF q := hCi.2.2.2.2.2.2.2.2.2.2.2.2.2.2.1
  have hZ : WZ q := hCi.2.2.2.2.2.2.2.2.2.2.2.2.2.2.2.1
  have hnm5 := hW.2.2.1
  have hz0 : (zOf q) 0 = nI (nmQ q) := by rw [zOf_lo (by omega), hW.1]
  rcases hPf : P f with _ | p9
  · skip
    have hfz := hPT.none0 hf hPf
    exfalso
    omega
  · skip
    have hfz := hPT.pos hf hPf
    obtain ⟨b9, hd1, hd2, hpb⟩ := hPT.some0 hf hPf
    have hw0 := hpb.2.2.1
    have hw16 := hpb.2.2.2.1
    have hh0 := hpb.2.2.2.2.1
    have hh16 := hpb.2.2.2.2.2.1
    have hwh := hpb.2.2.2.2.2.2.1
    have hcol := hpb.2.2.2.2.2.2.2
    have hfzz : szF q f = wdF q f * htF q f := rfl
    refine lv_aload_n hx hb dX10_same_0 rfl (lv_at hl 0 rfl) ?_
    refine lv_iload_n hx hb dX10_same_1 rfl (lv_at hl 1 rfl) ?_
    refine cl_X10_123 (As := [.int (nI f)]) (rest := []) hB (c_X10_existingFrame l g H0 xb (zOf q) P f hCi.1 hS1 (by first | assumption | omega)) hCi.1 rfl hl.1 (Nat.le_of_ble_eq_true rfl) dX10_same_2 ⟨Nat.le_of_ble_eq_true rfl, Nat.le_of_ble_eq_true rfl⟩ ⟨Nat.le_of_ble_eq_true rfl, Nat.le_of_ble_eq_true rfl⟩ hS (by have hz9 := hS.1; rintro q (h | h) <;> first | exact Or.inr (by omega) | exact h.elim | exact Or.inl h | (simp only [ftA] at h ⊢; omega)) (fun v H1 locs hpo hfr hS => ?_)
    obtain ⟨rfl, rfl⟩ := hpo
    refine W.widen (k := 0) (n := 0) (Nat.le_of_ble_eq_true rfl) (Nat.le_of_ble_eq_true rfl) ?_
    refine lv_astore_n (lv' := [(3, .ref ((xb + 10) + (20 + 2 * f))), (0, .ref xb), (1, .int (nI f)), (2, .int (nI 0))]) hx hb dX10_same_5 rfl hl (by decide) rfl (fun ls hl => ?_)
    refine lv_iload_n hx hb dX10_same_6 rfl (lv_at hl 3 rfl) ?_
    refine lv_iconst (v := nI 0) hx hb dX10_same_7 (by decide) ?_
    refine lv_iconst (v := nI 2) hx hb dX10_same_8 (by decide) ?_
    refine cl_X10_44 (As := [.int (nI 0), .int (nI 0), .int (nI 2)]) (rest := []) hB (c_X10_requireRange l g H0 0 0 2 (by first | assumption | omega) (by first | assumption | omega) (by first | assumption | omega)) rfl hl.1 (Nat.le_of_ble_eq_true rfl) dX10_same_9 ⟨Nat.le_of_ble_eq_true rfl, Nat.le_of_ble_eq_true rfl⟩ ⟨Nat.le_of_ble_eq_true rfl, Nat.le_of_ble_eq_true rfl⟩ hS (by have hz9 := hS.1; rintro q (h | h) <;> first | exact Or.inr (by omega) | exact h.elim | exact Or.inl h | (simp only [ftA] at h ⊢; omega)) (fun v H1 locs hpo hfr hS => ?_)
    obtain ⟨rfl, rfl⟩ := hpo
    refine W.widen (k := 0) (n := 0) (Nat.le_of_ble_eq_true rfl) (Nat.le_of_ble_eq_true rfl) ?_
    refine lv_aload_n hx hb dX10_same_12 rfl (lv_at hl 0 rfl) ?_
    refine gf_X10_127 hB (hS1.ofS (k := f) (by omega) hPf) rfl dX10_same_13 ?_
    refine lv_astore (lv' := [(4, .ref p9), (3, .ref ((xb + 10) + (20 + 2 * f))), (0, .ref xb), (1, .int (nI f)), (2, .int (nI 0))]) hx hb dX10_same_16 hl (by decide) rfl (fun ls hl => ?_)
    refine lv_aload hx hb dX10_same_18 (lv_at hl 0 rfl) ?_
    refine lv_ifnonnull (tgt := 25) hx hb dX10_same_20 (by decide) ?_
    refine lv_iload_n hx hb dX10_same_25 rfl (lv_at hl 4 rfl) ?_
    refine lv_lookup (tgt := 52) hx hb dX10_same_26 (by decide) (rfl) (by decide) ?_
    refine lv_aload hx hb dX10_same_52 (lv_at hl 0 rfl) ?_
    refine lv_iconst (v := nI 4) hx hb dX10_same_54 (by decide) ?_
    refine lv_aload hx hb dX10_same_55 (lv_at hl 0 rfl) ?_
    refine cl_X10_169 (As := [.int (nI 4), .ref p9]) (rest := []) hB (c_X4_becomesBy l g H0 p9 b9 (wdF q f) (htF q f) (clF q f) 4 p9 b9 (wdF q f) (htF q f) (clF q f) hpb hpb (by first | assumption | omega)) hpb.1 rfl hl.1 (Nat.le_of_ble_eq_true rfl) dX10_same_57 ⟨Nat.le_of_ble_eq_true rfl, Nat.le_of_ble_eq_true rfl⟩ ⟨Nat.le_of_ble_eq_true rfl, Nat.le_of_ble_eq_true rfl⟩ hS (by have hz9 := hS.1; rintro q (h | h) <;> first | exact Or.inr (by omega) | exact h.elim | exact Or.inl h | (simp only [ftA] at h ⊢; omega)) (fun v H1 locs hpo hfr hS => ?_)
    obtain ⟨rfl, rfl⟩ := hpo
    refine W.widen (k := 0) (n := 0) (Nat.le_of_ble_eq_true rfl) (Nat.le_of_ble_eq_true rfl) ?_
    refine mh_zret hB ⟨Nat.le_of_ble_eq_true rfl, Nat.le_of_ble_eq_true rfl⟩ hS dX10_same_60 (by first | exact nar_bI _ | rfl | decide | (split <;> rfl)) ⟨?_, rfl⟩
    · rfl

def rm_f_X10_same_1 : Room := { frames := 4, cells := 0, slots := 0, locals := 96 }
set_option maxRecDepth 100000 in
set_option maxHeartbeats 400000 in
theorem f_X10_same_1 (l : Launch) (g : GG) (H0 : Heap) (xb : Nat) (lim : Nat) (q : Nat → Int32) (n : Nat) (rm : Nat → Int32) (sl : Nat → Int32) (sv : Nat → Int32) (tx : Nat → Int32) (ln : Nat) (f : Nat) (hC : CLS g xb lim q n rm sl sv tx ln H0) (hf : f < 3) (hs0 : 0 < szF q f) : Ct l yX10_same cX10_same 5 (some .boolean) rm_f_X10_same_1 g [.ref xb, .int (nI f), .int (nI 1)] H0 (ftA (fun _ => False) H0.size) (fun v H1 => v = some (.int (bI (samB q f 1))) ∧ H0 = H1) := by
  refine Ct.of (by decide) (fun _ h => Or.inr h) (Nat.le_of_ble_eq_true rfl) ?_
  intro p e s m below meth c ls hB hin hS hH hl
  have hx := hB.x
  have hb := hB.b
  have hl : lv_has ls 5 [(0, .ref xb), (1, .int (nI f)), (2, .int (nI 1))] := hl
  obtain ⟨D, P, T, Zr, Pr, zt, Pt, nx, hCi⟩ := hC
  have hS1 := hCi.2.2.1
  have hPT := hCi.2.2.2.1
  have hD : ∀ q9, xb + 10 ≤ q9 → q9 < xb + 10 + 26 → D q9 := fun q9 h1 h2 => hCi.2.2.2.2.2.2.2.2.2.2.2.2.1 q9 (by omega) (Nat.lt_of_lt_of_le (show q9 < xb + 68 by omega) hCi.2.2.2.2.2.2.2.2.2.2.2.2.2.2.2.2.1)
  have hW : WF q := hCi.2.2.2.2.2.2.2.2.2.2.2.2.2.2.1
  have hZ : WZ q := hCi.2.2.2.2.2.2.2.2.2.2.2.2.2.2.2.1
  have hnm5 := hW.2.2.1
  have hz0 : (zOf q) 0 = nI (nmQ q) := by rw [zOf_lo (by omega), hW.1]
  rcases hPf : P f with _ | p9
  · skip
    have hfz := hPT.none0 hf hPf
    exfalso
    omega
  · skip
    have hfz := hPT.pos hf hPf
    obtain ⟨b9, hd1, hd2, hpb⟩ := hPT.some0 hf hPf
    have hw0 := hpb.2.2.1
    have hw16 := hpb.2.2.2.1
    have hh0 := hpb.2.2.2.2.1
    have hh16 := hpb.2.2.2.2.2.1
    have hwh := hpb.2.2.2.2.2.2.1
    have hcol := hpb.2.2.2.2.2.2.2
    have hfzz : szF q f = wdF q f * htF q f := rfl
    refine lv_aload_n hx hb dX10_same_0 rfl (lv_at hl 0 rfl) ?_
    refine lv_iload_n hx hb dX10_same_1 rfl (lv_at hl 1 rfl) ?_
    refine cl_X10_123 (As := [.int (nI f)]) (rest := []) hB (c_X10_existingFrame l g H0 xb (zOf q) P f hCi.1 hS1 (by first | assumption | omega)) hCi.1 rfl hl.1 (Nat.le_of_ble_eq_true rfl) dX10_same_2 ⟨Nat.le_of_ble_eq_true rfl, Nat.le_of_ble_eq_true rfl⟩ ⟨Nat.le_of_ble_eq_true rfl, Nat.le_of_ble_eq_true rfl⟩ hS (by have hz9 := hS.1; rintro q (h | h) <;> first | exact Or.inr (by omega) | exact h.elim | exact Or.inl h | (simp only [ftA] at h ⊢; omega)) (fun v H1 locs hpo hfr hS => ?_)
    obtain ⟨rfl, rfl⟩ := hpo
    refine W.widen (k := 0) (n := 0) (Nat.le_of_ble_eq_true rfl) (Nat.le_of_ble_eq_true rfl) ?_
    refine lv_astore_n (lv' := [(3, .ref ((xb + 10) + (20 + 2 * f))), (0, .ref xb), (1, .int (nI f)), (2, .int (nI 1))]) hx hb dX10_same_5 rfl hl (by decide) rfl (fun ls hl => ?_)
    refine lv_iload_n hx hb dX10_same_6 rfl (lv_at hl 3 rfl) ?_
    refine lv_iconst (v := nI 0) hx hb dX10_same_7 (by decide) ?_
    refine lv_iconst (v := nI 2) hx hb dX10_same_8 (by decide) ?_
    refine cl_X10_44 (As := [.int (nI 1), .int (nI 0), .int (nI 2)]) (rest := []) hB (c_X10_requireRange l g H0 1 0 2 (by first | assumption | omega) (by first | assumption | omega) (by first | assumption | omega)) rfl hl.1 (Nat.le_of_ble_eq_true rfl) dX10_same_9 ⟨Nat.le_of_ble_eq_true rfl, Nat.le_of_ble_eq_true rfl⟩ ⟨Nat.le_of_ble_eq_true rfl, Nat.le_of_ble_eq_true rfl⟩ hS (by have hz9 := hS.1; rintro q (h | h) <;> first | exact Or.inr (by omega) | exact h.elim | exact Or.inl h | (simp only [ftA] at h ⊢; omega)) (fun v H1 locs hpo hfr hS => ?_)
    obtain ⟨rfl, rfl⟩ := hpo
    refine W.widen (k := 0) (n := 0) (Nat.le_of_ble_eq_true rfl) (Nat.le_of_ble_eq_true rfl) ?_
    refine lv_aload_n hx hb dX10_same_12 rfl (lv_at hl 0 rfl) ?_
    refine gf_X10_127 hB (hS1.ofS (k := f) (by omega) hPf) rfl dX10_same_13 ?_
    refine lv_astore (lv' := [(4, .ref p9), (3, .ref ((xb + 10) + (20 + 2 * f))), (0, .ref xb), (1, .int (nI f)), (2, .int (nI 1))]) hx hb dX10_same_16 hl (by decide) rfl (fun ls hl => ?_)
    refine lv_aload hx hb dX10_same_18 (lv_at hl 0 rfl) ?_
    refine lv_ifnonnull (tgt := 25) hx hb dX10_same_20 (by decide) ?_
    refine lv_iload_n hx hb dX10_same_25 rfl (lv_at hl 4 rfl) ?_
    refine lv_lookup (tgt := 61) hx hb dX10_same_26 (by decide) (rfl) (by decide) ?_
    refine lv_aload hx hb dX10_same_61 (lv_at hl 0 rfl) ?_
    refine lv_iconst (v := nI 2) hx hb dX10_same_63 (by decide) ?_
    refine lv_aload hx hb dX10_same_64 (lv_at hl 0 rfl) ?_
    refine cl_X10_169 (As := [.int (nI 2), .ref p9]) (rest := []) hB (c_X4_becomesBy l g H0 p9 b9 (wdF q f) (htF q f) (clF q f) 2 p9 b9 (wdF q f) (htF q f) (clF q f) hpb hpb (by first | assumption | omega)) hpb.1 rfl hl.1 (Nat.le_of_ble_eq_true rfl) dX10_same_66 ⟨Nat.le_of_ble_eq_true rfl, Nat.le_of_ble_eq_true rfl⟩ ⟨Nat.le_of_ble_eq_true rfl, Nat.le_of_ble_eq_true rfl⟩ hS (by have hz9 := hS.1; rintro q (h | h) <;> first | exact Or.inr (by omega) | exact h.elim | exact Or.inl h | (simp only [ftA] at h ⊢; omega)) (fun v H1 locs hpo hfr hS => ?_)
    obtain ⟨rfl, rfl⟩ := hpo
    refine W.widen (k := 0) (n := 0) (Nat.le_of_ble_eq_true rfl) (Nat.le_of_ble_eq_true rfl) ?_
    refine mh_zret hB ⟨Nat.le_of_ble_eq_true rfl, Nat.le_of_ble_eq_true rfl⟩ hS dX10_same_69 (by first | exact nar_bI _ | rfl | decide | (split <;> rfl)) ⟨?_, rfl⟩
    · rfl

def rm_f_X10_same_2 : Room := { frames := 4, cells := 0, slots := 0, locals := 96 }
set_option maxRecDepth 100000 in
set_option maxHeartbeats 400000 in
theorem f_X10_same_2 (l : Launch) (g : GG) (H0 : Heap) (xb : Nat) (lim : Nat) (q : Nat → Int32) (n : Nat) (rm : Nat → Int32) (sl : Nat → Int32) (sv : Nat → Int32) (tx : Nat → Int32) (ln : Nat) (f : Nat) (hC : CLS g xb lim q n rm sl sv tx ln H0) (hf : f < 3) (hs0 : 0 < szF q f) : Ct l yX10_same cX10_same 5 (some .boolean) rm_f_X10_same_2 g [.ref xb, .int (nI f), .int (nI 2)] H0 (ftA (fun _ => False) H0.size) (fun v H1 => v = some (.int (bI (samB q f 2))) ∧ H0 = H1) := by
  refine Ct.of (by decide) (fun _ h => Or.inr h) (Nat.le_of_ble_eq_true rfl) ?_
  intro p e s m below meth c ls hB hin hS hH hl
  have hx := hB.x
  have hb := hB.b
  have hl : lv_has ls 5 [(0, .ref xb), (1, .int (nI f)), (2, .int (nI 2))] := hl
  obtain ⟨D, P, T, Zr, Pr, zt, Pt, nx, hCi⟩ := hC
  have hS1 := hCi.2.2.1
  have hPT := hCi.2.2.2.1
  have hD : ∀ q9, xb + 10 ≤ q9 → q9 < xb + 10 + 26 → D q9 := fun q9 h1 h2 => hCi.2.2.2.2.2.2.2.2.2.2.2.2.1 q9 (by omega) (Nat.lt_of_lt_of_le (show q9 < xb + 68 by omega) hCi.2.2.2.2.2.2.2.2.2.2.2.2.2.2.2.2.1)
  have hW : WF q := hCi.2.2.2.2.2.2.2.2.2.2.2.2.2.2.1
  have hZ : WZ q := hCi.2.2.2.2.2.2.2.2.2.2.2.2.2.2.2.1
  have hnm5 := hW.2.2.1
  have hz0 : (zOf q) 0 = nI (nmQ q) := by rw [zOf_lo (by omega), hW.1]
  rcases hPf : P f with _ | p9
  · skip
    have hfz := hPT.none0 hf hPf
    exfalso
    omega
  · skip
    have hfz := hPT.pos hf hPf
    obtain ⟨b9, hd1, hd2, hpb⟩ := hPT.some0 hf hPf
    have hw0 := hpb.2.2.1
    have hw16 := hpb.2.2.2.1
    have hh0 := hpb.2.2.2.2.1
    have hh16 := hpb.2.2.2.2.2.1
    have hwh := hpb.2.2.2.2.2.2.1
    have hcol := hpb.2.2.2.2.2.2.2
    have hfzz : szF q f = wdF q f * htF q f := rfl
    refine lv_aload_n hx hb dX10_same_0 rfl (lv_at hl 0 rfl) ?_
    refine lv_iload_n hx hb dX10_same_1 rfl (lv_at hl 1 rfl) ?_
    refine cl_X10_123 (As := [.int (nI f)]) (rest := []) hB (c_X10_existingFrame l g H0 xb (zOf q) P f hCi.1 hS1 (by first | assumption | omega)) hCi.1 rfl hl.1 (Nat.le_of_ble_eq_true rfl) dX10_same_2 ⟨Nat.le_of_ble_eq_true rfl, Nat.le_of_ble_eq_true rfl⟩ ⟨Nat.le_of_ble_eq_true rfl, Nat.le_of_ble_eq_true rfl⟩ hS (by have hz9 := hS.1; rintro q (h | h) <;> first | exact Or.inr (by omega) | exact h.elim | exact Or.inl h | (simp only [ftA] at h ⊢; omega)) (fun v H1 locs hpo hfr hS => ?_)
    obtain ⟨rfl, rfl⟩ := hpo
    refine W.widen (k := 0) (n := 0) (Nat.le_of_ble_eq_true rfl) (Nat.le_of_ble_eq_true rfl) ?_
    refine lv_astore_n (lv' := [(3, .ref ((xb + 10) + (20 + 2 * f))), (0, .ref xb), (1, .int (nI f)), (2, .int (nI 2))]) hx hb dX10_same_5 rfl hl (by decide) rfl (fun ls hl => ?_)
    refine lv_iload_n hx hb dX10_same_6 rfl (lv_at hl 3 rfl) ?_
    refine lv_iconst (v := nI 0) hx hb dX10_same_7 (by decide) ?_
    refine lv_iconst (v := nI 2) hx hb dX10_same_8 (by decide) ?_
    refine cl_X10_44 (As := [.int (nI 2), .int (nI 0), .int (nI 2)]) (rest := []) hB (c_X10_requireRange l g H0 2 0 2 (by first | assumption | omega) (by first | assumption | omega) (by first | assumption | omega)) rfl hl.1 (Nat.le_of_ble_eq_true rfl) dX10_same_9 ⟨Nat.le_of_ble_eq_true rfl, Nat.le_of_ble_eq_true rfl⟩ ⟨Nat.le_of_ble_eq_true rfl, Nat.le_of_ble_eq_true rfl⟩ hS (by have hz9 := hS.1; rintro q (h | h) <;> first | exact Or.inr (by omega) | exact h.elim | exact Or.inl h | (simp only [ftA] at h ⊢; omega)) (fun v H1 locs hpo hfr hS => ?_)
    obtain ⟨rfl, rfl⟩ := hpo
    refine W.widen (k := 0) (n := 0) (Nat.le_of_ble_eq_true rfl) (Nat.le_of_ble_eq_true rfl) ?_
    refine lv_aload_n hx hb dX10_same_12 rfl (lv_at hl 0 rfl) ?_
    refine gf_X10_127 hB (hS1.ofS (k := f) (by omega) hPf) rfl dX10_same_13 ?_
    refine lv_astore (lv' := [(4, .ref p9), (3, .ref ((xb + 10) + (20 + 2 * f))), (0, .ref xb), (1, .int (nI f)), (2, .int (nI 2))]) hx hb dX10_same_16 hl (by decide) rfl (fun ls hl => ?_)
    refine lv_aload hx hb dX10_same_18 (lv_at hl 0 rfl) ?_
    refine lv_ifnonnull (tgt := 25) hx hb dX10_same_20 (by decide) ?_
    refine lv_iload_n hx hb dX10_same_25 rfl (lv_at hl 4 rfl) ?_
    refine lv_lookup (tgt := 70) hx hb dX10_same_26 (by decide) (rfl) (by decide) ?_
    refine lv_aload hx hb dX10_same_70 (lv_at hl 0 rfl) ?_
    refine lv_iconst (v := nI 1) hx hb dX10_same_72 (by decide) ?_
    refine lv_aload hx hb dX10_same_73 (lv_at hl 0 rfl) ?_
    refine cl_X10_169 (As := [.int (nI 1), .ref p9]) (rest := []) hB (c_X4_becomesBy l g H0 p9 b9 (wdF q f) (htF q f) (clF q f) 1 p9 b9 (wdF q f) (htF q f) (clF q f) hpb hpb (by first | assumption | omega)) hpb.1 rfl hl.1 (Nat.le_of_ble_eq_true rfl) dX10_same_75 ⟨Nat.le_of_ble_eq_true rfl, Nat.le_of_ble_eq_true rfl⟩ ⟨Nat.le_of_ble_eq_true rfl, Nat.le_of_ble_eq_true rfl⟩ hS (by have hz9 := hS.1; rintro q (h | h) <;> first | exact Or.inr (by omega) | exact h.elim | exact Or.inl h | (simp only [ftA] at h ⊢; omega)) (fun v H1 locs hpo hfr hS => ?_)
    obtain ⟨rfl, rfl⟩ := hpo
    refine W.widen (k := 0) (n := 0) (Nat.le_of_ble_eq_true rfl) (Nat.le_of_ble_eq_true rfl) ?_
    refine mh_zret hB ⟨Nat.le_of_ble_eq_true rfl, Nat.le_of_ble_eq_true rfl⟩ hS dX10_same_78 (by first | exact nar_bI _ | rfl | decide | (split <;> rfl)) ⟨?_, rfl⟩
    · rfl

def rm_f_X10_same_e : Room := { frames := 2, cells := 0, slots := 0, locals := 43 }
set_option maxRecDepth 100000 in
set_option maxHeartbeats 400000 in
theorem f_X10_same_e (l : Launch) (g : GG) (H0 : Heap) (xb : Nat) (lim : Nat) (q : Nat → Int32) (n : Nat) (rm : Nat → Int32) (sl : Nat → Int32) (sv : Nat → Int32) (tx : Nat → Int32) (ln : Nat) (f : Nat) (w : Nat) (hC : CLS g xb lim q n rm sl sv tx ln H0) (hf : f < 3) (hw : w < 3) (hs0 : szF q f = 0) : Ct l yX10_same cX10_same 5 (some .boolean) rm_f_X10_same_e g [.ref xb, .int (nI f), .int (nI w)] H0 (ftA (fun _ => False) H0.size) (fun v H1 => v = some (.int (bI true)) ∧ H0 = H1) := by
  refine Ct.of (by decide) (fun _ h => Or.inr h) (Nat.le_of_ble_eq_true rfl) ?_
  intro p e s m below meth c ls hB hin hS hH hl
  have hx := hB.x
  have hb := hB.b
  have hl : lv_has ls 5 [(0, .ref xb), (1, .int (nI f)), (2, .int (nI w))] := hl
  obtain ⟨D, P, T, Zr, Pr, zt, Pt, nx, hCi⟩ := hC
  have hS1 := hCi.2.2.1
  have hPT := hCi.2.2.2.1
  have hD : ∀ q9, xb + 10 ≤ q9 → q9 < xb + 10 + 26 → D q9 := fun q9 h1 h2 => hCi.2.2.2.2.2.2.2.2.2.2.2.2.1 q9 (by omega) (Nat.lt_of_lt_of_le (show q9 < xb + 68 by omega) hCi.2.2.2.2.2.2.2.2.2.2.2.2.2.2.2.2.1)
  have hW : WF q := hCi.2.2.2.2.2.2.2.2.2.2.2.2.2.2.1
  have hZ : WZ q := hCi.2.2.2.2.2.2.2.2.2.2.2.2.2.2.2.1
  have hnm5 := hW.2.2.1
  have hz0 : (zOf q) 0 = nI (nmQ q) := by rw [zOf_lo (by omega), hW.1]
  rcases hPf : P f with _ | p9
  · skip
    have hfz := hPT.none0 hf hPf
    refine lv_aload_n hx hb dX10_same_0 rfl (lv_at hl 0 rfl) ?_
    refine lv_iload_n hx hb dX10_same_1 rfl (lv_at hl 1 rfl) ?_
    refine cl_X10_123 (As := [.int (nI f)]) (rest := []) hB (c_X10_existingFrame l g H0 xb (zOf q) P f hCi.1 hS1 (by first | assumption | omega)) hCi.1 rfl hl.1 (Nat.le_of_ble_eq_true rfl) dX10_same_2 ⟨Nat.le_of_ble_eq_true rfl, Nat.le_of_ble_eq_true rfl⟩ ⟨Nat.le_of_ble_eq_true rfl, Nat.le_of_ble_eq_true rfl⟩ hS (by have hz9 := hS.1; rintro q (h | h) <;> first | exact Or.inr (by omega) | exact h.elim | exact Or.inl h | (simp only [ftA] at h ⊢; omega)) (fun v H1 locs hpo hfr hS => ?_)
    obtain ⟨rfl, rfl⟩ := hpo
    refine W.widen (k := 0) (n := 0) (Nat.le_of_ble_eq_true rfl) (Nat.le_of_ble_eq_true rfl) ?_
    refine lv_astore_n (lv' := [(3, .ref ((xb + 10) + (20 + 2 * f))), (0, .ref xb), (1, .int (nI f)), (2, .int (nI w))]) hx hb dX10_same_5 rfl hl (by decide) rfl (fun ls hl => ?_)
    refine lv_iload_n hx hb dX10_same_6 rfl (lv_at hl 3 rfl) ?_
    refine lv_iconst (v := nI 0) hx hb dX10_same_7 (by decide) ?_
    refine lv_iconst (v := nI 2) hx hb dX10_same_8 (by decide) ?_
    refine cl_X10_44 (As := [.int (nI w), .int (nI 0), .int (nI 2)]) (rest := []) hB (c_X10_requireRange l g H0 w 0 2 (by first | assumption | omega) (by first | assumption | omega) (by first | assumption | omega)) rfl hl.1 (Nat.le_of_ble_eq_true rfl) dX10_same_9 ⟨Nat.le_of_ble_eq_true rfl, Nat.le_of_ble_eq_true rfl⟩ ⟨Nat.le_of_ble_eq_true rfl, Nat.le_of_ble_eq_true rfl⟩ hS (by have hz9 := hS.1; rintro q (h | h) <;> first | exact Or.inr (by omega) | exact h.elim | exact Or.inl h | (simp only [ftA] at h ⊢; omega)) (fun v H1 locs hpo hfr hS => ?_)
    obtain ⟨rfl, rfl⟩ := hpo
    refine W.widen (k := 0) (n := 0) (Nat.le_of_ble_eq_true rfl) (Nat.le_of_ble_eq_true rfl) ?_
    refine lv_aload_n hx hb dX10_same_12 rfl (lv_at hl 0 rfl) ?_
    refine gf_X10_127 hB (hS1.ofN (k := f) (by omega) hPf) rfl dX10_same_13 ?_
    refine lv_astoreN (lv' := [(4, .null), (3, .ref ((xb + 10) + (20 + 2 * f))), (0, .ref xb), (1, .int (nI f)), (2, .int (nI w))]) hx hb dX10_same_16 hl (by decide) rfl (fun ls hl => ?_)
    refine lv_aloadN hx hb dX10_same_18 (lv_at hl 0 rfl) ?_
    refine lv_ifnonnullN hx hb dX10_same_20 ?_
    refine lv_iconst (v := nI 1) hx hb dX10_same_23 (by decide) ?_
    refine mh_zret hB ⟨Nat.le_of_ble_eq_true rfl, Nat.le_of_ble_eq_true rfl⟩ hS dX10_same_24 (by first | rfl | decide | (split <;> rfl)) ⟨?_, rfl⟩
    · rfl
  · skip
    have hfz := hPT.pos hf hPf
    exfalso
    omega

def rm_f_X10_wouldGet : Room := { frames := 3, cells := 0, slots := 0, locals := 69 }
set_option maxRecDepth 100000 in
set_option maxHeartbeats 400000 in
theorem f_X10_wouldGet (l : Launch) (g : GG) (H0 : Heap) (xb : Nat) (lim : Nat) (q : Nat → Int32) (n : Nat) (rm : Nat → Int32) (sl : Nat → Int32) (sv : Nat → Int32) (tx : Nat → Int32) (ln : Nat) (f : Nat) (m0 : Nat) (p0 : Nat) (hC : CLS g xb lim q n rm sl sv tx ln H0) (hf : f < 3) (hm : m0 < nmQ q) (hp : p0 < 10000) (hs0 : 0 < szF q f) (hs1 : swF q f = szF q f) : Ct l yX10_wouldGet cX10_wouldGet 5 (some .int) rm_f_X10_wouldGet g [.ref xb, .int (nI f), .int (nI m0), .int (nI p0)] H0 (ftA (fun _ => False) H0.size) (fun v H1 => v = some (.int (shrQ q f p0 m0)) ∧ H0 = H1) := by
  refine Ct.of (by decide) (fun _ h => Or.inr h) (Nat.le_of_ble_eq_true rfl) ?_
  intro p e s m below meth c ls hB hin hS hH hl
  have hx := hB.x
  have hb := hB.b
  have hl : lv_has ls 5 [(0, .ref xb), (1, .int (nI f)), (2, .int (nI m0)), (3, .int (nI p0))] := hl
  obtain ⟨D, P, T, Zr, Pr, zt, Pt, nx, hCi⟩ := hC
  have hS1 := hCi.2.2.1
  have hPT := hCi.2.2.2.1
  have hD : ∀ q9, xb + 10 ≤ q9 → q9 < xb + 10 + 26 → D q9 := fun q9 h1 h2 => hCi.2.2.2.2.2.2.2.2.2.2.2.2.1 q9 (by omega) (Nat.lt_of_lt_of_le (show q9 < xb + 68 by omega) hCi.2.2.2.2.2.2.2.2.2.2.2.2.2.2.2.2.1)
  have hW : WF q := hCi.2.2.2.2.2.2.2.2.2.2.2.2.2.2.1
  have hZ : WZ q := hCi.2.2.2.2.2.2.2.2.2.2.2.2.2.2.2.1
  have hnm5 := hW.2.2.1
  have hz0 : (zOf q) 0 = nI (nmQ q) := by rw [zOf_lo (by omega), hW.1]
  refine lv_aload_n hx hb dX10_wouldGet_0 rfl (lv_at hl 0 rfl) ?_
  refine lv_iload_n hx hb dX10_wouldGet_1 rfl (lv_at hl 1 rfl) ?_
  refine cl_X10_123 (As := [.int (nI f)]) (rest := []) hB (c_X10_existingFrame l g H0 xb (zOf q) P f hCi.1 hS1 (by first | assumption | omega)) hCi.1 rfl hl.1 (Nat.le_of_ble_eq_true rfl) dX10_wouldGet_2 ⟨Nat.le_of_ble_eq_true rfl, Nat.le_of_ble_eq_true rfl⟩ ⟨Nat.le_of_ble_eq_true rfl, Nat.le_of_ble_eq_true rfl⟩ hS (by have hz9 := hS.1; rintro q (h | h) <;> first | exact Or.inr (by omega) | exact h.elim | exact Or.inl h | (simp only [ftA] at h ⊢; omega)) (fun v H1 locs hpo hfr hS => ?_)
  obtain ⟨rfl, rfl⟩ := hpo
  refine W.widen (k := 0) (n := 0) (Nat.le_of_ble_eq_true rfl) (Nat.le_of_ble_eq_true rfl) ?_
  refine lv_astore (lv' := [(4, .ref ((xb + 10) + (20 + 2 * f))), (0, .ref xb), (1, .int (nI f)), (2, .int (nI m0)), (3, .int (nI p0))]) hx hb dX10_wouldGet_5 hl (by decide) rfl (fun ls hl => ?_)
  refine lv_aload_n hx hb dX10_wouldGet_7 rfl (lv_at hl 1 rfl) ?_
  refine lv_iload_n hx hb dX10_wouldGet_8 rfl (lv_at hl 3 rfl) ?_
  refine cl_X10_91 (As := [.int (nI m0)]) (rest := []) hB (c_X10_existingMember l g H0 xb (zOf q) P m0 (nmQ q) hCi.1 hS1 (by first | assumption | omega) (hz0) (hnm5)) hCi.1 rfl hl.1 (Nat.le_of_ble_eq_true rfl) dX10_wouldGet_9 ⟨Nat.le_of_ble_eq_true rfl, Nat.le_of_ble_eq_true rfl⟩ ⟨Nat.le_of_ble_eq_true rfl, Nat.le_of_ble_eq_true rfl⟩ hS (by have hz9 := hS.1; rintro q (h | h) <;> first | exact Or.inr (by omega) | exact h.elim | exact Or.inl h | (simp only [ftA] at h ⊢; omega)) (fun v H1 locs hpo hfr hS => ?_)
  obtain ⟨rfl, rfl⟩ := hpo
  refine W.widen (k := 0) (n := 0) (Nat.le_of_ble_eq_true rfl) (Nat.le_of_ble_eq_true rfl) ?_
  refine lv_pop hx hb dX10_wouldGet_12 rfl ?_
  refine lv_iload_n hx hb dX10_wouldGet_13 rfl (lv_at hl 4 rfl) ?_
  refine lv_iconst (v := nI 0) hx hb dX10_wouldGet_14 (by decide) ?_
  refine lv_sipush (v := nI 9999) hx hb dX10_wouldGet_15 (by decide +kernel) ?_
  refine cl_X10_44 (As := [.int (nI p0), .int (nI 0), .int (nI 9999)]) (rest := []) hB (c_X10_requireRange l g H0 p0 0 9999 (by first | assumption | omega) (by first | assumption | omega) (by first | assumption | omega)) rfl hl.1 (Nat.le_of_ble_eq_true rfl) dX10_wouldGet_18 ⟨Nat.le_of_ble_eq_true rfl, Nat.le_of_ble_eq_true rfl⟩ ⟨Nat.le_of_ble_eq_true rfl, Nat.le_of_ble_eq_true rfl⟩ hS (by have hz9 := hS.1; rintro q (h | h) <;> first | exact Or.inr (by omega) | exact h.elim | exact Or.inl h | (simp only [ftA] at h ⊢; omega)) (fun v H1 locs hpo hfr hS => ?_)
  obtain ⟨rfl, rfl⟩ := hpo
  refine W.widen (k := 0) (n := 0) (Nat.le_of_ble_eq_true rfl) (Nat.le_of_ble_eq_true rfl) ?_
  refine lv_aload hx hb dX10_wouldGet_21 (lv_at hl 0 rfl) ?_
  refine cl_X10_216 (As := []) (rest := []) hB (c_X1_isFinished l g H0 (xb + 10) (zOf q) P D q f (swF q f) hS1 hPT (by first | assumption | omega) (by rw [zOf_fS hf, (hW.fr hf).s]) (WF.sw (hW.fr hf)) (WF.sz (hW.fr hf))) (hS1.of (k := f) (by omega)) rfl hl.1 (Nat.le_of_ble_eq_true rfl) dX10_wouldGet_23 ⟨Nat.le_of_ble_eq_true rfl, Nat.le_of_ble_eq_true rfl⟩ ⟨Nat.le_of_ble_eq_true rfl, Nat.le_of_ble_eq_true rfl⟩ hS (by have hz9 := hS.1; rintro q (h | h) <;> first | exact Or.inr (by omega) | exact h.elim | exact Or.inl h | (simp only [ftA] at h ⊢; omega)) (fun v H1 locs hpo hfr hS => ?_)
  obtain ⟨rfl, rfl⟩ := hpo
  refine W.widen (k := 0) (n := 0) (Nat.le_of_ble_eq_true rfl) (Nat.le_of_ble_eq_true rfl) ?_
  refine mh_top (y := .int (nI 1)) (by rw [decide_eq_true (by omega)]; rfl) ?_
  refine mn_if_eq (tgt := 39) hB dX10_wouldGet_26 (by decide) (by omega) (fun h => by exfalso; omega) (fun h_26 => ?_)
  refine lv_aload hx hb dX10_wouldGet_29 (lv_at hl 0 rfl) ?_
  refine lv_iload_n hx hb dX10_wouldGet_31 rfl (lv_at hl 3 rfl) ?_
  refine lv_iload_n hx hb dX10_wouldGet_32 rfl (lv_at hl 4 rfl) ?_
  refine cl_X10_244 (As := [.int (nI m0), .int (nI p0)]) (rest := []) hB (c_X1_shareOf l g H0 (xb + 10) (zOf q) P D q f m0 p0 hS1 hPT (by first | assumption | omega) (hW.fr hf) (hs0) (by omega) (hp) (fun j hj => by rw [zOf_fB hf hj, (hW.fr hf).by_ hj])) (hS1.of (k := f) (by omega)) rfl hl.1 (Nat.le_of_ble_eq_true rfl) dX10_wouldGet_33 ⟨Nat.le_of_ble_eq_true rfl, Nat.le_of_ble_eq_true rfl⟩ ⟨Nat.le_of_ble_eq_true rfl, Nat.le_of_ble_eq_true rfl⟩ hS (by have hz9 := hS.1; rintro q (h | h) <;> first | exact Or.inr (by omega) | exact h.elim | exact Or.inl h | (simp only [ftA] at h ⊢; omega)) (fun v H1 locs hpo hfr hS => ?_)
  obtain ⟨rfl, rfl⟩ := hpo
  refine W.widen (k := 0) (n := 0) (Nat.le_of_ble_eq_true rfl) (Nat.le_of_ble_eq_true rfl) ?_
  refine lv_goto (tgt := 41) hx hb dX10_wouldGet_36 (by decide) ?_
  refine mh_iret hB ⟨Nat.le_of_ble_eq_true rfl, Nat.le_of_ble_eq_true rfl⟩ hS dX10_wouldGet_41 ⟨?_, rfl⟩
  · rfl

def rm_f_X10_wouldGet_no : Room := { frames := 3, cells := 0, slots := 0, locals := 60 }
set_option maxRecDepth 100000 in
set_option maxHeartbeats 400000 in
theorem f_X10_wouldGet_no (l : Launch) (g : GG) (H0 : Heap) (xb : Nat) (lim : Nat) (q : Nat → Int32) (n : Nat) (rm : Nat → Int32) (sl : Nat → Int32) (sv : Nat → Int32) (tx : Nat → Int32) (ln : Nat) (f : Nat) (m0 : Nat) (p0 : Nat) (hC : CLS g xb lim q n rm sl sv tx ln H0) (hf : f < 3) (hm : m0 < nmQ q) (hp : p0 < 10000) (hs0 : ¬ (0 < szF q f ∧ swF q f = szF q f)) : Ct l yX10_wouldGet cX10_wouldGet 5 (some .int) rm_f_X10_wouldGet_no g [.ref xb, .int (nI f), .int (nI m0), .int (nI p0)] H0 (ftA (fun _ => False) H0.size) (fun v H1 => v = some (.int (-9)) ∧ H0 = H1) := by
  refine Ct.of (by decide) (fun _ h => Or.inr h) (Nat.le_of_ble_eq_true rfl) ?_
  intro p e s m below meth c ls hB hin hS hH hl
  have hx := hB.x
  have hb := hB.b
  have hl : lv_has ls 5 [(0, .ref xb), (1, .int (nI f)), (2, .int (nI m0)), (3, .int (nI p0))] := hl
  obtain ⟨D, P, T, Zr, Pr, zt, Pt, nx, hCi⟩ := hC
  have hS1 := hCi.2.2.1
  have hPT := hCi.2.2.2.1
  have hD : ∀ q9, xb + 10 ≤ q9 → q9 < xb + 10 + 26 → D q9 := fun q9 h1 h2 => hCi.2.2.2.2.2.2.2.2.2.2.2.2.1 q9 (by omega) (Nat.lt_of_lt_of_le (show q9 < xb + 68 by omega) hCi.2.2.2.2.2.2.2.2.2.2.2.2.2.2.2.2.1)
  have hW : WF q := hCi.2.2.2.2.2.2.2.2.2.2.2.2.2.2.1
  have hZ : WZ q := hCi.2.2.2.2.2.2.2.2.2.2.2.2.2.2.2.1
  have hnm5 := hW.2.2.1
  have hz0 : (zOf q) 0 = nI (nmQ q) := by rw [zOf_lo (by omega), hW.1]
  refine lv_aload_n hx hb dX10_wouldGet_0 rfl (lv_at hl 0 rfl) ?_
  refine lv_iload_n hx hb dX10_wouldGet_1 rfl (lv_at hl 1 rfl) ?_
  refine cl_X10_123 (As := [.int (nI f)]) (rest := []) hB (c_X10_existingFrame l g H0 xb (zOf q) P f hCi.1 hS1 (by first | assumption | omega)) hCi.1 rfl hl.1 (Nat.le_of_ble_eq_true rfl) dX10_wouldGet_2 ⟨Nat.le_of_ble_eq_true rfl, Nat.le_of_ble_eq_true rfl⟩ ⟨Nat.le_of_ble_eq_true rfl, Nat.le_of_ble_eq_true rfl⟩ hS (by have hz9 := hS.1; rintro q (h | h) <;> first | exact Or.inr (by omega) | exact h.elim | exact Or.inl h | (simp only [ftA] at h ⊢; omega)) (fun v H1 locs hpo hfr hS => ?_)
  obtain ⟨rfl, rfl⟩ := hpo
  refine W.widen (k := 0) (n := 0) (Nat.le_of_ble_eq_true rfl) (Nat.le_of_ble_eq_true rfl) ?_
  refine lv_astore (lv' := [(4, .ref ((xb + 10) + (20 + 2 * f))), (0, .ref xb), (1, .int (nI f)), (2, .int (nI m0)), (3, .int (nI p0))]) hx hb dX10_wouldGet_5 hl (by decide) rfl (fun ls hl => ?_)
  refine lv_aload_n hx hb dX10_wouldGet_7 rfl (lv_at hl 1 rfl) ?_
  refine lv_iload_n hx hb dX10_wouldGet_8 rfl (lv_at hl 3 rfl) ?_
  refine cl_X10_91 (As := [.int (nI m0)]) (rest := []) hB (c_X10_existingMember l g H0 xb (zOf q) P m0 (nmQ q) hCi.1 hS1 (by first | assumption | omega) (hz0) (hnm5)) hCi.1 rfl hl.1 (Nat.le_of_ble_eq_true rfl) dX10_wouldGet_9 ⟨Nat.le_of_ble_eq_true rfl, Nat.le_of_ble_eq_true rfl⟩ ⟨Nat.le_of_ble_eq_true rfl, Nat.le_of_ble_eq_true rfl⟩ hS (by have hz9 := hS.1; rintro q (h | h) <;> first | exact Or.inr (by omega) | exact h.elim | exact Or.inl h | (simp only [ftA] at h ⊢; omega)) (fun v H1 locs hpo hfr hS => ?_)
  obtain ⟨rfl, rfl⟩ := hpo
  refine W.widen (k := 0) (n := 0) (Nat.le_of_ble_eq_true rfl) (Nat.le_of_ble_eq_true rfl) ?_
  refine lv_pop hx hb dX10_wouldGet_12 rfl ?_
  refine lv_iload_n hx hb dX10_wouldGet_13 rfl (lv_at hl 4 rfl) ?_
  refine lv_iconst (v := nI 0) hx hb dX10_wouldGet_14 (by decide) ?_
  refine lv_sipush (v := nI 9999) hx hb dX10_wouldGet_15 (by decide +kernel) ?_
  refine cl_X10_44 (As := [.int (nI p0), .int (nI 0), .int (nI 9999)]) (rest := []) hB (c_X10_requireRange l g H0 p0 0 9999 (by first | assumption | omega) (by first | assumption | omega) (by first | assumption | omega)) rfl hl.1 (Nat.le_of_ble_eq_true rfl) dX10_wouldGet_18 ⟨Nat.le_of_ble_eq_true rfl, Nat.le_of_ble_eq_true rfl⟩ ⟨Nat.le_of_ble_eq_true rfl, Nat.le_of_ble_eq_true rfl⟩ hS (by have hz9 := hS.1; rintro q (h | h) <;> first | exact Or.inr (by omega) | exact h.elim | exact Or.inl h | (simp only [ftA] at h ⊢; omega)) (fun v H1 locs hpo hfr hS => ?_)
  obtain ⟨rfl, rfl⟩ := hpo
  refine W.widen (k := 0) (n := 0) (Nat.le_of_ble_eq_true rfl) (Nat.le_of_ble_eq_true rfl) ?_
  refine lv_aload hx hb dX10_wouldGet_21 (lv_at hl 0 rfl) ?_
  refine cl_X10_216 (As := []) (rest := []) hB (c_X1_isFinished l g H0 (xb + 10) (zOf q) P D q f (swF q f) hS1 hPT (by first | assumption | omega) (by rw [zOf_fS hf, (hW.fr hf).s]) (WF.sw (hW.fr hf)) (WF.sz (hW.fr hf))) (hS1.of (k := f) (by omega)) rfl hl.1 (Nat.le_of_ble_eq_true rfl) dX10_wouldGet_23 ⟨Nat.le_of_ble_eq_true rfl, Nat.le_of_ble_eq_true rfl⟩ ⟨Nat.le_of_ble_eq_true rfl, Nat.le_of_ble_eq_true rfl⟩ hS (by have hz9 := hS.1; rintro q (h | h) <;> first | exact Or.inr (by omega) | exact h.elim | exact Or.inl h | (simp only [ftA] at h ⊢; omega)) (fun v H1 locs hpo hfr hS => ?_)
  obtain ⟨rfl, rfl⟩ := hpo
  refine W.widen (k := 0) (n := 0) (Nat.le_of_ble_eq_true rfl) (Nat.le_of_ble_eq_true rfl) ?_
  refine mh_top (y := .int (nI 0)) (by rw [decide_eq_false (by have := WF.sw (hW.fr hf); omega)]; rfl) ?_
  refine mn_if_eq (tgt := 39) hB dX10_wouldGet_26 (by decide) (by omega) (fun h_26 => ?_) (fun h => by exfalso; omega)
  refine lv_bipush (v := (-9)) hx hb dX10_wouldGet_39 (by decide) ?_
  refine mh_iret hB ⟨Nat.le_of_ble_eq_true rfl, Nat.le_of_ble_eq_true rfl⟩ hS dX10_wouldGet_41 ⟨?_, rfl⟩
  · rfl
