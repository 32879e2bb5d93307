/-! the law's own methods -/
def rm_w_append_t1 : Room := { frames := 9, cells := 1, slots := 6, locals := 144 }
set_option maxRecDepth 100000 in
set_option maxHeartbeats 400000 in
theorem w_append_t1 (l : Launch) (g : GG) (H0 : Heap) (xb : Nat) (lim : Nat) (q : Nat → Int32) (n : Nat) (rm : Nat → Int32) (sl : Nat → Int32) (sv : Nat → Int32) (tx : Nat → Int32) (ln : Nat) (x : Int32) (ob : Nat) (o : Nat → Int64) (hC : CLS g xb lim q n rm sl sv tx ln H0) (hO : at_ g H0 ob (eL g 1 o)) (hx1 : isIx x 256 = false) (hlo : xb + 68 ≤ ob ∧ ob < lim) (hfl : l.stackTraces = false) : CtW l yL_append cL_append 4 (some .int) [(0, 9, 12, 13), (0, 9, 15, 15)] rm_w_append_t1 g xb [.ref xb, .int x, .ref ob] H0 (ftA (fun q9 => ((xb ≤ q9 ∧ q9 < xb + 68) ∨ lim ≤ q9) ∨ q9 = ob) H0.size) (fun v H1 => v = some (.int (nI 1)) ∧ CLS g xb lim q n rm sl sv tx ln H1 ∧ at_ g H1 ob (eL g 1 o)) := by
  refine CtW.of (by decide) (fun _ h => Or.inr h) (Nat.le_of_ble_eq_true rfl) ?_
  intro p e s m below meth c ls hB hZ9 hT9 hS hH hl
  have hx := hB.x
  have hb := hB.b
  have hl : lv_has ls 4 [(0, .ref xb), (1, .int x), (2, .ref ob)] := hl
  refine lv_aload_n hx hb dL_append_0 rfl (lv_at hl 2 rfl) ?_
  refine lv_iconst (v := nI 0) hx hb dL_append_1 (by decide) ?_
  refine lv_aload_n hx hb dL_append_2 rfl (lv_at hl 0 rfl) ?_
  refine lv_iload_n hx hb dL_append_3 rfl (lv_at hl 1 rfl) ?_
  refine mx_runV (C := RX10) (n := 1) (As := [.int x]) (rest := [.int (nI 0), .ref ob]) rfl kw_439 kw_1 kw_436 kw_437 kw_438 (by decide +kernel) hB hZ9 (fx_X10_append_t1 l g H0 xb xb lim q n rm sl sv tx ln x (hC) (hx1) hfl (by have := hC.lsz; omega)) hC.ob rfl hl.1 (Nat.le_of_ble_eq_true rfl) dL_append_4 ⟨Nat.le_of_ble_eq_true rfl, Nat.le_of_ble_eq_true rfl⟩ ⟨Nat.le_of_ble_eq_true rfl, Nat.le_of_ble_eq_true rfl⟩ hS (by have hz9 := hS.1; rintro q9 (h9 | h9) <;> first | exact h9.elim | exact Or.inr (by omega) | exact Or.inl (Or.inl h9)) (fun q9 H1 locs1 ce hp9 hfr9 hS hce hcv hcl => ?_)
  have hC := hC.keptX hfr9
  have hO := Fr.keep hfr9 hO (fun y9 => y9.elim)
  generalize H1 = H at hS hC hO hce
  refine vx_widen (k := 1) (n := 6) (Nat.le_of_ble_eq_true rfl) (Nat.le_of_ble_eq_true rfl) ?_
  refine vx_catch (name := XE1) hB.ow [] ⟨0, 9, 12, 13⟩ [⟨0, 9, 15, 15⟩] (by rw [hT9]; rfl) (fun z9 h9 => absurd h9 List.not_mem_nil) (by decide) (by decide) (hB.K.2 _ kw_434 _) hZ9.cast_XE1 hce hcv hcl ?_
  refine lv_astore_n (lv' := [(3, .ref q9), (0, .ref xb), (1, .int x), (2, .ref ob)]) hx hb dL_append_12 rfl hl (by decide) rfl (fun ls hl => ?_)
  refine lv_iconst (v := nI 1) hx hb dL_append_13 (by decide) ?_
  refine mh_iret hB ⟨Nat.le_of_ble_eq_true rfl, Nat.le_of_ble_eq_true rfl⟩ hS dL_append_14 ⟨?_, ?_, ?_⟩
  · rfl
  · exact hC
  · exact hO

def rm_w_append_t2 : Room := { frames := 8, cells := 1, slots := 6, locals := 122 }
set_option maxRecDepth 100000 in
set_option maxHeartbeats 400000 in
theorem w_append_t2 (l : Launch) (g : GG) (H0 : Heap) (xb : Nat) (lim : Nat) (q : Nat → Int32) (n : Nat) (rm : Nat → Int32) (sl : Nat → Int32) (sv : Nat → Int32) (tx : Nat → Int32) (ln : Nat) (k : Nat) (ob : Nat) (o : Nat → Int64) (hC : CLS g xb lim q n rm sl sv tx ln H0) (hO : at_ g H0 ob (eL g 1 o)) (hk : k < 256) (hl60 : ln = 60) (hlo : xb + 68 ≤ ob ∧ ob < lim) (hfl : l.stackTraces = false) : CtW l yL_append cL_append 4 (some .int) [(0, 9, 12, 13), (0, 9, 15, 15)] rm_w_append_t2 g xb [.ref xb, .int (nI k), .ref ob] H0 (ftA (fun q9 => ((xb ≤ q9 ∧ q9 < xb + 68) ∨ lim ≤ q9) ∨ q9 = ob) H0.size) (fun v H1 => v = some (.int (nI 2)) ∧ CLS g xb lim q n rm sl sv tx ln H1 ∧ at_ g H1 ob (eL g 1 o)) := by
  refine CtW.of (by decide) (fun _ h => Or.inr h) (Nat.le_of_ble_eq_true rfl) ?_
  intro p e s m below meth c ls hB hZ9 hT9 hS hH hl
  have hx := hB.x
  have hb := hB.b
  have hl : lv_has ls 4 [(0, .ref xb), (1, .int (nI k)), (2, .ref ob)] := hl
  refine lv_aload_n hx hb dL_append_0 rfl (lv_at hl 2 rfl) ?_
  refine lv_iconst (v := nI 0) hx hb dL_append_1 (by decide) ?_
  refine lv_aload_n hx hb dL_append_2 rfl (lv_at hl 0 rfl) ?_
  refine lv_iload_n hx hb dL_append_3 rfl (lv_at hl 1 rfl) ?_
  refine mx_runV (C := RX10) (n := 1) (As := [.int (nI k)]) (rest := [.int (nI 0), .ref ob]) rfl kw_439 kw_1 kw_436 kw_437 kw_438 (by decide +kernel) hB hZ9 (fx_X10_append_t2 l g H0 xb xb lim q n rm sl sv tx ln k (hC) (hk) (hl60) hfl (by have := hC.lsz; omega)) hC.ob rfl hl.1 (Nat.le_of_ble_eq_true rfl) dL_append_4 ⟨Nat.le_of_ble_eq_true rfl, Nat.le_of_ble_eq_true rfl⟩ ⟨Nat.le_of_ble_eq_true rfl, Nat.le_of_ble_eq_true rfl⟩ hS (by have hz9 := hS.1; rintro q9 (h9 | h9) <;> first | exact h9.elim | exact Or.inr (by omega) | exact Or.inl (Or.inl h9)) (fun q9 H1 locs1 ce hp9 hfr9 hS hce hcv hcl => ?_)
  have hC := hC.keptX hfr9
  have hO := Fr.keep hfr9 hO (fun y9 => y9.elim)
  generalize H1 = H at hS hC hO hce
  refine vx_widen (k := 1) (n := 6) (Nat.le_of_ble_eq_true rfl) (Nat.le_of_ble_eq_true rfl) ?_
  refine vx_catch (name := XE2) hB.ow [⟨0, 9, 12, 13⟩] ⟨0, 9, 15, 15⟩ [] (by rw [hT9]; rfl) (List.forall_mem_cons.mpr ⟨Or.inr ⟨by decide, XE1, hB.K.2 _ kw_434 _, hZ9.nc_21⟩, fun z9 h9 => absurd h9 List.not_mem_nil⟩) (by decide) (by decide) (hB.K.2 _ kw_435 _) hZ9.cast_XE2 hce hcv hcl ?_
  refine lv_astore_n (lv' := [(3, .ref q9), (0, .ref xb), (1, .int (nI k)), (2, .ref ob)]) hx hb dL_append_15 rfl hl (by decide) rfl (fun ls hl => ?_)
  refine lv_iconst (v := nI 2) hx hb dL_append_16 (by decide) ?_
  refine mh_iret hB ⟨Nat.le_of_ble_eq_true rfl, Nat.le_of_ble_eq_true rfl⟩ hS dL_append_17 ⟨?_, ?_, ?_⟩
  · rfl
  · exact hC
  · exact hO

def rm_w_append_ok : Room := { frames := 3, cells := 0, slots := 0, locals := 64 }
set_option maxRecDepth 100000 in
set_option maxHeartbeats 400000 in
theorem w_append_ok (l : Launch) (g : GG) (H0 : Heap) (xb : Nat) (lim : Nat) (q : Nat → Int32) (n : Nat) (rm : Nat → Int32) (sl : Nat → Int32) (sv : Nat → Int32) (tx : Nat → Int32) (ln : Nat) (k : Nat) (ob : Nat) (o : Nat → Int64) (hC : CLS g xb lim q n rm sl sv tx ln H0) (hO : at_ g H0 ob (eL g 1 o)) (hk : k < 256) (hl60 : ln < 60) (hlo : xb + 68 ≤ ob ∧ ob < lim) (hfl : l.stackTraces = false) : CtW l yL_append cL_append 4 (some .int) [(0, 9, 12, 13), (0, 9, 15, 15)] rm_w_append_ok g xb [.ref xb, .int (nI k), .ref ob] H0 (ftA (fun q9 => ((xb ≤ q9 ∧ q9 < xb + 68) ∨ lim ≤ q9) ∨ q9 = ob) H0.size) (fun v H1 => v = some (.int (nI 0)) ∧ CLS g xb lim q n rm sl sv (upd tx ln (nI k)) (ln + 1) H1 ∧ at_ g H1 ob (eL g 1 (vp_updL o 0 ((nI (ln + 1)).toInt64)))) := by
  refine CtW.of (by decide) (fun _ h => Or.inr h) (Nat.le_of_ble_eq_true rfl) ?_
  intro p e s m below meth c ls hB hZ9 hT9 hS hH hl
  have hx := hB.x
  have hb := hB.b
  have hl : lv_has ls 4 [(0, .ref xb), (1, .int (nI k)), (2, .ref ob)] := hl
  refine lv_aload_n hx hb dL_append_0 rfl (lv_at hl 2 rfl) ?_
  refine lv_iconst (v := nI 0) hx hb dL_append_1 (by decide) ?_
  refine lv_aload_n hx hb dL_append_2 rfl (lv_at hl 0 rfl) ?_
  refine lv_iload_n hx hb dL_append_3 rfl (lv_at hl 1 rfl) ?_
  refine cl_L_7 (As := [.int (nI k)]) (rest := [.int (nI 0), .ref ob]) hB (f_X10_append l g H0 xb lim q n rm sl sv tx ln k (hC) (hk) (hl60)) hC.ob rfl hl.1 (Nat.le_of_ble_eq_true rfl) dL_append_4 ⟨Nat.le_of_ble_eq_true rfl, Nat.le_of_ble_eq_true rfl⟩ ⟨Nat.le_of_ble_eq_true rfl, Nat.le_of_ble_eq_true rfl⟩ hS (by have hz9 := hS.1; rintro q9 (h9 | h9); exact Or.inl (Or.inl h9); exact Or.inr (by omega)) (fun v H1 locs hpo hfr hS => ?_)
  obtain ⟨rfl, hC⟩ := hpo
  have hO := Fr.keep hfr hO (fun y9 => by have y8 : (xb ≤ ob ∧ ob < xb + 68) ∨ lim ≤ ob := y9; omega)
  generalize H1 = H at hfr hS hO hC ⊢
  refine W.widen (k := 0) (n := 0) (Nat.le_of_ble_eq_true rfl) (Nat.le_of_ble_eq_true rfl) ?_
  refine lv_i2l (v := (nI (ln + 1)).toInt64) hx hb dL_append_7 rfl ?_
  refine mn_last hB hO (Or.inl (Or.inr rfl)) hS (by omega) (by omega) dL_append_8 (fun H locs hwr => ?_)
  obtain ⟨hO, ho, hz, hS⟩ := hwr
  have hC := hC.keptO ho hz (by omega)
  refine lv_goto (tgt := 18) hx hb dL_append_9 (by decide) ?_
  refine lv_iconst (v := nI 0) hx hb dL_append_18 (by decide) ?_
  refine mh_iret hB ⟨Nat.le_of_ble_eq_true rfl, Nat.le_of_ble_eq_true rfl⟩ hS dL_append_19 ⟨?_, ?_, ?_⟩
  · rfl
  · exact hC
  · exact hO

def rm_w_about_t1 : Room := { frames := 9, cells := 1, slots := 6, locals := 144 }
set_option maxRecDepth 100000 in
set_option maxHeartbeats 400000 in
theorem w_about_t1 (l : Launch) (g : GG) (H0 : Heap) (xb : Nat) (lim : Nat) (q : Nat → Int32) (n : Nat) (rm : Nat → Int32) (sl : Nat → Int32) (sv : Nat → Int32) (tx : Nat → Int32) (ln : Nat) (x : Int32) (ob : Nat) (o : Nat → Int64) (hC : CLS g xb lim q n rm sl sv tx ln H0) (hO : at_ g H0 ob (eL g 1 o)) (hx1 : isIx x 9 = false) (hlo : xb + 68 ≤ ob ∧ ob < lim) (hfl : l.stackTraces = false) : CtW l yL_about cL_about 4 (some .int) [(0, 9, 12, 13)] rm_w_about_t1 g xb [.ref xb, .int x, .ref ob] H0 (ftA (fun q9 => ((xb ≤ q9 ∧ q9 < xb + 68) ∨ lim ≤ q9) ∨ q9 = ob) H0.size) (fun v H1 => v = some (.int (nI 1)) ∧ CLS g xb lim q n rm sl sv tx ln H1 ∧ at_ g H1 ob (eL g 1 o)) := by
  refine CtW.of (by decide) (fun _ h => Or.inr h) (Nat.le_of_ble_eq_true rfl) ?_
  intro p e s m below meth c ls hB hZ9 hT9 hS hH hl
  have hx := hB.x
  have hb := hB.b
  have hl : lv_has ls 4 [(0, .ref xb), (1, .int x), (2, .ref ob)] := hl
  refine lv_aload_n hx hb dL_about_0 rfl (lv_at hl 2 rfl) ?_
  refine lv_iconst (v := nI 0) hx hb dL_about_1 (by decide) ?_
  refine lv_aload_n hx hb dL_about_2 rfl (lv_at hl 0 rfl) ?_
  refine lv_iload_n hx hb dL_about_3 rfl (lv_at hl 1 rfl) ?_
  refine mx_runV (C := RX10) (n := 1) (As := [.int x]) (rest := [.int (nI 0), .ref ob]) rfl kw_541 kw_1 kw_538 kw_539 kw_540 (by decide +kernel) hB hZ9 (fx_X10_about_t1 l g H0 xb xb lim q n rm sl sv tx ln x (hC) (hx1) hfl (by have := hC.lsz; omega)) hC.ob rfl hl.1 (Nat.le_of_ble_eq_true rfl) dL_about_4 ⟨Nat.le_of_ble_eq_true rfl, Nat.le_of_ble_eq_true rfl⟩ ⟨Nat.le_of_ble_eq_true rfl, Nat.le_of_ble_eq_true rfl⟩ hS (by have hz9 := hS.1; rintro q9 (h9 | h9) <;> first | exact h9.elim | exact Or.inr (by omega) | exact Or.inl (Or.inl h9)) (fun q9 H1 locs1 ce hp9 hfr9 hS hce hcv hcl => ?_)
  have hC := hC.keptX hfr9
  have hO := Fr.keep hfr9 hO (fun y9 => y9.elim)
  generalize H1 = H at hS hC hO hce
  refine vx_widen (k := 1) (n := 6) (Nat.le_of_ble_eq_true rfl) (Nat.le_of_ble_eq_true rfl) ?_
  refine vx_catch (name := XE1) hB.ow [] ⟨0, 9, 12, 13⟩ [] (by rw [hT9]; rfl) (fun z9 h9 => absurd h9 List.not_mem_nil) (by decide) (by decide) (hB.K.2 _ kw_434 _) hZ9.cast_XE1 hce hcv hcl ?_
  refine lv_astore_n (lv' := [(3, .ref q9), (0, .ref xb), (1, .int x), (2, .ref ob)]) hx hb dL_about_12 rfl hl (by decide) rfl (fun ls hl => ?_)
  refine lv_iconst (v := nI 1) hx hb dL_about_13 (by decide) ?_
  refine mh_iret hB ⟨Nat.le_of_ble_eq_true rfl, Nat.le_of_ble_eq_true rfl⟩ hS dL_about_14 ⟨?_, ?_, ?_⟩
  · rfl
  · exact hC
  · exact hO

def rm_w_about_w0 : Room := { frames := 3, cells := 0, slots := 0, locals := 63 }
set_option maxRecDepth 100000 in
set_option maxHeartbeats 400000 in
theorem w_about_w0 (l : Launch) (g : GG) (H0 : Heap) (xb : Nat) (lim : Nat) (q : Nat → Int32) (n : Nat) (rm : Nat → Int32) (sl : Nat → Int32) (sv : Nat → Int32) (tx : Nat → Int32) (ln : Nat) (ob : Nat) (o : Nat → Int64) (hC : CLS g xb lim q n rm sl sv tx ln H0) (hO : at_ g H0 ob (eL g 1 o)) (hlo : xb + 68 ≤ ob ∧ ob < lim) (hfl : l.stackTraces = false) : CtW l yL_about cL_about 4 (some .int) [(0, 9, 12, 13)] rm_w_about_w0 g xb [.ref xb, .int (nI 0), .ref ob] H0 (ftA (fun q9 => ((xb ≤ q9 ∧ q9 < xb + 68) ∨ lim ≤ q9) ∨ q9 = ob) H0.size) (fun v H1 => v = some (.int (nI 0)) ∧ CLS g xb lim q n rm sl sv tx ln H1 ∧ at_ g H1 ob (eL g 1 (vp_updL o 0 ((abV q 0).toInt64)))) := by
  refine CtW.of (by decide) (fun _ h => Or.inr h) (Nat.le_of_ble_eq_true rfl) ?_
  intro p e s m below meth c ls hB hZ9 hT9 hS hH hl
  have hx := hB.x
  have hb := hB.b
  have hl : lv_has ls 4 [(0, .ref xb), (1, .int (nI 0)), (2, .ref ob)] := hl
  refine lv_aload_n hx hb dL_about_0 rfl (lv_at hl 2 rfl) ?_
  refine lv_iconst (v := nI 0) hx hb dL_about_1 (by decide) ?_
  refine lv_aload_n hx hb dL_about_2 rfl (lv_at hl 0 rfl) ?_
  refine lv_iload_n hx hb dL_about_3 rfl (lv_at hl 1 rfl) ?_
  refine cl_L_17 (As := [.int (nI 0)]) (rest := [.int (nI 0), .ref ob]) hB (f_X10_about_0 l g H0 xb lim q n rm sl sv tx ln (hC)) hC.ob rfl hl.1 (Nat.le_of_ble_eq_true rfl) dL_about_4 ⟨Nat.le_of_ble_eq_true rfl, Nat.le_of_ble_eq_true rfl⟩ ⟨Nat.le_of_ble_eq_true rfl, Nat.le_of_ble_eq_true rfl⟩ hS (by have hz9 := hS.1; rintro q (h | h) <;> first | exact Or.inr (by omega) | exact h.elim | exact Or.inl h | (simp only [ftA] at h ⊢; omega)) (fun v H1 locs hpo hfr hS => ?_)
  obtain ⟨rfl, rfl⟩ := hpo
  refine W.widen (k := 0) (n := 0) (Nat.le_of_ble_eq_true rfl) (Nat.le_of_ble_eq_true rfl) ?_
  refine lv_i2l (v := (abV q 0).toInt64) hx hb dL_about_7 rfl ?_
  refine mn_last hB hO (Or.inl (Or.inr rfl)) hS (by omega) (by omega) dL_about_8 (fun H locs hwr => ?_)
  obtain ⟨hO, ho, hz, hS⟩ := hwr
  have hC := hC.keptO ho hz (by omega)
  refine lv_goto (tgt := 15) hx hb dL_about_9 (by decide) ?_
  refine lv_iconst (v := nI 0) hx hb dL_about_15 (by decide) ?_
  refine mh_iret hB ⟨Nat.le_of_ble_eq_true rfl, Nat.le_of_ble_eq_true rfl⟩ hS dL_about_16 ⟨?_, ?_, ?_⟩
  · rfl
  · exact hC
  · exact hO

def rm_w_about_w1 : Room := { frames := 3, cells := 0, slots := 0, locals := 63 }
set_option maxRecDepth 100000 in
set_option maxHeartbeats 400000 in
theorem w_about_w1 (l : Launch) (g : GG) (H0 : Heap) (xb : Nat) (lim : Nat) (q : Nat → Int32) (n : Nat) (rm : Nat → Int32) (sl : Nat → Int32) (sv : Nat → Int32) (tx : Nat → Int32) (ln : Nat) (ob : Nat) (o : Nat → Int64) (hC : CLS g xb lim q n rm sl sv tx ln H0) (hO : at_ g H0 ob (eL g 1 o)) (hlo : xb + 68 ≤ ob ∧ ob < lim) (hfl : l.stackTraces = false) : CtW l yL_about cL_about 4 (some .int) [(0, 9, 12, 13)] rm_w_about_w1 g xb [.ref xb, .int (nI 1), .ref ob] H0 (ftA (fun q9 => ((xb ≤ q9 ∧ q9 < xb + 68) ∨ lim ≤ q9) ∨ q9 = ob) H0.size) (fun v H1 => v = some (.int (nI 0)) ∧ CLS g xb lim q n rm sl sv tx ln H1 ∧ at_ g H1 ob (eL g 1 (vp_updL o 0 ((abV q 1).toInt64)))) := by
  refine CtW.of (by decide) (fun _ h => Or.inr h) (Nat.le_of_ble_eq_true rfl) ?_
  intro p e s m below meth c ls hB hZ9 hT9 hS hH hl
  have hx := hB.x
  have hb := hB.b
  have hl : lv_has ls 4 [(0, .ref xb), (1, .int (nI 1)), (2, .ref ob)] := hl
  refine lv_aload_n hx hb dL_about_0 rfl (lv_at hl 2 rfl) ?_
  refine lv_iconst (v := nI 0) hx hb dL_about_1 (by decide) ?_
  refine lv_aload_n hx hb dL_about_2 rfl (lv_at hl 0 rfl) ?_
  refine lv_iload_n hx hb dL_about_3 rfl (lv_at hl 1 rfl) ?_
  refine cl_L_17 (As := [.int (nI 1)]) (rest := [.int (nI 0), .ref ob]) hB (f_X10_about_1 l g H0 xb lim q n rm sl sv tx ln (hC)) hC.ob rfl hl.1 (Nat.le_of_ble_eq_true rfl) dL_about_4 ⟨Nat.le_of_ble_eq_true rfl, Nat.le_of_ble_eq_true rfl⟩ ⟨Nat.le_of_ble_eq_true rfl, Nat.le_of_ble_eq_true rfl⟩ hS (by have hz9 := hS.1; rintro q (h | h) <;> first | exact Or.inr (by omega) | exact h.elim | exact Or.inl h | (simp only [ftA] at h ⊢; omega)) (fun v H1 locs hpo hfr hS => ?_)
  obtain ⟨rfl, rfl⟩ := hpo
  refine W.widen (k := 0) (n := 0) (Nat.le_of_ble_eq_true rfl) (Nat.le_of_ble_eq_true rfl) ?_
  refine lv_i2l (v := (abV q 1).toInt64) hx hb dL_about_7 rfl ?_
  refine mn_last hB hO (Or.inl (Or.inr rfl)) hS (by omega) (by omega) dL_about_8 (fun H locs hwr => ?_)
  obtain ⟨hO, ho, hz, hS⟩ := hwr
  have hC := hC.keptO ho hz (by omega)
  refine lv_goto (tgt := 15) hx hb dL_about_9 (by decide) ?_
  refine lv_iconst (v := nI 0) hx hb dL_about_15 (by decide) ?_
  refine mh_iret hB ⟨Nat.le_of_ble_eq_true rfl, Nat.le_of_ble_eq_true rfl⟩ hS dL_about_16 ⟨?_, ?_, ?_⟩
  · rfl
  · exact hC
  · exact hO

def rm_w_about_w2 : Room := { frames := 3, cells := 0, slots := 0, locals := 65 }
set_option maxRecDepth 100000 in
set_option maxHeartbeats 400000 in
theorem w_about_w2 (l : Launch) (g : GG) (H0 : Heap) (xb : Nat) (lim : Nat) (q : Nat → Int32) (n : Nat) (rm : Nat → Int32) (sl : Nat → Int32) (sv : Nat → Int32) (tx : Nat → Int32) (ln : Nat) (ob : Nat) (o : Nat → Int64) (hC : CLS g xb lim q n rm sl sv tx ln H0) (hO : at_ g H0 ob (eL g 1 o)) (hlo : xb + 68 ≤ ob ∧ ob < lim) (hfl : l.stackTraces = false) : CtW l yL_about cL_about 4 (some .int) [(0, 9, 12, 13)] rm_w_about_w2 g xb [.ref xb, .int (nI 2), .ref ob] H0 (ftA (fun q9 => ((xb ≤ q9 ∧ q9 < xb + 68) ∨ lim ≤ q9) ∨ q9 = ob) H0.size) (fun v H1 => v = some (.int (nI 0)) ∧ CLS g xb lim q n rm sl sv tx ln H1 ∧ at_ g H1 ob (eL g 1 (vp_updL o 0 ((abV q 2).toInt64)))) := by
  refine CtW.of (by decide) (fun _ h => Or.inr h) (Nat.le_of_ble_eq_true rfl) ?_
  intro p e s m below meth c ls hB hZ9 hT9 hS hH hl
  have hx := hB.x
  have hb := hB.b
  have hl : lv_has ls 4 [(0, .ref xb), (1, .int (nI 2)), (2, .ref ob)] := hl
  refine lv_aload_n hx hb dL_about_0 rfl (lv_at hl 2 rfl) ?_
  refine lv_iconst (v := nI 0) hx hb dL_about_1 (by decide) ?_
  refine lv_aload_n hx hb dL_about_2 rfl (lv_at hl 0 rfl) ?_
  refine lv_iload_n hx hb dL_about_3 rfl (lv_at hl 1 rfl) ?_
  refine cl_L_17 (As := [.int (nI 2)]) (rest := [.int (nI 0), .ref ob]) hB (f_X10_about_2 l g H0 xb lim q n rm sl sv tx ln (hC)) hC.ob rfl hl.1 (Nat.le_of_ble_eq_true rfl) dL_about_4 ⟨Nat.le_of_ble_eq_true rfl, Nat.le_of_ble_eq_true rfl⟩ ⟨Nat.le_of_ble_eq_true rfl, Nat.le_of_ble_eq_true rfl⟩ hS (by have hz9 := hS.1; rintro q (h | h) <;> first | exact Or.inr (by omega) | exact h.elim | exact Or.inl h | (simp only [ftA] at h ⊢; omega)) (fun v H1 locs hpo hfr hS => ?_)
  obtain ⟨rfl, rfl⟩ := hpo
  refine W.widen (k := 0) (n := 0) (Nat.le_of_ble_eq_true rfl) (Nat.le_of_ble_eq_true rfl) ?_
  refine lv_i2l (v := (abV q 2).toInt64) hx hb dL_about_7 rfl ?_
  refine mn_last hB hO (Or.inl (Or.inr rfl)) hS (by omega) (by omega) dL_about_8 (fun H locs hwr => ?_)
  obtain ⟨hO, ho, hz, hS⟩ := hwr
  have hC := hC.keptO ho hz (by omega)
  refine lv_goto (tgt := 15) hx hb dL_about_9 (by decide) ?_
  refine lv_iconst (v := nI 0) hx hb dL_about_15 (by decide) ?_
  refine mh_iret hB ⟨Nat.le_of_ble_eq_true rfl, Nat.le_of_ble_eq_true rfl⟩ hS dL_about_16 ⟨?_, ?_, ?_⟩
  · rfl
  · exact hC
  · exact hO

def rm_w_about_w3 : Room := { frames := 3, cells := 0, slots := 0, locals := 63 }
set_option maxRecDepth 100000 in
set_option maxHeartbeats 400000 in
theorem w_about_w3 (l : Launch) (g : GG) (H0 : Heap) (xb : Nat) (lim : Nat) (q : Nat → Int32) (n : Nat) (rm : Nat → Int32) (sl : Nat → Int32) (sv : Nat → Int32) (tx : Nat → Int32) (ln : Nat) (ob : Nat) (o : Nat → Int64) (hC : CLS g xb lim q n rm sl sv tx ln H0) (hO : at_ g H0 ob (eL g 1 o)) (hlo : xb + 68 ≤ ob ∧ ob < lim) (hfl : l.stackTraces = false) : CtW l yL_about cL_about 4 (some .int) [(0, 9, 12, 13)] rm_w_about_w3 g xb [.ref xb, .int (nI 3), .ref ob] H0 (ftA (fun q9 => ((xb ≤ q9 ∧ q9 < xb + 68) ∨ lim ≤ q9) ∨ q9 = ob) H0.size) (fun v H1 => v = some (.int (nI 0)) ∧ CLS g xb lim q n rm sl sv tx ln H1 ∧ at_ g H1 ob (eL g 1 (vp_updL o 0 ((abV q 3).toInt64)))) := by
  refine CtW.of (by decide) (fun _ h => Or.inr h) (Nat.le_of_ble_eq_true rfl) ?_
  intro p e s m below meth c ls hB hZ9 hT9 hS hH hl
  have hx := hB.x
  have hb := hB.b
  have hl : lv_has ls 4 [(0, .ref xb), (1, .int (nI 3)), (2, .ref ob)] := hl
  refine lv_aload_n hx hb dL_about_0 rfl (lv_at hl 2 rfl) ?_
  refine lv_iconst (v := nI 0) hx hb dL_about_1 (by decide) ?_
  refine lv_aload_n hx hb dL_about_2 rfl (lv_at hl 0 rfl) ?_
  refine lv_iload_n hx hb dL_about_3 rfl (lv_at hl 1 rfl) ?_
  refine cl_L_17 (As := [.int (nI 3)]) (rest := [.int (nI 0), .ref ob]) hB (f_X10_about_3 l g H0 xb lim q n rm sl sv tx ln (hC)) hC.ob rfl hl.1 (Nat.le_of_ble_eq_true rfl) dL_about_4 ⟨Nat.le_of_ble_eq_true rfl, Nat.le_of_ble_eq_true rfl⟩ ⟨Nat.le_of_ble_eq_true rfl, Nat.le_of_ble_eq_true rfl⟩ hS (by have hz9 := hS.1; rintro q (h | h) <;> first | exact Or.inr (by omega) | exact h.elim | exact Or.inl h | (simp only [ftA] at h ⊢; omega)) (fun v H1 locs hpo hfr hS => ?_)
  obtain ⟨rfl, rfl⟩ := hpo
  refine W.widen (k := 0) (n := 0) (Nat.le_of_ble_eq_true rfl) (Nat.le_of_ble_eq_true rfl) ?_
  refine lv_i2l (v := (abV q 3).toInt64) hx hb dL_about_7 rfl ?_
  refine mn_last hB hO (Or.inl (Or.inr rfl)) hS (by omega) (by omega) dL_about_8 (fun H locs hwr => ?_)
  obtain ⟨hO, ho, hz, hS⟩ := hwr
  have hC := hC.keptO ho hz (by omega)
  refine lv_goto (tgt := 15) hx hb dL_about_9 (by decide) ?_
  refine lv_iconst (v := nI 0) hx hb dL_about_15 (by decide) ?_
  refine mh_iret hB ⟨Nat.le_of_ble_eq_true rfl, Nat.le_of_ble_eq_true rfl⟩ hS dL_about_16 ⟨?_, ?_, ?_⟩
  · rfl
  · exact hC
  · exact hO

def rm_w_about_w4 : Room := { frames := 3, cells := 0, slots := 0, locals := 63 }
set_option maxRecDepth 100000 in
set_option maxHeartbeats 400000 in
theorem w_about_w4 (l : Launch) (g : GG) (H0 : Heap) (xb : Nat) (lim : Nat) (q : Nat → Int32) (n : Nat) (rm : Nat → Int32) (sl : Nat → Int32) (sv : Nat → Int32) (tx : Nat → Int32) (ln : Nat) (ob : Nat) (o : Nat → Int64) (hC : CLS g xb lim q n rm sl sv tx ln H0) (hO : at_ g H0 ob (eL g 1 o)) (hlo : xb + 68 ≤ ob ∧ ob < lim) (hfl : l.stackTraces = false) : CtW l yL_about cL_about 4 (some .int) [(0, 9, 12, 13)] rm_w_about_w4 g xb [.ref xb, .int (nI 4), .ref ob] H0 (ftA (fun q9 => ((xb ≤ q9 ∧ q9 < xb + 68) ∨ lim ≤ q9) ∨ q9 = ob) H0.size) (fun v H1 => v = some (.int (nI 0)) ∧ CLS g xb lim q n rm sl sv tx ln H1 ∧ at_ g H1 ob (eL g 1 (vp_updL o 0 ((abV q 4).toInt64)))) := by
  refine CtW.of (by decide) (fun _ h => Or.inr h) (Nat.le_of_ble_eq_true rfl) ?_
  intro p e s m below meth c ls hB hZ9 hT9 hS hH hl
  have hx := hB.x
  have hb := hB.b
  have hl : lv_has ls 4 [(0, .ref xb), (1, .int (nI 4)), (2, .ref ob)] := hl
  refine lv_aload_n hx hb dL_about_0 rfl (lv_at hl 2 rfl) ?_
  refine lv_iconst (v := nI 0) hx hb dL_about_1 (by decide) ?_
  refine lv_aload_n hx hb dL_about_2 rfl (lv_at hl 0 rfl) ?_
  refine lv_iload_n hx hb dL_about_3 rfl (lv_at hl 1 rfl) ?_
  refine cl_L_17 (As := [.int (nI 4)]) (rest := [.int (nI 0), .ref ob]) hB (f_X10_about_4 l g H0 xb lim q n rm sl sv tx ln (hC)) hC.ob rfl hl.1 (Nat.le_of_ble_eq_true rfl) dL_about_4 ⟨Nat.le_of_ble_eq_true rfl, Nat.le_of_ble_eq_true rfl⟩ ⟨Nat.le_of_ble_eq_true rfl, Nat.le_of_ble_eq_true rfl⟩ hS (by have hz9 := hS.1; rintro q (h | h) <;> first | exact Or.inr (by omega) | exact h.elim | exact Or.inl h | (simp only [ftA] at h ⊢; omega)) (fun v H1 locs hpo hfr hS => ?_)
  obtain ⟨rfl, rfl⟩ := hpo
  refine W.widen (k := 0) (n := 0) (Nat.le_of_ble_eq_true rfl) (Nat.le_of_ble_eq_true rfl) ?_
  refine lv_i2l (v := (abV q 4).toInt64) hx hb dL_about_7 rfl ?_
  refine mn_last hB hO (Or.inl (Or.inr rfl)) hS (by omega) (by omega) dL_about_8 (fun H locs hwr => ?_)
  obtain ⟨hO, ho, hz, hS⟩ := hwr
  have hC := hC.keptO ho hz (by omega)
  refine lv_goto (tgt := 15) hx hb dL_about_9 (by decide) ?_
  refine lv_iconst (v := nI 0) hx hb dL_about_15 (by decide) ?_
  refine mh_iret hB ⟨Nat.le_of_ble_eq_true rfl, Nat.le_of_ble_eq_true rfl⟩ hS dL_about_16 ⟨?_, ?_, ?_⟩
  · rfl
  · exact hC
  · exact hO

def rm_w_about_w5 : Room := { frames := 3, cells := 0, slots := 0, locals := 63 }
set_option maxRecDepth 100000 in
set_option maxHeartbeats 400000 in
theorem w_about_w5 (l : Launch) (g : GG) (H0 : Heap) (xb : Nat) (lim : Nat) (q : Nat → Int32) (n : Nat) (rm : Nat → Int32) (sl : Nat → Int32) (sv : Nat → Int32) (tx : Nat → Int32) (ln : Nat) (ob : Nat) (o : Nat → Int64) (hC : CLS g xb lim q n rm sl sv tx ln H0) (hO : at_ g H0 ob (eL g 1 o)) (hlo : xb + 68 ≤ ob ∧ ob < lim) (hfl : l.stackTraces = false) : CtW l yL_about cL_about 4 (some .int) [(0, 9, 12, 13)] rm_w_about_w5 g xb [.ref xb, .int (nI 5), .ref ob] H0 (ftA (fun q9 => ((xb ≤ q9 ∧ q9 < xb + 68) ∨ lim ≤ q9) ∨ q9 = ob) H0.size) (fun v H1 => v = some (.int (nI 0)) ∧ CLS g xb lim q n rm sl sv tx ln H1 ∧ at_ g H1 ob (eL g 1 (vp_updL o 0 ((abV q 5).toInt64)))) := by
  refine CtW.of (by decide) (fun _ h => Or.inr h) (Nat.le_of_ble_eq_true rfl) ?_
  intro p e s m below meth c ls hB hZ9 hT9 hS hH hl
  have hx := hB.x
  have hb := hB.b
  have hl : lv_has ls 4 [(0, .ref xb), (1, .int (nI 5)), (2, .ref ob)] := hl
  refine lv_aload_n hx hb dL_about_0 rfl (lv_at hl 2 rfl) ?_
  refine lv_iconst (v := nI 0) hx hb dL_about_1 (by decide) ?_
  refine lv_aload_n hx hb dL_about_2 rfl (lv_at hl 0 rfl) ?_
  refine lv_iload_n hx hb dL_about_3 rfl (lv_at hl 1 rfl) ?_
  refine cl_L_17 (As := [.int (nI 5)]) (rest := [.int (nI 0), .ref ob]) hB (f_X10_about_5 l g H0 xb lim q n rm sl sv tx ln (hC)) hC.ob rfl hl.1 (Nat.le_of_ble_eq_true rfl) dL_about_4 ⟨Nat.le_of_ble_eq_true rfl, Nat.le_of_ble_eq_true rfl⟩ ⟨Nat.le_of_ble_eq_true rfl, Nat.le_of_ble_eq_true rfl⟩ hS (by have hz9 := hS.1; rintro q (h | h) <;> first | exact Or.inr (by omega) | exact h.elim | exact Or.inl h | (simp only [ftA] at h ⊢; omega)) (fun v H1 locs hpo hfr hS => ?_)
  obtain ⟨rfl, rfl⟩ := hpo
  refine W.widen (k := 0) (n := 0) (Nat.le_of_ble_eq_true rfl) (Nat.le_of_ble_eq_true rfl) ?_
  refine lv_i2l (v := (abV q 5).toInt64) hx hb dL_about_7 rfl ?_
  refine mn_last hB hO (Or.inl (Or.inr rfl)) hS (by omega) (by omega) dL_about_8 (fun H locs hwr => ?_)
  obtain ⟨hO, ho, hz, hS⟩ := hwr
  have hC := hC.keptO ho hz (by omega)
  refine lv_goto (tgt := 15) hx hb dL_about_9 (by decide) ?_
  refine lv_iconst (v := nI 0) hx hb dL_about_15 (by decide) ?_
  refine mh_iret hB ⟨Nat.le_of_ble_eq_true rfl, Nat.le_of_ble_eq_true rfl⟩ hS dL_about_16 ⟨?_, ?_, ?_⟩
  · rfl
  · exact hC
  · exact hO

def rm_w_about_w6 : Room := { frames := 3, cells := 0, slots := 0, locals := 66 }
set_option maxRecDepth 100000 in
set_option maxHeartbeats 400000 in
theorem w_about_w6 (l : Launch) (g : GG) (H0 : Heap) (xb : Nat) (lim : Nat) (q : Nat → Int32) (n : Nat) (rm : Nat → Int32) (sl : Nat → Int32) (sv : Nat → Int32) (tx : Nat → Int32) (ln : Nat) (ob : Nat) (o : Nat → Int64) (hC : CLS g xb lim q n rm sl sv tx ln H0) (hO : at_ g H0 ob (eL g 1 o)) (hlo : xb + 68 ≤ ob ∧ ob < lim) (hfl : l.stackTraces = false) : CtW l yL_about cL_about 4 (some .int) [(0, 9, 12, 13)] rm_w_about_w6 g xb [.ref xb, .int (nI 6), .ref ob] H0 (ftA (fun q9 => ((xb ≤ q9 ∧ q9 < xb + 68) ∨ lim ≤ q9) ∨ q9 = ob) H0.size) (fun v H1 => v = some (.int (nI 0)) ∧ CLS g xb lim q n rm sl sv tx ln H1 ∧ at_ g H1 ob (eL g 1 (vp_updL o 0 ((abV q 6).toInt64)))) := by
  refine CtW.of (by decide) (fun _ h => Or.inr h) (Nat.le_of_ble_eq_true rfl) ?_
  intro p e s m below meth c ls hB hZ9 hT9 hS hH hl
  have hx := hB.x
  have hb := hB.b
  have hl : lv_has ls 4 [(0, .ref xb), (1, .int (nI 6)), (2, .ref ob)] := hl
  refine lv_aload_n hx hb dL_about_0 rfl (lv_at hl 2 rfl) ?_
  refine lv_iconst (v := nI 0) hx hb dL_about_1 (by decide) ?_
  refine lv_aload_n hx hb dL_about_2 rfl (lv_at hl 0 rfl) ?_
  refine lv_iload_n hx hb dL_about_3 rfl (lv_at hl 1 rfl) ?_
  refine cl_L_17 (As := [.int (nI 6)]) (rest := [.int (nI 0), .ref ob]) hB (f_X10_about_6 l g H0 xb lim q n rm sl sv tx ln (hC)) hC.ob rfl hl.1 (Nat.le_of_ble_eq_true rfl) dL_about_4 ⟨Nat.le_of_ble_eq_true rfl, Nat.le_of_ble_eq_true rfl⟩ ⟨Nat.le_of_ble_eq_true rfl, Nat.le_of_ble_eq_true rfl⟩ hS (by have hz9 := hS.1; rintro q (h | h) <;> first | exact Or.inr (by omega) | exact h.elim | exact Or.inl h | (simp only [ftA] at h ⊢; omega)) (fun v H1 locs hpo hfr hS => ?_)
  obtain ⟨rfl, rfl⟩ := hpo
  refine W.widen (k := 0) (n := 0) (Nat.le_of_ble_eq_true rfl) (Nat.le_of_ble_eq_true rfl) ?_
  refine lv_i2l (v := (abV q 6).toInt64) hx hb dL_about_7 rfl ?_
  refine mn_last hB hO (Or.inl (Or.inr rfl)) hS (by omega) (by omega) dL_about_8 (fun H locs hwr => ?_)
  obtain ⟨hO, ho, hz, hS⟩ := hwr
  have hC := hC.keptO ho hz (by omega)
  refine lv_goto (tgt := 15) hx hb dL_about_9 (by decide) ?_
  refine lv_iconst (v := nI 0) hx hb dL_about_15 (by decide) ?_
  refine mh_iret hB ⟨Nat.le_of_ble_eq_true rfl, Nat.le_of_ble_eq_true rfl⟩ hS dL_about_16 ⟨?_, ?_, ?_⟩
  · rfl
  · exact hC
  · exact hO

def rm_w_about_w7 : Room := { frames := 3, cells := 0, slots := 0, locals := 66 }
set_option maxRecDepth 100000 in
set_option maxHeartbeats 400000 in
theorem w_about_w7 (l : Launch) (g : GG) (H0 : Heap) (xb : Nat) (lim : Nat) (q : Nat → Int32) (n : Nat) (rm : Nat → Int32) (sl : Nat → Int32) (sv : Nat → Int32) (tx : Nat → Int32) (ln : Nat) (ob : Nat) (o : Nat → Int64) (hC : CLS g xb lim q n rm sl sv tx ln H0) (hO : at_ g H0 ob (eL g 1 o)) (hlo : xb + 68 ≤ ob ∧ ob < lim) (hfl : l.stackTraces = false) : CtW l yL_about cL_about 4 (some .int) [(0, 9, 12, 13)] rm_w_about_w7 g xb [.ref xb, .int (nI 7), .ref ob] H0 (ftA (fun q9 => ((xb ≤ q9 ∧ q9 < xb + 68) ∨ lim ≤ q9) ∨ q9 = ob) H0.size) (fun v H1 => v = some (.int (nI 0)) ∧ CLS g xb lim q n rm sl sv tx ln H1 ∧ at_ g H1 ob (eL g 1 (vp_updL o 0 ((abV q 7).toInt64)))) := by
  refine CtW.of (by decide) (fun _ h => Or.inr h) (Nat.le_of_ble_eq_true rfl) ?_
  intro p e s m below meth c ls hB hZ9 hT9 hS hH hl
  have hx := hB.x
  have hb := hB.b
  have hl : lv_has ls 4 [(0, .ref xb), (1, .int (nI 7)), (2, .ref ob)] := hl
  refine lv_aload_n hx hb dL_about_0 rfl (lv_at hl 2 rfl) ?_
  refine lv_iconst (v := nI 0) hx hb dL_about_1 (by decide) ?_
  refine lv_aload_n hx hb dL_about_2 rfl (lv_at hl 0 rfl) ?_
  refine lv_iload_n hx hb dL_about_3 rfl (lv_at hl 1 rfl) ?_
  refine cl_L_17 (As := [.int (nI 7)]) (rest := [.int (nI 0), .ref ob]) hB (f_X10_about_7 l g H0 xb lim q n rm sl sv tx ln (hC)) hC.ob rfl hl.1 (Nat.le_of_ble_eq_true rfl) dL_about_4 ⟨Nat.le_of_ble_eq_true rfl, Nat.le_of_ble_eq_true rfl⟩ ⟨Nat.le_of_ble_eq_true rfl, Nat.le_of_ble_eq_true rfl⟩ hS (by have hz9 := hS.1; rintro q (h | h) <;> first | exact Or.inr (by omega) | exact h.elim | exact Or.inl h | (simp only [ftA] at h ⊢; omega)) (fun v H1 locs hpo hfr hS => ?_)
  obtain ⟨rfl, rfl⟩ := hpo
  refine W.widen (k := 0) (n := 0) (Nat.le_of_ble_eq_true rfl) (Nat.le_of_ble_eq_true rfl) ?_
  refine lv_i2l (v := (abV q 7).toInt64) hx hb dL_about_7 rfl ?_
  refine mn_last hB hO (Or.inl (Or.inr rfl)) hS (by omega) (by omega) dL_about_8 (fun H locs hwr => ?_)
  obtain ⟨hO, ho, hz, hS⟩ := hwr
  have hC := hC.keptO ho hz (by omega)
  refine lv_goto (tgt := 15) hx hb dL_about_9 (by decide) ?_
  refine lv_iconst (v := nI 0) hx hb dL_about_15 (by decide) ?_
  refine mh_iret hB ⟨Nat.le_of_ble_eq_true rfl, Nat.le_of_ble_eq_true rfl⟩ hS dL_about_16 ⟨?_, ?_, ?_⟩
  · rfl
  · exact hC
  · exact hO

def rm_w_about_w8 : Room := { frames := 3, cells := 0, slots := 0, locals := 66 }
set_option maxRecDepth 100000 in
set_option maxHeartbeats 400000 in
theorem w_about_w8 (l : Launch) (g : GG) (H0 : Heap) (xb : Nat) (lim : Nat) (q : Nat → Int32) (n : Nat) (rm : Nat → Int32) (sl : Nat → Int32) (sv : Nat → Int32) (tx : Nat → Int32) (ln : Nat) (ob : Nat) (o : Nat → Int64) (hC : CLS g xb lim q n rm sl sv tx ln H0) (hO : at_ g H0 ob (eL g 1 o)) (hlo : xb + 68 ≤ ob ∧ ob < lim) (hfl : l.stackTraces = false) : CtW l yL_about cL_about 4 (some .int) [(0, 9, 12, 13)] rm_w_about_w8 g xb [.ref xb, .int (nI 8), .ref ob] H0 (ftA (fun q9 => ((xb ≤ q9 ∧ q9 < xb + 68) ∨ lim ≤ q9) ∨ q9 = ob) H0.size) (fun v H1 => v = some (.int (nI 0)) ∧ CLS g xb lim q n rm sl sv tx ln H1 ∧ at_ g H1 ob (eL g 1 (vp_updL o 0 ((abV q 8).toInt64)))) := by
  refine CtW.of (by decide) (fun _ h => Or.inr h) (Nat.le_of_ble_eq_true rfl) ?_
  intro p e s m below meth c ls hB hZ9 hT9 hS hH hl
  have hx := hB.x
  have hb := hB.b
  have hl : lv_has ls 4 [(0, .ref xb), (1, .int (nI 8)), (2, .ref ob)] := hl
  refine lv_aload_n hx hb dL_about_0 rfl (lv_at hl 2 rfl) ?_
  refine lv_iconst (v := nI 0) hx hb dL_about_1 (by decide) ?_
  refine lv_aload_n hx hb dL_about_2 rfl (lv_at hl 0 rfl) ?_
  refine lv_iload_n hx hb dL_about_3 rfl (lv_at hl 1 rfl) ?_
  refine cl_L_17 (As := [.int (nI 8)]) (rest := [.int (nI 0), .ref ob]) hB (f_X10_about_8 l g H0 xb lim q n rm sl sv tx ln (hC)) hC.ob rfl hl.1 (Nat.le_of_ble_eq_true rfl) dL_about_4 ⟨Nat.le_of_ble_eq_true rfl, Nat.le_of_ble_eq_true rfl⟩ ⟨Nat.le_of_ble_eq_true rfl, Nat.le_of_ble_eq_true rfl⟩ hS (by have hz9 := hS.1; rintro q (h | h) <;> first | exact Or.inr (by omega) | exact h.elim | exact Or.inl h | (simp only [ftA] at h ⊢; omega)) (fun v H1 locs hpo hfr hS => ?_)
  obtain ⟨rfl, rfl⟩ := hpo
  refine W.widen (k := 0) (n := 0) (Nat.le_of_ble_eq_true rfl) (Nat.le_of_ble_eq_true rfl) ?_
  refine lv_i2l (v := (abV q 8).toInt64) hx hb dL_about_7 rfl ?_
  refine mn_last hB hO (Or.inl (Or.inr rfl)) hS (by omega) (by omega) dL_about_8 (fun H locs hwr => ?_)
  obtain ⟨hO, ho, hz, hS⟩ := hwr
  have hC := hC.keptO ho hz (by omega)
  refine lv_goto (tgt := 15) hx hb dL_about_9 (by decide) ?_
  refine lv_iconst (v := nI 0) hx hb dL_about_15 (by decide) ?_
  refine mh_iret hB ⟨Nat.le_of_ble_eq_true rfl, Nat.le_of_ble_eq_true rfl⟩ hS dL_about_16 ⟨?_, ?_, ?_⟩
  · rfl
  · exact hC
  · exact hO

def rm_w_member_t1 : Room := { frames := 8, cells := 1, slots := 6, locals := 126 }
set_option maxRecDepth 100000 in
set_option maxHeartbeats 400000 in
theorem w_member_t1 (l : Launch) (g : GG) (H0 : Heap) (xb : Nat) (lim : Nat) (q : Nat → Int32) (n : Nat) (rm : Nat → Int32) (sl : Nat → Int32) (sv : Nat → Int32) (tx : Nat → Int32) (ln : Nat) (x : Int32) (y : Int32) (ob : Nat) (o : Nat → Int64) (hC : CLS g xb lim q n rm sl sv tx ln H0) (hO : at_ g H0 ob (eL g 1 o)) (hx1 : isIx x (nmQ q) = false) (hlo : xb + 68 ≤ ob ∧ ob < lim) (hfl : l.stackTraces = false) : CtW l yL_member cL_member 5 (some .int) [(0, 10, 13, 24), (0, 10, 17, 13)] rm_w_member_t1 g xb [.ref xb, .int x, .int y, .ref ob] H0 (ftA (fun q9 => ((xb ≤ q9 ∧ q9 < xb + 68) ∨ lim ≤ q9) ∨ q9 = ob) H0.size) (fun v H1 => v = some (.int (nI 1)) ∧ CLS g xb lim q n rm sl sv tx ln H1 ∧ at_ g H1 ob (eL g 1 o)) := by
  refine CtW.of (by decide) (fun _ h => Or.inr h) (Nat.le_of_ble_eq_true rfl) ?_
  intro p e s m below meth c ls hB hZ9 hT9 hS hH hl
  have hx := hB.x
  have hb := hB.b
  have hl : lv_has ls 5 [(0, .ref xb), (1, .int x), (2, .int y), (3, .ref ob)] := hl
  refine lv_aload_n hx hb dL_member_0 rfl (lv_at hl 3 rfl) ?_
  refine lv_iconst (v := nI 0) hx hb dL_member_1 (by decide) ?_
  refine lv_aload_n hx hb dL_member_2 rfl (lv_at hl 0 rfl) ?_
  refine lv_iload_n hx hb dL_member_3 rfl (lv_at hl 1 rfl) ?_
  refine lv_iload_n hx hb dL_member_4 rfl (lv_at hl 2 rfl) ?_
  refine mx_runV (C := RX10) (n := 2) (As := [.int x, .int y]) (rest := [.int (nI 0), .ref ob]) rfl kw_554 kw_1 kw_551 kw_552 kw_553 (by decide +kernel) hB hZ9 (fx_X10_member_t1 l g H0 xb xb lim q n rm sl sv tx ln x y (hC) (hx1) hfl (by have := hC.lsz; omega)) hC.ob rfl hl.1 (Nat.le_of_ble_eq_true rfl) dL_member_5 ⟨Nat.le_of_ble_eq_true rfl, Nat.le_of_ble_eq_true rfl⟩ ⟨Nat.le_of_ble_eq_true rfl, Nat.le_of_ble_eq_true rfl⟩ hS (by have hz9 := hS.1; rintro q9 (h9 | h9) <;> first | exact h9.elim | exact Or.inr (by omega) | exact Or.inl (Or.inl h9)) (fun q9 H1 locs1 ce hp9 hfr9 hS hce hcv hcl => ?_)
  have hC := hC.keptX hfr9
  have hO := Fr.keep hfr9 hO (fun y9 => y9.elim)
  generalize H1 = H at hS hC hO hce
  refine vx_widen (k := 1) (n := 6) (Nat.le_of_ble_eq_true rfl) (Nat.le_of_ble_eq_true rfl) ?_
  refine vx_catch (name := XE3) hB.ow [] ⟨0, 10, 13, 24⟩ [⟨0, 10, 17, 13⟩] (by rw [hT9]; rfl) (fun z9 h9 => absurd h9 List.not_mem_nil) (by decide) (by decide) (hB.K.2 _ kw_550 _) hZ9.cast_XE3 hce hcv hcl ?_
  refine lv_astore (lv' := [(4, .ref q9), (0, .ref xb), (1, .int x), (2, .int y), (3, .ref ob)]) hx hb dL_member_13 hl (by decide) rfl (fun ls hl => ?_)
  refine lv_iconst (v := nI 1) hx hb dL_member_15 (by decide) ?_
  refine mh_iret hB ⟨Nat.le_of_ble_eq_true rfl, Nat.le_of_ble_eq_true rfl⟩ hS dL_member_16 ⟨?_, ?_, ?_⟩
  · rfl
  · exact hC
  · exact hO

def rm_w_member_t2 : Room := { frames := 9, cells := 1, slots := 6, locals := 146 }
set_option maxRecDepth 100000 in
set_option maxHeartbeats 400000 in
theorem w_member_t2 (l : Launch) (g : GG) (H0 : Heap) (xb : Nat) (lim : Nat) (q : Nat → Int32) (n : Nat) (rm : Nat → Int32) (sl : Nat → Int32) (sv : Nat → Int32) (tx : Nat → Int32) (ln : Nat) (k : Nat) (y : Int32) (ob : Nat) (o : Nat → Int64) (hC : CLS g xb lim q n rm sl sv tx ln H0) (hO : at_ g H0 ob (eL g 1 o)) (hk : k < nmQ q) (hx1 : isIx y 4 = false) (hlo : xb + 68 ≤ ob ∧ ob < lim) (hfl : l.stackTraces = false) : CtW l yL_member cL_member 5 (some .int) [(0, 10, 13, 24), (0, 10, 17, 13)] rm_w_member_t2 g xb [.ref xb, .int (nI k), .int y, .ref ob] H0 (ftA (fun q9 => ((xb ≤ q9 ∧ q9 < xb + 68) ∨ lim ≤ q9) ∨ q9 = ob) H0.size) (fun v H1 => v = some (.int (nI 2)) ∧ CLS g xb lim q n rm sl sv tx ln H1 ∧ at_ g H1 ob (eL g 1 o)) := by
  refine CtW.of (by decide) (fun _ h => Or.inr h) (Nat.le_of_ble_eq_true rfl) ?_
  intro p e s m below meth c ls hB hZ9 hT9 hS hH hl
  have hx := hB.x
  have hb := hB.b
  have hl : lv_has ls 5 [(0, .ref xb), (1, .int (nI k)), (2, .int y), (3, .ref ob)] := hl
  refine lv_aload_n hx hb dL_member_0 rfl (lv_at hl 3 rfl) ?_
  refine lv_iconst (v := nI 0) hx hb dL_member_1 (by decide) ?_
  refine lv_aload_n hx hb dL_member_2 rfl (lv_at hl 0 rfl) ?_
  refine lv_iload_n hx hb dL_member_3 rfl (lv_at hl 1 rfl) ?_
  refine lv_iload_n hx hb dL_member_4 rfl (lv_at hl 2 rfl) ?_
  refine mx_runV (C := RX10) (n := 2) (As := [.int (nI k), .int y]) (rest := [.int (nI 0), .ref ob]) rfl kw_554 kw_1 kw_551 kw_552 kw_553 (by decide +kernel) hB hZ9 (fx_X10_member_t2 l g H0 xb xb lim q n rm sl sv tx ln k y (hC) (hk) (hx1) hfl (by have := hC.lsz; omega)) hC.ob rfl hl.1 (Nat.le_of_ble_eq_true rfl) dL_member_5 ⟨Nat.le_of_ble_eq_true rfl, Nat.le_of_ble_eq_true rfl⟩ ⟨Nat.le_of_ble_eq_true rfl, Nat.le_of_ble_eq_true rfl⟩ hS (by have hz9 := hS.1; rintro q9 (h9 | h9) <;> first | exact h9.elim | exact Or.inr (by omega) | exact Or.inl (Or.inl h9)) (fun q9 H1 locs1 ce hp9 hfr9 hS hce hcv hcl => ?_)
  have hC := hC.keptX hfr9
  have hO := Fr.keep hfr9 hO (fun y9 => y9.elim)
  generalize H1 = H at hS hC hO hce
  refine vx_widen (k := 1) (n := 6) (Nat.le_of_ble_eq_true rfl) (Nat.le_of_ble_eq_true rfl) ?_
  refine vx_catch (name := XE1) hB.ow [⟨0, 10, 13, 24⟩] ⟨0, 10, 17, 13⟩ [] (by rw [hT9]; rfl) (List.forall_mem_cons.mpr ⟨Or.inr ⟨by decide, XE3, hB.K.2 _ kw_550 _, hZ9.nc_13⟩, fun z9 h9 => absurd h9 List.not_mem_nil⟩) (by decide) (by decide) (hB.K.2 _ kw_434 _) hZ9.cast_XE1 hce hcv hcl ?_
  refine lv_astore (lv' := [(4, .ref q9), (0, .ref xb), (1, .int (nI k)), (2, .int y), (3, .ref ob)]) hx hb dL_member_17 hl (by decide) rfl (fun ls hl => ?_)
  refine lv_iconst (v := nI 2) hx hb dL_member_19 (by decide) ?_
  refine mh_iret hB ⟨Nat.le_of_ble_eq_true rfl, Nat.le_of_ble_eq_true rfl⟩ hS dL_member_20 ⟨?_, ?_, ?_⟩
  · rfl
  · exact hC
  · exact hO

def rm_w_member_w0 : Room := { frames := 3, cells := 0, slots := 0, locals := 66 }
set_option maxRecDepth 100000 in
set_option maxHeartbeats 400000 in
theorem w_member_w0 (l : Launch) (g : GG) (H0 : Heap) (xb : Nat) (lim : Nat) (q : Nat → Int32) (n : Nat) (rm : Nat → Int32) (sl : Nat → Int32) (sv : Nat → Int32) (tx : Nat → Int32) (ln : Nat) (k : Nat) (ob : Nat) (o : Nat → Int64) (hC : CLS g xb lim q n rm sl sv tx ln H0) (hO : at_ g H0 ob (eL g 1 o)) (hk : k < nmQ q) (hlo : xb + 68 ≤ ob ∧ ob < lim) (hfl : l.stackTraces = false) : CtW l yL_member cL_member 5 (some .int) [(0, 10, 13, 24), (0, 10, 17, 13)] rm_w_member_w0 g xb [.ref xb, .int (nI k), .int (nI 0), .ref ob] H0 (ftA (fun q9 => ((xb ≤ q9 ∧ q9 < xb + 68) ∨ lim ≤ q9) ∨ q9 = ob) H0.size) (fun v H1 => v = some (.int (nI 0)) ∧ CLS g xb lim q n rm sl sv tx ln H1 ∧ at_ g H1 ob (eL g 1 (vp_updL o 0 ((meV q k 0).toInt64)))) := by
  refine CtW.of (by decide) (fun _ h => Or.inr h) (Nat.le_of_ble_eq_true rfl) ?_
  intro p e s m below meth c ls hB hZ9 hT9 hS hH hl
  have hx := hB.x
  have hb := hB.b
  have hl : lv_has ls 5 [(0, .ref xb), (1, .int (nI k)), (2, .int (nI 0)), (3, .ref ob)] := hl
  refine lv_aload_n hx hb dL_member_0 rfl (lv_at hl 3 rfl) ?_
  refine lv_iconst (v := nI 0) hx hb dL_member_1 (by decide) ?_
  refine lv_aload_n hx hb dL_member_2 rfl (lv_at hl 0 rfl) ?_
  refine lv_iload_n hx hb dL_member_3 rfl (lv_at hl 1 rfl) ?_
  refine lv_iload_n hx hb dL_member_4 rfl (lv_at hl 2 rfl) ?_
  refine cl_L_20 (As := [.int (nI k), .int (nI 0)]) (rest := [.int (nI 0), .ref ob]) hB (f_X10_member_0 l g H0 xb lim q n rm sl sv tx ln k (hC) (hk)) hC.ob rfl hl.1 (Nat.le_of_ble_eq_true rfl) dL_member_5 ⟨Nat.le_of_ble_eq_true rfl, Nat.le_of_ble_eq_true rfl⟩ ⟨Nat.le_of_ble_eq_true rfl, Nat.le_of_ble_eq_true rfl⟩ hS (by have hz9 := hS.1; rintro q (h | h) <;> first | exact Or.inr (by omega) | exact h.elim | exact Or.inl h | (simp only [ftA] at h ⊢; omega)) (fun v H1 locs hpo hfr hS => ?_)
  obtain ⟨rfl, rfl⟩ := hpo
  refine W.widen (k := 0) (n := 0) (Nat.le_of_ble_eq_true rfl) (Nat.le_of_ble_eq_true rfl) ?_
  refine lv_i2l (v := (meV q k 0).toInt64) hx hb dL_member_8 rfl ?_
  refine mn_last hB hO (Or.inl (Or.inr rfl)) hS (by omega) (by omega) dL_member_9 (fun H locs hwr => ?_)
  obtain ⟨hO, ho, hz, hS⟩ := hwr
  have hC := hC.keptO ho hz (by omega)
  refine lv_goto (tgt := 21) hx hb dL_member_10 (by decide) ?_
  refine lv_iconst (v := nI 0) hx hb dL_member_21 (by decide) ?_
  refine mh_iret hB ⟨Nat.le_of_ble_eq_true rfl, Nat.le_of_ble_eq_true rfl⟩ hS dL_member_22 ⟨?_, ?_, ?_⟩
  · rfl
  · exact hC
  · exact hO

def rm_w_member_w1 : Room := { frames := 3, cells := 0, slots := 0, locals := 66 }
set_option maxRecDepth 100000 in
set_option maxHeartbeats 400000 in
theorem w_member_w1 (l : Launch) (g : GG) (H0 : Heap) (xb : Nat) (lim : Nat) (q : Nat → Int32) (n : Nat) (rm : Nat → Int32) (sl : Nat → Int32) (sv : Nat → Int32) (tx : Nat → Int32) (ln : Nat) (k : Nat) (ob : Nat) (o : Nat → Int64) (hC : CLS g xb lim q n rm sl sv tx ln H0) (hO : at_ g H0 ob (eL g 1 o)) (hk : k < nmQ q) (hlo : xb + 68 ≤ ob ∧ ob < lim) (hfl : l.stackTraces = false) : CtW l yL_member cL_member 5 (some .int) [(0, 10, 13, 24), (0, 10, 17, 13)] rm_w_member_w1 g xb [.ref xb, .int (nI k), .int (nI 1), .ref ob] H0 (ftA (fun q9 => ((xb ≤ q9 ∧ q9 < xb + 68) ∨ lim ≤ q9) ∨ q9 = ob) H0.size) (fun v H1 => v = some (.int (nI 0)) ∧ CLS g xb lim q n rm sl sv tx ln H1 ∧ at_ g H1 ob (eL g 1 (vp_updL o 0 ((meV q k 1).toInt64)))) := by
  refine CtW.of (by decide) (fun _ h => Or.inr h) (Nat.le_of_ble_eq_true rfl) ?_
  intro p e s m below meth c ls hB hZ9 hT9 hS hH hl
  have hx := hB.x
  have hb := hB.b
  have hl : lv_has ls 5 [(0, .ref xb), (1, .int (nI k)), (2, .int (nI 1)), (3, .ref ob)] := hl
  refine lv_aload_n hx hb dL_member_0 rfl (lv_at hl 3 rfl) ?_
  refine lv_iconst (v := nI 0) hx hb dL_member_1 (by decide) ?_
  refine lv_aload_n hx hb dL_member_2 rfl (lv_at hl 0 rfl) ?_
  refine lv_iload_n hx hb dL_member_3 rfl (lv_at hl 1 rfl) ?_
  refine lv_iload_n hx hb dL_member_4 rfl (lv_at hl 2 rfl) ?_
  refine cl_L_20 (As := [.int (nI k), .int (nI 1)]) (rest := [.int (nI 0), .ref ob]) hB (f_X10_member_1 l g H0 xb lim q n rm sl sv tx ln k (hC) (hk)) hC.ob rfl hl.1 (Nat.le_of_ble_eq_true rfl) dL_member_5 ⟨Nat.le_of_ble_eq_true rfl, Nat.le_of_ble_eq_true rfl⟩ ⟨Nat.le_of_ble_eq_true rfl, Nat.le_of_ble_eq_true rfl⟩ hS (by have hz9 := hS.1; rintro q (h | h) <;> first | exact Or.inr (by omega) | exact h.elim | exact Or.inl h | (simp only [ftA] at h ⊢; omega)) (fun v H1 locs hpo hfr hS => ?_)
  obtain ⟨rfl, rfl⟩ := hpo
  refine W.widen (k := 0) (n := 0) (Nat.le_of_ble_eq_true rfl) (Nat.le_of_ble_eq_true rfl) ?_
  refine lv_i2l (v := (meV q k 1).toInt64) hx hb dL_member_8 rfl ?_
  refine mn_last hB hO (Or.inl (Or.inr rfl)) hS (by omega) (by omega) dL_member_9 (fun H locs hwr => ?_)
  obtain ⟨hO, ho, hz, hS⟩ := hwr
  have hC := hC.keptO ho hz (by omega)
  refine lv_goto (tgt := 21) hx hb dL_member_10 (by decide) ?_
  refine lv_iconst (v := nI 0) hx hb dL_member_21 (by decide) ?_
  refine mh_iret hB ⟨Nat.le_of_ble_eq_true rfl, Nat.le_of_ble_eq_true rfl⟩ hS dL_member_22 ⟨?_, ?_, ?_⟩
  · rfl
  · exact hC
  · exact hO

def rm_w_member_w2 : Room := { frames := 3, cells := 0, slots := 0, locals := 66 }
set_option maxRecDepth 100000 in
set_option maxHeartbeats 400000 in
theorem w_member_w2 (l : Launch) (g : GG) (H0 : Heap) (xb : Nat) (lim : Nat) (q : Nat → Int32) (n : Nat) (rm : Nat → Int32) (sl : Nat → Int32) (sv : Nat → Int32) (tx : Nat → Int32) (ln : Nat) (k : Nat) (ob : Nat) (o : Nat → Int64) (hC : CLS g xb lim q n rm sl sv tx ln H0) (hO : at_ g H0 ob (eL g 1 o)) (hk : k < nmQ q) (hlo : xb + 68 ≤ ob ∧ ob < lim) (hfl : l.stackTraces = false) : CtW l yL_member cL_member 5 (some .int) [(0, 10, 13, 24), (0, 10, 17, 13)] rm_w_member_w2 g xb [.ref xb, .int (nI k), .int (nI 2), .ref ob] H0 (ftA (fun q9 => ((xb ≤ q9 ∧ q9 < xb + 68) ∨ lim ≤ q9) ∨ q9 = ob) H0.size) (fun v H1 => v = some (.int (nI 0)) ∧ CLS g xb lim q n rm sl sv tx ln H1 ∧ at_ g H1 ob (eL g 1 (vp_updL o 0 ((meV q k 2).toInt64)))) := by
  refine CtW.of (by decide) (fun _ h => Or.inr h) (Nat.le_of_ble_eq_true rfl) ?_
  intro p e s m below meth c ls hB hZ9 hT9 hS hH hl
  have hx := hB.x
  have hb := hB.b
  have hl : lv_has ls 5 [(0, .ref xb), (1, .int (nI k)), (2, .int (nI 2)), (3, .ref ob)] := hl
  refine lv_aload_n hx hb dL_member_0 rfl (lv_at hl 3 rfl) ?_
  refine lv_iconst (v := nI 0) hx hb dL_member_1 (by decide) ?_
  refine lv_aload_n hx hb dL_member_2 rfl (lv_at hl 0 rfl) ?_
  refine lv_iload_n hx hb dL_member_3 rfl (lv_at hl 1 rfl) ?_
  refine lv_iload_n hx hb dL_member_4 rfl (lv_at hl 2 rfl) ?_
  refine cl_L_20 (As := [.int (nI k), .int (nI 2)]) (rest := [.int (nI 0), .ref ob]) hB (f_X10_member_2 l g H0 xb lim q n rm sl sv tx ln k (hC) (hk)) hC.ob rfl hl.1 (Nat.le_of_ble_eq_true rfl) dL_member_5 ⟨Nat.le_of_ble_eq_true rfl, Nat.le_of_ble_eq_true rfl⟩ ⟨Nat.le_of_ble_eq_true rfl, Nat.le_of_ble_eq_true rfl⟩ hS (by have hz9 := hS.1; rintro q (h | h) <;> first | exact Or.inr (by omega) | exact h.elim | exact Or.inl h | (simp only [ftA] at h ⊢; omega)) (fun v H1 locs hpo hfr hS => ?_)
  obtain ⟨rfl, rfl⟩ := hpo
  refine W.widen (k := 0) (n := 0) (Nat.le_of_ble_eq_true rfl) (Nat.le_of_ble_eq_true rfl) ?_
  refine lv_i2l (v := (meV q k 2).toInt64) hx hb dL_member_8 rfl ?_
  refine mn_last hB hO (Or.inl (Or.inr rfl)) hS (by omega) (by omega) dL_member_9 (fun H locs hwr => ?_)
  obtain ⟨hO, ho, hz, hS⟩ := hwr
  have hC := hC.keptO ho hz (by omega)
  refine lv_goto (tgt := 21) hx hb dL_member_10 (by decide) ?_
  refine lv_iconst (v := nI 0) hx hb dL_member_21 (by decide) ?_
  refine mh_iret hB ⟨Nat.le_of_ble_eq_true rfl, Nat.le_of_ble_eq_true rfl⟩ hS dL_member_22 ⟨?_, ?_, ?_⟩
  · rfl
  · exact hC
  · exact hO

def rm_w_member_w3 : Room := { frames := 3, cells := 0, slots := 0, locals := 66 }
set_option maxRecDepth 100000 in
set_option maxHeartbeats 400000 in
theorem w_member_w3 (l : Launch) (g : GG) (H0 : Heap) (xb : Nat) (lim : Nat) (q : Nat → Int32) (n : Nat) (rm : Nat → Int32) (sl : Nat → Int32) (sv : Nat → Int32) (tx : Nat → Int32) (ln : Nat) (k : Nat) (ob : Nat) (o : Nat → Int64) (hC : CLS g xb lim q n rm sl sv tx ln H0) (hO : at_ g H0 ob (eL g 1 o)) (hk : k < nmQ q) (hlo : xb + 68 ≤ ob ∧ ob < lim) (hfl : l.stackTraces = false) : CtW l yL_member cL_member 5 (some .int) [(0, 10, 13, 24), (0, 10, 17, 13)] rm_w_member_w3 g xb [.ref xb, .int (nI k), .int (nI 3), .ref ob] H0 (ftA (fun q9 => ((xb ≤ q9 ∧ q9 < xb + 68) ∨ lim ≤ q9) ∨ q9 = ob) H0.size) (fun v H1 => v = some (.int (nI 0)) ∧ CLS g xb lim q n rm sl sv tx ln H1 ∧ at_ g H1 ob (eL g 1 (vp_updL o 0 ((meV q k 3).toInt64)))) := by
  refine CtW.of (by decide) (fun _ h => Or.inr h) (Nat.le_of_ble_eq_true rfl) ?_
  intro p e s m below meth c ls hB hZ9 hT9 hS hH hl
  have hx := hB.x
  have hb := hB.b
  have hl : lv_has ls 5 [(0, .ref xb), (1, .int (nI k)), (2, .int (nI 3)), (3, .ref ob)] := hl
  refine lv_aload_n hx hb dL_member_0 rfl (lv_at hl 3 rfl) ?_
  refine lv_iconst (v := nI 0) hx hb dL_member_1 (by decide) ?_
  refine lv_aload_n hx hb dL_member_2 rfl (lv_at hl 0 rfl) ?_
  refine lv_iload_n hx hb dL_member_3 rfl (lv_at hl 1 rfl) ?_
  refine lv_iload_n hx hb dL_member_4 rfl (lv_at hl 2 rfl) ?_
  refine cl_L_20 (As := [.int (nI k), .int (nI 3)]) (rest := [.int (nI 0), .ref ob]) hB (f_X10_member_3 l g H0 xb lim q n rm sl sv tx ln k (hC) (hk)) hC.ob rfl hl.1 (Nat.le_of_ble_eq_true rfl) dL_member_5 ⟨Nat.le_of_ble_eq_true rfl, Nat.le_of_ble_eq_true rfl⟩ ⟨Nat.le_of_ble_eq_true rfl, Nat.le_of_ble_eq_true rfl⟩ hS (by have hz9 := hS.1; rintro q (h | h) <;> first | exact Or.inr (by omega) | exact h.elim | exact Or.inl h | (simp only [ftA] at h ⊢; omega)) (fun v H1 locs hpo hfr hS => ?_)
  obtain ⟨rfl, rfl⟩ := hpo
  refine W.widen (k := 0) (n := 0) (Nat.le_of_ble_eq_true rfl) (Nat.le_of_ble_eq_true rfl) ?_
  refine lv_i2l (v := (meV q k 3).toInt64) hx hb dL_member_8 rfl ?_
  refine mn_last hB hO (Or.inl (Or.inr rfl)) hS (by omega) (by omega) dL_member_9 (fun H locs hwr => ?_)
  obtain ⟨hO, ho, hz, hS⟩ := hwr
  have hC := hC.keptO ho hz (by omega)
  refine lv_goto (tgt := 21) hx hb dL_member_10 (by decide) ?_
  refine lv_iconst (v := nI 0) hx hb dL_member_21 (by decide) ?_
  refine mh_iret hB ⟨Nat.le_of_ble_eq_true rfl, Nat.le_of_ble_eq_true rfl⟩ hS dL_member_22 ⟨?_, ?_, ?_⟩
  · rfl
  · exact hC
  · exact hO

def rm_w_cloth_t1 : Room := { frames := 8, cells := 1, slots := 6, locals := 126 }
set_option maxRecDepth 100000 in
set_option maxHeartbeats 400000 in
theorem w_cloth_t1 (l : Launch) (g : GG) (H0 : Heap) (xb : Nat) (lim : Nat) (q : Nat → Int32) (n : Nat) (rm : Nat → Int32) (sl : Nat → Int32) (sv : Nat → Int32) (tx : Nat → Int32) (ln : Nat) (x : Int32) (y : Int32) (ob : Nat) (o : Nat → Int64) (hC : CLS g xb lim q n rm sl sv tx ln H0) (hO : at_ g H0 ob (eL g 1 o)) (hx1 : isIx x 6 = false) (hlo : xb + 68 ≤ ob ∧ ob < lim) (hfl : l.stackTraces = false) : CtW l yL_cloth cL_cloth 5 (some .int) [(0, 10, 13, 24), (0, 10, 17, 13)] rm_w_cloth_t1 g xb [.ref xb, .int x, .int y, .ref ob] H0 (ftA (fun q9 => ((xb ≤ q9 ∧ q9 < xb + 68) ∨ lim ≤ q9) ∨ q9 = ob) H0.size) (fun v H1 => v = some (.int (nI 1)) ∧ CLS g xb lim q n rm sl sv tx ln H1 ∧ at_ g H1 ob (eL g 1 o)) := by
  refine CtW.of (by decide) (fun _ h => Or.inr h) (Nat.le_of_ble_eq_true rfl) ?_
  intro p e s m below meth c ls hB hZ9 hT9 hS hH hl
  have hx := hB.x
  have hb := hB.b
  have hl : lv_has ls 5 [(0, .ref xb), (1, .int x), (2, .int y), (3, .ref ob)] := hl
  refine lv_aload_n hx hb dL_cloth_0 rfl (lv_at hl 3 rfl) ?_
  refine lv_iconst (v := nI 0) hx hb dL_cloth_1 (by decide) ?_
  refine lv_aload_n hx hb dL_cloth_2 rfl (lv_at hl 0 rfl) ?_
  refine lv_iload_n hx hb dL_cloth_3 rfl (lv_at hl 1 rfl) ?_
  refine lv_iload_n hx hb dL_cloth_4 rfl (lv_at hl 2 rfl) ?_
  refine mx_runV (C := RX10) (n := 2) (As := [.int x, .int y]) (rest := [.int (nI 0), .ref ob]) rfl kw_584 kw_1 kw_581 kw_582 kw_583 (by decide +kernel) hB hZ9 (fx_X10_cloth_t1 l g H0 xb xb lim q n rm sl sv tx ln x y (hC) (hx1) hfl (by have := hC.lsz; omega)) hC.ob rfl hl.1 (Nat.le_of_ble_eq_true rfl) dL_cloth_5 ⟨Nat.le_of_ble_eq_true rfl, Nat.le_of_ble_eq_true rfl⟩ ⟨Nat.le_of_ble_eq_true rfl, Nat.le_of_ble_eq_true rfl⟩ hS (by have hz9 := hS.1; rintro q9 (h9 | h9) <;> first | exact h9.elim | exact Or.inr (by omega) | exact Or.inl (Or.inl h9)) (fun q9 H1 locs1 ce hp9 hfr9 hS hce hcv hcl => ?_)
  have hC := hC.keptX hfr9
  have hO := Fr.keep hfr9 hO (fun y9 => y9.elim)
  generalize H1 = H at hS hC hO hce
  refine vx_widen (k := 1) (n := 6) (Nat.le_of_ble_eq_true rfl) (Nat.le_of_ble_eq_true rfl) ?_
  refine vx_catch (name := XE3) hB.ow [] ⟨0, 10, 13, 24⟩ [⟨0, 10, 17, 13⟩] (by rw [hT9]; rfl) (fun z9 h9 => absurd h9 List.not_mem_nil) (by decide) (by decide) (hB.K.2 _ kw_550 _) hZ9.cast_XE3 hce hcv hcl ?_
  refine lv_astore (lv' := [(4, .ref q9), (0, .ref xb), (1, .int x), (2, .int y), (3, .ref ob)]) hx hb dL_cloth_13 hl (by decide) rfl (fun ls hl => ?_)
  refine lv_iconst (v := nI 1) hx hb dL_cloth_15 (by decide) ?_
  refine mh_iret hB ⟨Nat.le_of_ble_eq_true rfl, Nat.le_of_ble_eq_true rfl⟩ hS dL_cloth_16 ⟨?_, ?_, ?_⟩
  · rfl
  · exact hC
  · exact hO

def rm_w_cloth_t2 : Room := { frames := 9, cells := 1, slots := 6, locals := 146 }
set_option maxRecDepth 100000 in
set_option maxHeartbeats 400000 in
theorem w_cloth_t2 (l : Launch) (g : GG) (H0 : Heap) (xb : Nat) (lim : Nat) (q : Nat → Int32) (n : Nat) (rm : Nat → Int32) (sl : Nat → Int32) (sv : Nat → Int32) (tx : Nat → Int32) (ln : Nat) (k : Nat) (y : Int32) (ob : Nat) (o : Nat → Int64) (hC : CLS g xb lim q n rm sl sv tx ln H0) (hO : at_ g H0 ob (eL g 1 o)) (hk : k < 6) (hx1 : isIx y 5 = false) (hlo : xb + 68 ≤ ob ∧ ob < lim) (hfl : l.stackTraces = false) : CtW l yL_cloth cL_cloth 5 (some .int) [(0, 10, 13, 24), (0, 10, 17, 13)] rm_w_cloth_t2 g xb [.ref xb, .int (nI k), .int y, .ref ob] H0 (ftA (fun q9 => ((xb ≤ q9 ∧ q9 < xb + 68) ∨ lim ≤ q9) ∨ q9 = ob) H0.size) (fun v H1 => v = some (.int (nI 2)) ∧ CLS g xb lim q n rm sl sv tx ln H1 ∧ at_ g H1 ob (eL g 1 o)) := by
  refine CtW.of (by decide) (fun _ h => Or.inr h) (Nat.le_of_ble_eq_true rfl) ?_
  intro p e s m below meth c ls hB hZ9 hT9 hS hH hl
  have hx := hB.x
  have hb := hB.b
  have hl : lv_has ls 5 [(0, .ref xb), (1, .int (nI k)), (2, .int y), (3, .ref ob)] := hl
  refine lv_aload_n hx hb dL_cloth_0 rfl (lv_at hl 3 rfl) ?_
  refine lv_iconst (v := nI 0) hx hb dL_cloth_1 (by decide) ?_
  refine lv_aload_n hx hb dL_cloth_2 rfl (lv_at hl 0 rfl) ?_
  refine lv_iload_n hx hb dL_cloth_3 rfl (lv_at hl 1 rfl) ?_
  refine lv_iload_n hx hb dL_cloth_4 rfl (lv_at hl 2 rfl) ?_
  refine mx_runV (C := RX10) (n := 2) (As := [.int (nI k), .int y]) (rest := [.int (nI 0), .ref ob]) rfl kw_584 kw_1 kw_581 kw_582 kw_583 (by decide +kernel) hB hZ9 (fx_X10_cloth_t2 l g H0 xb xb lim q n rm sl sv tx ln k y (hC) (hk) (hx1) hfl (by have := hC.lsz; omega)) hC.ob rfl hl.1 (Nat.le_of_ble_eq_true rfl) dL_cloth_5 ⟨Nat.le_of_ble_eq_true rfl, Nat.le_of_ble_eq_true rfl⟩ ⟨Nat.le_of_ble_eq_true rfl, Nat.le_of_ble_eq_true rfl⟩ hS (by have hz9 := hS.1; rintro q9 (h9 | h9) <;> first | exact h9.elim | exact Or.inr (by omega) | exact Or.inl (Or.inl h9)) (fun q9 H1 locs1 ce hp9 hfr9 hS hce hcv hcl => ?_)
  have hC := hC.keptX hfr9
  have hO := Fr.keep hfr9 hO (fun y9 => y9.elim)
  generalize H1 = H at hS hC hO hce
  refine vx_widen (k := 1) (n := 6) (Nat.le_of_ble_eq_true rfl) (Nat.le_of_ble_eq_true rfl) ?_
  refine vx_catch (name := XE1) hB.ow [⟨0, 10, 13, 24⟩] ⟨0, 10, 17, 13⟩ [] (by rw [hT9]; rfl) (List.forall_mem_cons.mpr ⟨Or.inr ⟨by decide, XE3, hB.K.2 _ kw_550 _, hZ9.nc_13⟩, fun z9 h9 => absurd h9 List.not_mem_nil⟩) (by decide) (by decide) (hB.K.2 _ kw_434 _) hZ9.cast_XE1 hce hcv hcl ?_
  refine lv_astore (lv' := [(4, .ref q9), (0, .ref xb), (1, .int (nI k)), (2, .int y), (3, .ref ob)]) hx hb dL_cloth_17 hl (by decide) rfl (fun ls hl => ?_)
  refine lv_iconst (v := nI 2) hx hb dL_cloth_19 (by decide) ?_
  refine mh_iret hB ⟨Nat.le_of_ble_eq_true rfl, Nat.le_of_ble_eq_true rfl⟩ hS dL_cloth_20 ⟨?_, ?_, ?_⟩
  · rfl
  · exact hC
  · exact hO

def rm_w_cloth_ok : Room := { frames := 3, cells := 0, slots := 0, locals := 66 }
set_option maxRecDepth 100000 in
set_option maxHeartbeats 400000 in
theorem w_cloth_ok (l : Launch) (g : GG) (H0 : Heap) (xb : Nat) (lim : Nat) (q : Nat → Int32) (n : Nat) (rm : Nat → Int32) (sl : Nat → Int32) (sv : Nat → Int32) (tx : Nat → Int32) (ln : Nat) (k : Nat) (w : Nat) (ob : Nat) (o : Nat → Int64) (hC : CLS g xb lim q n rm sl sv tx ln H0) (hO : at_ g H0 ob (eL g 1 o)) (hk : k < 6) (hw : w < 5) (hlo : xb + 68 ≤ ob ∧ ob < lim) (hfl : l.stackTraces = false) : CtW l yL_cloth cL_cloth 5 (some .int) [(0, 10, 13, 24), (0, 10, 17, 13)] rm_w_cloth_ok g xb [.ref xb, .int (nI k), .int (nI w), .ref ob] H0 (ftA (fun q9 => ((xb ≤ q9 ∧ q9 < xb + 68) ∨ lim ≤ q9) ∨ q9 = ob) H0.size) (fun v H1 => v = some (.int (nI 0)) ∧ CLS g xb lim q n rm sl sv tx ln H1 ∧ at_ g H1 ob (eL g 1 (vp_updL o 0 ((coV q k w).toInt64)))) := by
  refine CtW.of (by decide) (fun _ h => Or.inr h) (Nat.le_of_ble_eq_true rfl) ?_
  intro p e s m below meth c ls hB hZ9 hT9 hS hH hl
  have hx := hB.x
  have hb := hB.b
  have hl : lv_has ls 5 [(0, .ref xb), (1, .int (nI k)), (2, .int (nI w)), (3, .ref ob)] := hl
  refine lv_aload_n hx hb dL_cloth_0 rfl (lv_at hl 3 rfl) ?_
  refine lv_iconst (v := nI 0) hx hb dL_cloth_1 (by decide) ?_
  refine lv_aload_n hx hb dL_cloth_2 rfl (lv_at hl 0 rfl) ?_
  refine lv_iload_n hx hb dL_cloth_3 rfl (lv_at hl 1 rfl) ?_
  refine lv_iload_n hx hb dL_cloth_4 rfl (lv_at hl 2 rfl) ?_
  refine cl_L_26 (As := [.int (nI k), .int (nI w)]) (rest := [.int (nI 0), .ref ob]) hB (f_X10_cloth l g H0 xb lim q n rm sl sv tx ln k w (hC) (hk) (hw)) hC.ob rfl hl.1 (Nat.le_of_ble_eq_true rfl) dL_cloth_5 ⟨Nat.le_of_ble_eq_true rfl, Nat.le_of_ble_eq_true rfl⟩ ⟨Nat.le_of_ble_eq_true rfl, Nat.le_of_ble_eq_true rfl⟩ hS (by have hz9 := hS.1; rintro q (h | h) <;> first | exact Or.inr (by omega) | exact h.elim | exact Or.inl h | (simp only [ftA] at h ⊢; omega)) (fun v H1 locs hpo hfr hS => ?_)
  obtain ⟨rfl, rfl⟩ := hpo
  refine W.widen (k := 0) (n := 0) (Nat.le_of_ble_eq_true rfl) (Nat.le_of_ble_eq_true rfl) ?_
  refine lv_i2l (v := (coV q k w).toInt64) hx hb dL_cloth_8 rfl ?_
  refine mn_last hB hO (Or.inl (Or.inr rfl)) hS (by omega) (by omega) dL_cloth_9 (fun H locs hwr => ?_)
  obtain ⟨hO, ho, hz, hS⟩ := hwr
  have hC := hC.keptO ho hz (by omega)
  refine lv_goto (tgt := 21) hx hb dL_cloth_10 (by decide) ?_
  refine lv_iconst (v := nI 0) hx hb dL_cloth_21 (by decide) ?_
  refine mh_iret hB ⟨Nat.le_of_ble_eq_true rfl, Nat.le_of_ble_eq_true rfl⟩ hS dL_cloth_22 ⟨?_, ?_, ?_⟩
  · rfl
  · exact hC
  · exact hO

def rm_w_frame_t1 : Room := { frames := 8, cells := 1, slots := 6, locals := 127 }
set_option maxRecDepth 100000 in
set_option maxHeartbeats 400000 in
theorem w_frame_t1 (l : Launch) (g : GG) (H0 : Heap) (xb : Nat) (lim : Nat) (q : Nat → Int32) (n : Nat) (rm : Nat → Int32) (sl : Nat → Int32) (sv : Nat → Int32) (tx : Nat → Int32) (ln : Nat) (x : Int32) (y : Int32) (ob : Nat) (o : Nat → Int64) (hC : CLS g xb lim q n rm sl sv tx ln H0) (hO : at_ g H0 ob (eL g 1 o)) (hx1 : isIx x 3 = false) (hlo : xb + 68 ≤ ob ∧ ob < lim) (hfl : l.stackTraces = false) : CtW l yL_frame cL_frame 5 (some .int) [(0, 10, 13, 24), (0, 10, 17, 13)] rm_w_frame_t1 g xb [.ref xb, .int x, .int y, .ref ob] H0 (ftA (fun q9 => ((xb ≤ q9 ∧ q9 < xb + 68) ∨ lim ≤ q9) ∨ q9 = ob) H0.size) (fun v H1 => v = some (.int (nI 1)) ∧ CLS g xb lim q n rm sl sv tx ln H1 ∧ at_ g H1 ob (eL g 1 o)) := by
  refine CtW.of (by decide) (fun _ h => Or.inr h) (Nat.le_of_ble_eq_true rfl) ?_
  intro p e s m below meth c ls hB hZ9 hT9 hS hH hl
  have hx := hB.x
  have hb := hB.b
  have hl : lv_has ls 5 [(0, .ref xb), (1, .int x), (2, .int y), (3, .ref ob)] := hl
  refine lv_aload_n hx hb dL_frame_0 rfl (lv_at hl 3 rfl) ?_
  refine lv_iconst (v := nI 0) hx hb dL_frame_1 (by decide) ?_
  refine lv_aload_n hx hb dL_frame_2 rfl (lv_at hl 0 rfl) ?_
  refine lv_iload_n hx hb dL_frame_3 rfl (lv_at hl 1 rfl) ?_
  refine lv_iload_n hx hb dL_frame_4 rfl (lv_at hl 2 rfl) ?_
  refine mx_runV (C := RX10) (n := 2) (As := [.int x, .int y]) (rest := [.int (nI 0), .ref ob]) rfl kw_597 kw_1 kw_594 kw_595 kw_596 (by decide +kernel) hB hZ9 (fx_X10_frame_t1 l g H0 xb xb lim q n rm sl sv tx ln x y (hC) (hx1) hfl (by have := hC.lsz; omega)) hC.ob rfl hl.1 (Nat.le_of_ble_eq_true rfl) dL_frame_5 ⟨Nat.le_of_ble_eq_true rfl, Nat.le_of_ble_eq_true rfl⟩ ⟨Nat.le_of_ble_eq_true rfl, Nat.le_of_ble_eq_true rfl⟩ hS (by have hz9 := hS.1; rintro q9 (h9 | h9) <;> first | exact h9.elim | exact Or.inr (by omega) | exact Or.inl (Or.inl h9)) (fun q9 H1 locs1 ce hp9 hfr9 hS hce hcv hcl => ?_)
  have hC := hC.keptX hfr9
  have hO := Fr.keep hfr9 hO (fun y9 => y9.elim)
  generalize H1 = H at hS hC hO hce
  refine vx_widen (k := 1) (n := 6) (Nat.le_of_ble_eq_true rfl) (Nat.le_of_ble_eq_true rfl) ?_
  refine vx_catch (name := XE3) hB.ow [] ⟨0, 10, 13, 24⟩ [⟨0, 10, 17, 13⟩] (by rw [hT9]; rfl) (fun z9 h9 => absurd h9 List.not_mem_nil) (by decide) (by decide) (hB.K.2 _ kw_550 _) hZ9.cast_XE3 hce hcv hcl ?_
  refine lv_astore (lv' := [(4, .ref q9), (0, .ref xb), (1, .int x), (2, .int y), (3, .ref ob)]) hx hb dL_frame_13 hl (by decide) rfl (fun ls hl => ?_)
  refine lv_iconst (v := nI 1) hx hb dL_frame_15 (by decide) ?_
  refine mh_iret hB ⟨Nat.le_of_ble_eq_true rfl, Nat.le_of_ble_eq_true rfl⟩ hS dL_frame_16 ⟨?_, ?_, ?_⟩
  · rfl
  · exact hC
  · exact hO

def rm_w_frame_t2 : Room := { frames := 9, cells := 1, slots := 6, locals := 147 }
set_option maxRecDepth 100000 in
set_option maxHeartbeats 400000 in
theorem w_frame_t2 (l : Launch) (g : GG) (H0 : Heap) (xb : Nat) (lim : Nat) (q : Nat → Int32) (n : Nat) (rm : Nat → Int32) (sl : Nat → Int32) (sv : Nat → Int32) (tx : Nat → Int32) (ln : Nat) (f : Nat) (y : Int32) (ob : Nat) (o : Nat → Int64) (hC : CLS g xb lim q n rm sl sv tx ln H0) (hO : at_ g H0 ob (eL g 1 o)) (hf : f < 3) (hx1 : isIx y 7 = false) (hlo : xb + 68 ≤ ob ∧ ob < lim) (hfl : l.stackTraces = false) : CtW l yL_frame cL_frame 5 (some .int) [(0, 10, 13, 24), (0, 10, 17, 13)] rm_w_frame_t2 g xb [.ref xb, .int (nI f), .int y, .ref ob] H0 (ftA (fun q9 => ((xb ≤ q9 ∧ q9 < xb + 68) ∨ lim ≤ q9) ∨ q9 = ob) H0.size) (fun v H1 => v = some (.int (nI 2)) ∧ CLS g xb lim q n rm sl sv tx ln H1 ∧ at_ g H1 ob (eL g 1 o)) := by
  refine CtW.of (by decide) (fun _ h => Or.inr h) (Nat.le_of_ble_eq_true rfl) ?_
  intro p e s m below meth c ls hB hZ9 hT9 hS hH hl
  have hx := hB.x
  have hb := hB.b
  have hl : lv_has ls 5 [(0, .ref xb), (1, .int (nI f)), (2, .int y), (3, .ref ob)] := hl
  refine lv_aload_n hx hb dL_frame_0 rfl (lv_at hl 3 rfl) ?_
  refine lv_iconst (v := nI 0) hx hb dL_frame_1 (by decide) ?_
  refine lv_aload_n hx hb dL_frame_2 rfl (lv_at hl 0 rfl) ?_
  refine lv_iload_n hx hb dL_frame_3 rfl (lv_at hl 1 rfl) ?_
  refine lv_iload_n hx hb dL_frame_4 rfl (lv_at hl 2 rfl) ?_
  refine mx_runV (C := RX10) (n := 2) (As := [.int (nI f), .int y]) (rest := [.int (nI 0), .ref ob]) rfl kw_597 kw_1 kw_594 kw_595 kw_596 (by decide +kernel) hB hZ9 (fx_X10_frame_t2 l g H0 xb xb lim q n rm sl sv tx ln f y (hC) (hf) (hx1) hfl (by have := hC.lsz; omega)) hC.ob rfl hl.1 (Nat.le_of_ble_eq_true rfl) dL_frame_5 ⟨Nat.le_of_ble_eq_true rfl, Nat.le_of_ble_eq_true rfl⟩ ⟨Nat.le_of_ble_eq_true rfl, Nat.le_of_ble_eq_true rfl⟩ hS (by have hz9 := hS.1; rintro q9 (h9 | h9) <;> first | exact h9.elim | exact Or.inr (by omega) | exact Or.inl (Or.inl h9)) (fun q9 H1 locs1 ce hp9 hfr9 hS hce hcv hcl => ?_)
  have hC := hC.keptX hfr9
  have hO := Fr.keep hfr9 hO (fun y9 => y9.elim)
  generalize H1 = H at hS hC hO hce
  refine vx_widen (k := 1) (n := 6) (Nat.le_of_ble_eq_true rfl) (Nat.le_of_ble_eq_true rfl) ?_
  refine vx_catch (name := XE1) hB.ow [⟨0, 10, 13, 24⟩] ⟨0, 10, 17, 13⟩ [] (by rw [hT9]; rfl) (List.forall_mem_cons.mpr ⟨Or.inr ⟨by decide, XE3, hB.K.2 _ kw_550 _, hZ9.nc_13⟩, fun z9 h9 => absurd h9 List.not_mem_nil⟩) (by decide) (by decide) (hB.K.2 _ kw_434 _) hZ9.cast_XE1 hce hcv hcl ?_
  refine lv_astore (lv' := [(4, .ref q9), (0, .ref xb), (1, .int (nI f)), (2, .int y), (3, .ref ob)]) hx hb dL_frame_17 hl (by decide) rfl (fun ls hl => ?_)
  refine lv_iconst (v := nI 2) hx hb dL_frame_19 (by decide) ?_
  refine mh_iret hB ⟨Nat.le_of_ble_eq_true rfl, Nat.le_of_ble_eq_true rfl⟩ hS dL_frame_20 ⟨?_, ?_, ?_⟩
  · rfl
  · exact hC
  · exact hO

def rm_w_frame_w0 : Room := { frames := 3, cells := 0, slots := 0, locals := 67 }
set_option maxRecDepth 100000 in
set_option maxHeartbeats 400000 in
theorem w_frame_w0 (l : Launch) (g : GG) (H0 : Heap) (xb : Nat) (lim : Nat) (q : Nat → Int32) (n : Nat) (rm : Nat → Int32) (sl : Nat → Int32) (sv : Nat → Int32) (tx : Nat → Int32) (ln : Nat) (f : Nat) (ob : Nat) (o : Nat → Int64) (hC : CLS g xb lim q n rm sl sv tx ln H0) (hO : at_ g H0 ob (eL g 1 o)) (hf : f < 3) (hlo : xb + 68 ≤ ob ∧ ob < lim) (hfl : l.stackTraces = false) : CtW l yL_frame cL_frame 5 (some .int) [(0, 10, 13, 24), (0, 10, 17, 13)] rm_w_frame_w0 g xb [.ref xb, .int (nI f), .int (nI 0), .ref ob] H0 (ftA (fun q9 => ((xb ≤ q9 ∧ q9 < xb + 68) ∨ lim ≤ q9) ∨ q9 = ob) H0.size) (fun v H1 => v = some (.int (nI 0)) ∧ CLS g xb lim q n rm sl sv tx ln H1 ∧ at_ g H1 ob (eL g 1 (vp_updL o 0 ((q (74 + 264 * f + 0)).toInt64)))) := by
  refine CtW.of (by decide) (fun _ h => Or.inr h) (Nat.le_of_ble_eq_true rfl) ?_
  intro p e s m below meth c ls hB hZ9 hT9 hS hH hl
  have hx := hB.x
  have hb := hB.b
  have hl : lv_has ls 5 [(0, .ref xb), (1, .int (nI f)), (2, .int (nI 0)), (3, .ref ob)] := hl
  refine lv_aload_n hx hb dL_frame_0 rfl (lv_at hl 3 rfl) ?_
  refine lv_iconst (v := nI 0) hx hb dL_frame_1 (by decide) ?_
  refine lv_aload_n hx hb dL_frame_2 rfl (lv_at hl 0 rfl) ?_
  refine lv_iload_n hx hb dL_frame_3 rfl (lv_at hl 1 rfl) ?_
  refine lv_iload_n hx hb dL_frame_4 rfl (lv_at hl 2 rfl) ?_
  refine cl_L_29 (As := [.int (nI f), .int (nI 0)]) (rest := [.int (nI 0), .ref ob]) hB (f_X10_frame_0 l g H0 xb lim q n rm sl sv tx ln f (hC) (hf)) hC.ob rfl hl.1 (Nat.le_of_ble_eq_true rfl) dL_frame_5 ⟨Nat.le_of_ble_eq_true rfl, Nat.le_of_ble_eq_true rfl⟩ ⟨Nat.le_of_ble_eq_true rfl, Nat.le_of_ble_eq_true rfl⟩ hS (by have hz9 := hS.1; rintro q (h | h) <;> first | exact Or.inr (by omega) | exact h.elim | exact Or.inl h | (simp only [ftA] at h ⊢; omega)) (fun v H1 locs hpo hfr hS => ?_)
  obtain ⟨rfl, rfl⟩ := hpo
  refine W.widen (k := 0) (n := 0) (Nat.le_of_ble_eq_true rfl) (Nat.le_of_ble_eq_true rfl) ?_
  refine lv_i2l (v := (q (74 + 264 * f + 0)).toInt64) hx hb dL_frame_8 rfl ?_
  refine mn_last hB hO (Or.inl (Or.inr rfl)) hS (by omega) (by omega) dL_frame_9 (fun H locs hwr => ?_)
  obtain ⟨hO, ho, hz, hS⟩ := hwr
  have hC := hC.keptO ho hz (by omega)
  refine lv_goto (tgt := 21) hx hb dL_frame_10 (by decide) ?_
  refine lv_iconst (v := nI 0) hx hb dL_frame_21 (by decide) ?_
  refine mh_iret hB ⟨Nat.le_of_ble_eq_true rfl, Nat.le_of_ble_eq_true rfl⟩ hS dL_frame_22 ⟨?_, ?_, ?_⟩
  · rfl
  · exact hC
  · exact hO

def rm_w_frame_w1 : Room := { frames := 3, cells := 0, slots := 0, locals := 67 }
set_option maxRecDepth 100000 in
set_option maxHeartbeats 400000 in
theorem w_frame_w1 (l : Launch) (g : GG) (H0 : Heap) (xb : Nat) (lim : Nat) (q : Nat → Int32) (n : Nat) (rm : Nat → Int32) (sl : Nat → Int32) (sv : Nat → Int32) (tx : Nat → Int32) (ln : Nat) (f : Nat) (ob : Nat) (o : Nat → Int64) (hC : CLS g xb lim q n rm sl sv tx ln H0) (hO : at_ g H0 ob (eL g 1 o)) (hf : f < 3) (hlo : xb + 68 ≤ ob ∧ ob < lim) (hfl : l.stackTraces = false) : CtW l yL_frame cL_frame 5 (some .int) [(0, 10, 13, 24), (0, 10, 17, 13)] rm_w_frame_w1 g xb [.ref xb, .int (nI f), .int (nI 1), .ref ob] H0 (ftA (fun q9 => ((xb ≤ q9 ∧ q9 < xb + 68) ∨ lim ≤ q9) ∨ q9 = ob) H0.size) (fun v H1 => v = some (.int (nI 0)) ∧ CLS g xb lim q n rm sl sv tx ln H1 ∧ at_ g H1 ob (eL g 1 (vp_updL o 0 ((q (74 + 264 * f + 1)).toInt64)))) := by
  refine CtW.of (by decide) (fun _ h => Or.inr h) (Nat.le_of_ble_eq_true rfl) ?_
  intro p e s m below meth c ls hB hZ9 hT9 hS hH hl
  have hx := hB.x
  have hb := hB.b
  have hl : lv_has ls 5 [(0, .ref xb), (1, .int (nI f)), (2, .int (nI 1)), (3, .ref ob)] := hl
  refine lv_aload_n hx hb dL_frame_0 rfl (lv_at hl 3 rfl) ?_
  refine lv_iconst (v := nI 0) hx hb dL_frame_1 (by decide) ?_
  refine lv_aload_n hx hb dL_frame_2 rfl (lv_at hl 0 rfl) ?_
  refine lv_iload_n hx hb dL_frame_3 rfl (lv_at hl 1 rfl) ?_
  refine lv_iload_n hx hb dL_frame_4 rfl (lv_at hl 2 rfl) ?_
  refine cl_L_29 (As := [.int (nI f), .int (nI 1)]) (rest := [.int (nI 0), .ref ob]) hB (f_X10_frame_1 l g H0 xb lim q n rm sl sv tx ln f (hC) (hf)) hC.ob rfl hl.1 (Nat.le_of_ble_eq_true rfl) dL_frame_5 ⟨Nat.le_of_ble_eq_true rfl, Nat.le_of_ble_eq_true rfl⟩ ⟨Nat.le_of_ble_eq_true rfl, Nat.le_of_ble_eq_true rfl⟩ hS (by have hz9 := hS.1; rintro q (h | h) <;> first | exact Or.inr (by omega) | exact h.elim | exact Or.inl h | (simp only [ftA] at h ⊢; omega)) (fun v H1 locs hpo hfr hS => ?_)
  obtain ⟨rfl, rfl⟩ := hpo
  refine W.widen (k := 0) (n := 0) (Nat.le_of_ble_eq_true rfl) (Nat.le_of_ble_eq_true rfl) ?_
  refine lv_i2l (v := (q (74 + 264 * f + 1)).toInt64) hx hb dL_frame_8 rfl ?_
  refine mn_last hB hO (Or.inl (Or.inr rfl)) hS (by omega) (by omega) dL_frame_9 (fun H locs hwr => ?_)
  obtain ⟨hO, ho, hz, hS⟩ := hwr
  have hC := hC.keptO ho hz (by omega)
  refine lv_goto (tgt := 21) hx hb dL_frame_10 (by decide) ?_
  refine lv_iconst (v := nI 0) hx hb dL_frame_21 (by decide) ?_
  refine mh_iret hB ⟨Nat.le_of_ble_eq_true rfl, Nat.le_of_ble_eq_true rfl⟩ hS dL_frame_22 ⟨?_, ?_, ?_⟩
  · rfl
  · exact hC
  · exact hO

def rm_w_frame_w2 : Room := { frames := 3, cells := 0, slots := 0, locals := 67 }
set_option maxRecDepth 100000 in
set_option maxHeartbeats 400000 in
theorem w_frame_w2 (l : Launch) (g : GG) (H0 : Heap) (xb : Nat) (lim : Nat) (q : Nat → Int32) (n : Nat) (rm : Nat → Int32) (sl : Nat → Int32) (sv : Nat → Int32) (tx : Nat → Int32) (ln : Nat) (f : Nat) (ob : Nat) (o : Nat → Int64) (hC : CLS g xb lim q n rm sl sv tx ln H0) (hO : at_ g H0 ob (eL g 1 o)) (hf : f < 3) (hlo : xb + 68 ≤ ob ∧ ob < lim) (hfl : l.stackTraces = false) : CtW l yL_frame cL_frame 5 (some .int) [(0, 10, 13, 24), (0, 10, 17, 13)] rm_w_frame_w2 g xb [.ref xb, .int (nI f), .int (nI 2), .ref ob] H0 (ftA (fun q9 => ((xb ≤ q9 ∧ q9 < xb + 68) ∨ lim ≤ q9) ∨ q9 = ob) H0.size) (fun v H1 => v = some (.int (nI 0)) ∧ CLS g xb lim q n rm sl sv tx ln H1 ∧ at_ g H1 ob (eL g 1 (vp_updL o 0 ((q (74 + 264 * f + 2)).toInt64)))) := by
  refine CtW.of (by decide) (fun _ h => Or.inr h) (Nat.le_of_ble_eq_true rfl) ?_
  intro p e s m below meth c ls hB hZ9 hT9 hS hH hl
  have hx := hB.x
  have hb := hB.b
  have hl : lv_has ls 5 [(0, .ref xb), (1, .int (nI f)), (2, .int (nI 2)), (3, .ref ob)] := hl
  refine lv_aload_n hx hb dL_frame_0 rfl (lv_at hl 3 rfl) ?_
  refine lv_iconst (v := nI 0) hx hb dL_frame_1 (by decide) ?_
  refine lv_aload_n hx hb dL_frame_2 rfl (lv_at hl 0 rfl) ?_
  refine lv_iload_n hx hb dL_frame_3 rfl (lv_at hl 1 rfl) ?_
  refine lv_iload_n hx hb dL_frame_4 rfl (lv_at hl 2 rfl) ?_
  refine cl_L_29 (As := [.int (nI f), .int (nI 2)]) (rest := [.int (nI 0), .ref ob]) hB (f_X10_frame_2 l g H0 xb lim q n rm sl sv tx ln f (hC) (hf)) hC.ob rfl hl.1 (Nat.le_of_ble_eq_true rfl) dL_frame_5 ⟨Nat.le_of_ble_eq_true rfl, Nat.le_of_ble_eq_true rfl⟩ ⟨Nat.le_of_ble_eq_true rfl, Nat.le_of_ble_eq_true rfl⟩ hS (by have hz9 := hS.1; rintro q (h | h) <;> first | exact Or.inr (by omega) | exact h.elim | exact Or.inl h | (simp only [ftA] at h ⊢; omega)) (fun v H1 locs hpo hfr hS => ?_)
  obtain ⟨rfl, rfl⟩ := hpo
  refine W.widen (k := 0) (n := 0) (Nat.le_of_ble_eq_true rfl) (Nat.le_of_ble_eq_true rfl) ?_
  refine lv_i2l (v := (q (74 + 264 * f + 2)).toInt64) hx hb dL_frame_8 rfl ?_
  refine mn_last hB hO (Or.inl (Or.inr rfl)) hS (by omega) (by omega) dL_frame_9 (fun H locs hwr => ?_)
  obtain ⟨hO, ho, hz, hS⟩ := hwr
  have hC := hC.keptO ho hz (by omega)
  refine lv_goto (tgt := 21) hx hb dL_frame_10 (by decide) ?_
  refine lv_iconst (v := nI 0) hx hb dL_frame_21 (by decide) ?_
  refine mh_iret hB ⟨Nat.le_of_ble_eq_true rfl, Nat.le_of_ble_eq_true rfl⟩ hS dL_frame_22 ⟨?_, ?_, ?_⟩
  · rfl
  · exact hC
  · exact hO

def rm_w_frame_w3 : Room := { frames := 4, cells := 0, slots := 0, locals := 92 }
set_option maxRecDepth 100000 in
set_option maxHeartbeats 400000 in
theorem w_frame_w3 (l : Launch) (g : GG) (H0 : Heap) (xb : Nat) (lim : Nat) (q : Nat → Int32) (n : Nat) (rm : Nat → Int32) (sl : Nat → Int32) (sv : Nat → Int32) (tx : Nat → Int32) (ln : Nat) (f : Nat) (ob : Nat) (o : Nat → Int64) (hC : CLS g xb lim q n rm sl sv tx ln H0) (hO : at_ g H0 ob (eL g 1 o)) (hf : f < 3) (hlo : xb + 68 ≤ ob ∧ ob < lim) (hfl : l.stackTraces = false) : CtW l yL_frame cL_frame 5 (some .int) [(0, 10, 13, 24), (0, 10, 17, 13)] rm_w_frame_w3 g xb [.ref xb, .int (nI f), .int (nI 3), .ref ob] H0 (ftA (fun q9 => ((xb ≤ q9 ∧ q9 < xb + 68) ∨ lim ≤ q9) ∨ q9 = ob) H0.size) (fun v H1 => v = some (.int (nI 0)) ∧ CLS g xb lim q n rm sl sv tx ln H1 ∧ at_ g H1 ob (eL g 1 (vp_updL o 0 ((nI (cntR (fun j9 => decide (0 < cntC q f j9 0 (szF q f))) 0 6)).toInt64)))) := by
  refine CtW.of (by decide) (fun _ h => Or.inr h) (Nat.le_of_ble_eq_true rfl) ?_
  intro p e s m below meth c ls hB hZ9 hT9 hS hH hl
  have hx := hB.x
  have hb := hB.b
  have hl : lv_has ls 5 [(0, .ref xb), (1, .int (nI f)), (2, .int (nI 3)), (3, .ref ob)] := hl
  refine lv_aload_n hx hb dL_frame_0 rfl (lv_at hl 3 rfl) ?_
  refine lv_iconst (v := nI 0) hx hb dL_frame_1 (by decide) ?_
  refine lv_aload_n hx hb dL_frame_2 rfl (lv_at hl 0 rfl) ?_
  refine lv_iload_n hx hb dL_frame_3 rfl (lv_at hl 1 rfl) ?_
  refine lv_iload_n hx hb dL_frame_4 rfl (lv_at hl 2 rfl) ?_
  refine cl_L_29 (As := [.int (nI f), .int (nI 3)]) (rest := [.int (nI 0), .ref ob]) hB (f_X10_frame_3 l g H0 xb lim q n rm sl sv tx ln f (hC) (hf)) hC.ob rfl hl.1 (Nat.le_of_ble_eq_true rfl) dL_frame_5 ⟨Nat.le_of_ble_eq_true rfl, Nat.le_of_ble_eq_true rfl⟩ ⟨Nat.le_of_ble_eq_true rfl, Nat.le_of_ble_eq_true rfl⟩ hS (by have hz9 := hS.1; rintro q (h | h) <;> first | exact Or.inr (by omega) | exact h.elim | exact Or.inl h | (simp only [ftA] at h ⊢; omega)) (fun v H1 locs hpo hfr hS => ?_)
  obtain ⟨rfl, rfl⟩ := hpo
  refine W.widen (k := 0) (n := 0) (Nat.le_of_ble_eq_true rfl) (Nat.le_of_ble_eq_true rfl) ?_
  refine lv_i2l (v := (nI (cntR (fun j9 => decide (0 < cntC q f j9 0 (szF q f))) 0 6)).toInt64) hx hb dL_frame_8 rfl ?_
  refine mn_last hB hO (Or.inl (Or.inr rfl)) hS (by omega) (by omega) dL_frame_9 (fun H locs hwr => ?_)
  obtain ⟨hO, ho, hz, hS⟩ := hwr
  have hC := hC.keptO ho hz (by omega)
  refine lv_goto (tgt := 21) hx hb dL_frame_10 (by decide) ?_
  refine lv_iconst (v := nI 0) hx hb dL_frame_21 (by decide) ?_
  refine mh_iret hB ⟨Nat.le_of_ble_eq_true rfl, Nat.le_of_ble_eq_true rfl⟩ hS dL_frame_22 ⟨?_, ?_, ?_⟩
  · rfl
  · exact hC
  · exact hO

def rm_w_frame_w4 : Room := { frames := 5, cells := 0, slots := 0, locals := 115 }
set_option maxRecDepth 100000 in
set_option maxHeartbeats 400000 in
theorem w_frame_w4 (l : Launch) (g : GG) (H0 : Heap) (xb : Nat) (lim : Nat) (q : Nat → Int32) (n : Nat) (rm : Nat → Int32) (sl : Nat → Int32) (sv : Nat → Int32) (tx : Nat → Int32) (ln : Nat) (f : Nat) (ob : Nat) (o : Nat → Int64) (hC : CLS g xb lim q n rm sl sv tx ln H0) (hO : at_ g H0 ob (eL g 1 o)) (hf : f < 3) (hlo : xb + 68 ≤ ob ∧ ob < lim) (hfl : l.stackTraces = false) : CtW l yL_frame cL_frame 5 (some .int) [(0, 10, 13, 24), (0, 10, 17, 13)] rm_w_frame_w4 g xb [.ref xb, .int (nI f), .int (nI 4), .ref ob] H0 (ftA (fun q9 => ((xb ≤ q9 ∧ q9 < xb + 68) ∨ lim ≤ q9) ∨ q9 = ob) H0.size) (fun v H1 => v = some (.int (nI 0)) ∧ CLS g xb lim q n rm sl sv tx ln H1 ∧ at_ g H1 ob (eL g 1 (vp_updL o 0 ((nI (seamN (wdF q f) (szF q f) (clF q f) (szF q f))).toInt64)))) := by
  refine CtW.of (by decide) (fun _ h => Or.inr h) (Nat.le_of_ble_eq_true rfl) ?_
  intro p e s m below meth c ls hB hZ9 hT9 hS hH hl
  have hx := hB.x
  have hb := hB.b
  have hl : lv_has ls 5 [(0, .ref xb), (1, .int (nI f)), (2, .int (nI 4)), (3, .ref ob)] := hl
  refine lv_aload_n hx hb dL_frame_0 rfl (lv_at hl 3 rfl) ?_
  refine lv_iconst (v := nI 0) hx hb dL_frame_1 (by decide) ?_
  refine lv_aload_n hx hb dL_frame_2 rfl (lv_at hl 0 rfl) ?_
  refine lv_iload_n hx hb dL_frame_3 rfl (lv_at hl 1 rfl) ?_
  refine lv_iload_n hx hb dL_frame_4 rfl (lv_at hl 2 rfl) ?_
  refine cl_L_29 (As := [.int (nI f), .int (nI 4)]) (rest := [.int (nI 0), .ref ob]) hB (f_X10_frame_4 l g H0 xb lim q n rm sl sv tx ln f (hC) (hf)) hC.ob rfl hl.1 (Nat.le_of_ble_eq_true rfl) dL_frame_5 ⟨Nat.le_of_ble_eq_true rfl, Nat.le_of_ble_eq_true rfl⟩ ⟨Nat.le_of_ble_eq_true rfl, Nat.le_of_ble_eq_true rfl⟩ hS (by have hz9 := hS.1; rintro q (h | h) <;> first | exact Or.inr (by omega) | exact h.elim | exact Or.inl h | (simp only [ftA] at h ⊢; omega)) (fun v H1 locs hpo hfr hS => ?_)
  obtain ⟨rfl, rfl⟩ := hpo
  refine W.widen (k := 0) (n := 0) (Nat.le_of_ble_eq_true rfl) (Nat.le_of_ble_eq_true rfl) ?_
  refine lv_i2l (v := (nI (seamN (wdF q f) (szF q f) (clF q f) (szF q f))).toInt64) hx hb dL_frame_8 rfl ?_
  refine mn_last hB hO (Or.inl (Or.inr rfl)) hS (by omega) (by omega) dL_frame_9 (fun H locs hwr => ?_)
  obtain ⟨hO, ho, hz, hS⟩ := hwr
  have hC := hC.keptO ho hz (by omega)
  refine lv_goto (tgt := 21) hx hb dL_frame_10 (by decide) ?_
  refine lv_iconst (v := nI 0) hx hb dL_frame_21 (by decide) ?_
  refine mh_iret hB ⟨Nat.le_of_ble_eq_true rfl, Nat.le_of_ble_eq_true rfl⟩ hS dL_frame_22 ⟨?_, ?_, ?_⟩
  · rfl
  · exact hC
  · exact hO

def rm_w_frame_w5 : Room := { frames := 6, cells := 0, slots := 0, locals := 142 }
set_option maxRecDepth 100000 in
set_option maxHeartbeats 400000 in
theorem w_frame_w5 (l : Launch) (g : GG) (H0 : Heap) (xb : Nat) (lim : Nat) (q : Nat → Int32) (n : Nat) (rm : Nat → Int32) (sl : Nat → Int32) (sv : Nat → Int32) (tx : Nat → Int32) (ln : Nat) (f : Nat) (ob : Nat) (o : Nat → Int64) (hC : CLS g xb lim q n rm sl sv tx ln H0) (hO : at_ g H0 ob (eL g 1 o)) (hf : f < 3) (hlo : xb + 68 ≤ ob ∧ ob < lim) (hfl : l.stackTraces = false) : CtW l yL_frame cL_frame 5 (some .int) [(0, 10, 13, 24), (0, 10, 17, 13)] rm_w_frame_w5 g xb [.ref xb, .int (nI f), .int (nI 5), .ref ob] H0 (ftA (fun q9 => ((xb ≤ q9 ∧ q9 < xb + 68) ∨ lim ≤ q9) ∨ q9 = ob) H0.size) (fun v H1 => v = some (.int (nI 0)) ∧ CLS g xb lim q n rm sl sv tx ln H1 ∧ at_ g H1 ob (eL g 1 (vp_updL o 0 ((nI (pcN (labC (wdF q f) (szF q f) (clF q f)) (szF q f) (szF q f))).toInt64)))) := by
  refine CtW.of (by decide) (fun _ h => Or.inr h) (Nat.le_of_ble_eq_true rfl) ?_
  intro p e s m below meth c ls hB hZ9 hT9 hS hH hl
  have hx := hB.x
  have hb := hB.b
  have hl : lv_has ls 5 [(0, .ref xb), (1, .int (nI f)), (2, .int (nI 5)), (3, .ref ob)] := hl
  refine lv_aload_n hx hb dL_frame_0 rfl (lv_at hl 3 rfl) ?_
  refine lv_iconst (v := nI 0) hx hb dL_frame_1 (by decide) ?_
  refine lv_aload_n hx hb dL_frame_2 rfl (lv_at hl 0 rfl) ?_
  refine lv_iload_n hx hb dL_frame_3 rfl (lv_at hl 1 rfl) ?_
  refine lv_iload_n hx hb dL_frame_4 rfl (lv_at hl 2 rfl) ?_
  refine cl_L_29 (As := [.int (nI f), .int (nI 5)]) (rest := [.int (nI 0), .ref ob]) hB (f_X10_frame_5 l g H0 xb lim q n rm sl sv tx ln f (hC) (hf)) hC.ob rfl hl.1 (Nat.le_of_ble_eq_true rfl) dL_frame_5 ⟨Nat.le_of_ble_eq_true rfl, Nat.le_of_ble_eq_true rfl⟩ ⟨Nat.le_of_ble_eq_true rfl, Nat.le_of_ble_eq_true rfl⟩ hS (by have hz9 := hS.1; rintro q9 (h9 | h9); exact Or.inl (Or.inl h9); exact Or.inr (by omega)) (fun v H1 locs hpo hfr hS => ?_)
  obtain ⟨rfl, hC⟩ := hpo
  have hO := Fr.keep hfr hO (fun y9 => by have y8 : (xb ≤ ob ∧ ob < xb + 68) ∨ lim ≤ ob := y9; omega)
  generalize H1 = H at hfr hS hO hC ⊢
  refine W.widen (k := 0) (n := 0) (Nat.le_of_ble_eq_true rfl) (Nat.le_of_ble_eq_true rfl) ?_
  refine lv_i2l (v := (nI (pcN (labC (wdF q f) (szF q f) (clF q f)) (szF q f) (szF q f))).toInt64) hx hb dL_frame_8 rfl ?_
  refine mn_last hB hO (Or.inl (Or.inr rfl)) hS (by omega) (by omega) dL_frame_9 (fun H locs hwr => ?_)
  obtain ⟨hO, ho, hz, hS⟩ := hwr
  have hC := hC.keptO ho hz (by omega)
  refine lv_goto (tgt := 21) hx hb dL_frame_10 (by decide) ?_
  refine lv_iconst (v := nI 0) hx hb dL_frame_21 (by decide) ?_
  refine mh_iret hB ⟨Nat.le_of_ble_eq_true rfl, Nat.le_of_ble_eq_true rfl⟩ hS dL_frame_22 ⟨?_, ?_, ?_⟩
  · rfl
  · exact hC
  · exact hO

def rm_w_frame_w6 : Room := { frames := 6, cells := 0, slots := 0, locals := 142 }
set_option maxRecDepth 100000 in
set_option maxHeartbeats 400000 in
theorem w_frame_w6 (l : Launch) (g : GG) (H0 : Heap) (xb : Nat) (lim : Nat) (q : Nat → Int32) (n : Nat) (rm : Nat → Int32) (sl : Nat → Int32) (sv : Nat → Int32) (tx : Nat → Int32) (ln : Nat) (f : Nat) (ob : Nat) (o : Nat → Int64) (hC : CLS g xb lim q n rm sl sv tx ln H0) (hO : at_ g H0 ob (eL g 1 o)) (hf : f < 3) (hlo : xb + 68 ≤ ob ∧ ob < lim) (hfl : l.stackTraces = false) : CtW l yL_frame cL_frame 5 (some .int) [(0, 10, 13, 24), (0, 10, 17, 13)] rm_w_frame_w6 g xb [.ref xb, .int (nI f), .int (nI 6), .ref ob] H0 (ftA (fun q9 => ((xb ≤ q9 ∧ q9 < xb + 68) ∨ lim ≤ q9) ∨ q9 = ob) H0.size) (fun v H1 => v = some (.int (nI 0)) ∧ CLS g xb lim q n rm sl sv tx ln H1 ∧ at_ g H1 ob (eL g 1 (vp_updL o 0 ((nI (grN (labC (wdF q f) (szF q f) (clF q f)) (szF q f) (szF q f))).toInt64)))) := by
  refine CtW.of (by decide) (fun _ h => Or.inr h) (Nat.le_of_ble_eq_true rfl) ?_
  intro p e s m below meth c ls hB hZ9 hT9 hS hH hl
  have hx := hB.x
  have hb := hB.b
  have hl : lv_has ls 5 [(0, .ref xb), (1, .int (nI f)), (2, .int (nI 6)), (3, .ref ob)] := hl
  refine lv_aload_n hx hb dL_frame_0 rfl (lv_at hl 3 rfl) ?_
  refine lv_iconst (v := nI 0) hx hb dL_frame_1 (by decide) ?_
  refine lv_aload_n hx hb dL_frame_2 rfl (lv_at hl 0 rfl) ?_
  refine lv_iload_n hx hb dL_frame_3 rfl (lv_at hl 1 rfl) ?_
  refine lv_iload_n hx hb dL_frame_4 rfl (lv_at hl 2 rfl) ?_
  refine cl_L_29 (As := [.int (nI f), .int (nI 6)]) (rest := [.int (nI 0), .ref ob]) hB (f_X10_frame_6 l g H0 xb lim q n rm sl sv tx ln f (hC) (hf)) hC.ob rfl hl.1 (Nat.le_of_ble_eq_true rfl) dL_frame_5 ⟨Nat.le_of_ble_eq_true rfl, Nat.le_of_ble_eq_true rfl⟩ ⟨Nat.le_of_ble_eq_true rfl, Nat.le_of_ble_eq_true rfl⟩ hS (by have hz9 := hS.1; rintro q9 (h9 | h9); exact Or.inl (Or.inl h9); exact Or.inr (by omega)) (fun v H1 locs hpo hfr hS => ?_)
  obtain ⟨rfl, hC⟩ := hpo
  have hO := Fr.keep hfr hO (fun y9 => by have y8 : (xb ≤ ob ∧ ob < xb + 68) ∨ lim ≤ ob := y9; omega)
  generalize H1 = H at hfr hS hO hC ⊢
  refine W.widen (k := 0) (n := 0) (Nat.le_of_ble_eq_true rfl) (Nat.le_of_ble_eq_true rfl) ?_
  refine lv_i2l (v := (nI (grN (labC (wdF q f) (szF q f) (clF q f)) (szF q f) (szF q f))).toInt64) hx hb dL_frame_8 rfl ?_
  refine mn_last hB hO (Or.inl (Or.inr rfl)) hS (by omega) (by omega) dL_frame_9 (fun H locs hwr => ?_)
  obtain ⟨hO, ho, hz, hS⟩ := hwr
  have hC := hC.keptO ho hz (by omega)
  refine lv_goto (tgt := 21) hx hb dL_frame_10 (by decide) ?_
  refine lv_iconst (v := nI 0) hx hb dL_frame_21 (by decide) ?_
  refine mh_iret hB ⟨Nat.le_of_ble_eq_true rfl, Nat.le_of_ble_eq_true rfl⟩ hS dL_frame_22 ⟨?_, ?_, ?_⟩
  · rfl
  · exact hC
  · exact hO

def rm_w_patch_t1 : Room := { frames := 8, cells := 1, slots := 6, locals := 128 }
set_option maxRecDepth 100000 in
set_option maxHeartbeats 400000 in
theorem w_patch_t1 (l : Launch) (g : GG) (H0 : Heap) (xb : Nat) (lim : Nat) (q : Nat → Int32) (n : Nat) (rm : Nat → Int32) (sl : Nat → Int32) (sv : Nat → Int32) (tx : Nat → Int32) (ln : Nat) (x : Int32) (y : Int32) (z : Int32) (ob : Nat) (o : Nat → Int64) (hC : CLS g xb lim q n rm sl sv tx ln H0) (hO : at_ g H0 ob (eL g 1 o)) (hx1 : isIx x 3 = false) (hlo : xb + 68 ≤ ob ∧ ob < lim) (hfl : l.stackTraces = false) : CtW l yL_patch cL_patch 6 (some .int) [(0, 12, 15, 24), (0, 12, 19, 13)] rm_w_patch_t1 g xb [.ref xb, .int x, .int y, .int z, .ref ob] H0 (ftA (fun q9 => ((xb ≤ q9 ∧ q9 < xb + 68) ∨ lim ≤ q9) ∨ q9 = ob) H0.size) (fun v H1 => v = some (.int (nI 1)) ∧ CLS g xb lim q n rm sl sv tx ln H1 ∧ at_ g H1 ob (eL g 1 o)) := by
  refine CtW.of (by decide) (fun _ h => Or.inr h) (Nat.le_of_ble_eq_true rfl) ?_
  intro p e s m below meth c ls hB hZ9 hT9 hS hH hl
  have hx := hB.x
  have hb := hB.b
  have hl : lv_has ls 6 [(0, .ref xb), (1, .int x), (2, .int y), (3, .int z), (4, .ref ob)] := hl
  refine lv_aload hx hb dL_patch_0 (lv_at hl 4 rfl) ?_
  refine lv_iconst (v := nI 0) hx hb dL_patch_2 (by decide) ?_
  refine lv_aload_n hx hb dL_patch_3 rfl (lv_at hl 0 rfl) ?_
  refine lv_iload_n hx hb dL_patch_4 rfl (lv_at hl 1 rfl) ?_
  refine lv_iload_n hx hb dL_patch_5 rfl (lv_at hl 2 rfl) ?_
  refine lv_iload_n hx hb dL_patch_6 rfl (lv_at hl 3 rfl) ?_
  refine mx_runV (C := RX10) (n := 3) (As := [.int x, .int y, .int z]) (rest := [.int (nI 0), .ref ob]) rfl kw_653 kw_1 kw_650 kw_651 kw_652 (by decide +kernel) hB hZ9 (fx_X10_patch_t1 l g H0 xb xb lim q n rm sl sv tx ln x y z (hC) (hx1) hfl (by have := hC.lsz; omega)) hC.ob rfl hl.1 (Nat.le_of_ble_eq_true rfl) dL_patch_7 ⟨Nat.le_of_ble_eq_true rfl, Nat.le_of_ble_eq_true rfl⟩ ⟨Nat.le_of_ble_eq_true rfl, Nat.le_of_ble_eq_true rfl⟩ hS (by have hz9 := hS.1; rintro q9 (h9 | h9) <;> first | exact h9.elim | exact Or.inr (by omega) | exact Or.inl (Or.inl h9)) (fun q9 H1 locs1 ce hp9 hfr9 hS hce hcv hcl => ?_)
  have hC := hC.keptX hfr9
  have hO := Fr.keep hfr9 hO (fun y9 => y9.elim)
  generalize H1 = H at hS hC hO hce
  refine vx_widen (k := 1) (n := 6) (Nat.le_of_ble_eq_true rfl) (Nat.le_of_ble_eq_true rfl) ?_
  refine vx_catch (name := XE3) hB.ow [] ⟨0, 12, 15, 24⟩ [⟨0, 12, 19, 13⟩] (by rw [hT9]; rfl) (fun z9 h9 => absurd h9 List.not_mem_nil) (by decide) (by decide) (hB.K.2 _ kw_550 _) hZ9.cast_XE3 hce hcv hcl ?_
  refine lv_astore (lv' := [(5, .ref q9), (0, .ref xb), (1, .int x), (2, .int y), (3, .int z), (4, .ref ob)]) hx hb dL_patch_15 hl (by decide) rfl (fun ls hl => ?_)
  refine lv_iconst (v := nI 1) hx hb dL_patch_17 (by decide) ?_
  refine mh_iret hB ⟨Nat.le_of_ble_eq_true rfl, Nat.le_of_ble_eq_true rfl⟩ hS dL_patch_18 ⟨?_, ?_, ?_⟩
  · rfl
  · exact hC
  · exact hO

def rm_w_patch_t2 : Room := { frames := 8, cells := 1, slots := 6, locals := 126 }
set_option maxRecDepth 100000 in
set_option maxHeartbeats 400000 in
theorem w_patch_t2 (l : Launch) (g : GG) (H0 : Heap) (xb : Nat) (lim : Nat) (q : Nat → Int32) (n : Nat) (rm : Nat → Int32) (sl : Nat → Int32) (sv : Nat → Int32) (tx : Nat → Int32) (ln : Nat) (f : Nat) (y : Int32) (z : Int32) (ob : Nat) (o : Nat → Int64) (hC : CLS g xb lim q n rm sl sv tx ln H0) (hO : at_ g H0 ob (eL g 1 o)) (hf : f < 3) (hx1 : y < 0 ∨ z < 0) (hlo : xb + 68 ≤ ob ∧ ob < lim) (hfl : l.stackTraces = false) : CtW l yL_patch cL_patch 6 (some .int) [(0, 12, 15, 24), (0, 12, 19, 13)] rm_w_patch_t2 g xb [.ref xb, .int (nI f), .int y, .int z, .ref ob] H0 (ftA (fun q9 => ((xb ≤ q9 ∧ q9 < xb + 68) ∨ lim ≤ q9) ∨ q9 = ob) H0.size) (fun v H1 => v = some (.int (nI 2)) ∧ CLS g xb lim q n rm sl sv tx ln H1 ∧ at_ g H1 ob (eL g 1 o)) := by
  refine CtW.of (by decide) (fun _ h => Or.inr h) (Nat.le_of_ble_eq_true rfl) ?_
  intro p e s m below meth c ls hB hZ9 hT9 hS hH hl
  have hx := hB.x
  have hb := hB.b
  have hl : lv_has ls 6 [(0, .ref xb), (1, .int (nI f)), (2, .int y), (3, .int z), (4, .ref ob)] := hl
  refine lv_aload hx hb dL_patch_0 (lv_at hl 4 rfl) ?_
  refine lv_iconst (v := nI 0) hx hb dL_patch_2 (by decide) ?_
  refine lv_aload_n hx hb dL_patch_3 rfl (lv_at hl 0 rfl) ?_
  refine lv_iload_n hx hb dL_patch_4 rfl (lv_at hl 1 rfl) ?_
  refine lv_iload_n hx hb dL_patch_5 rfl (lv_at hl 2 rfl) ?_
  refine lv_iload_n hx hb dL_patch_6 rfl (lv_at hl 3 rfl) ?_
  refine mx_runV (C := RX10) (n := 3) (As := [.int (nI f), .int y, .int z]) (rest := [.int (nI 0), .ref ob]) rfl kw_653 kw_1 kw_650 kw_651 kw_652 (by decide +kernel) hB hZ9 (fx_X10_patch_t2 l g H0 xb xb lim q n rm sl sv tx ln f y z (hC) (hf) (hx1) hfl (by have := hC.lsz; omega)) hC.ob rfl hl.1 (Nat.le_of_ble_eq_true rfl) dL_patch_7 ⟨Nat.le_of_ble_eq_true rfl, Nat.le_of_ble_eq_true rfl⟩ ⟨Nat.le_of_ble_eq_true rfl, Nat.le_of_ble_eq_true rfl⟩ hS (by have hz9 := hS.1; rintro q9 (h9 | h9) <;> first | exact h9.elim | exact Or.inr (by omega) | exact Or.inl (Or.inl h9)) (fun q9 H1 locs1 ce hp9 hfr9 hS hce hcv hcl => ?_)
  have hC := hC.keptX hfr9
  have hO := Fr.keep hfr9 hO (fun y9 => y9.elim)
  generalize H1 = H at hS hC hO hce
  refine vx_widen (k := 1) (n := 6) (Nat.le_of_ble_eq_true rfl) (Nat.le_of_ble_eq_true rfl) ?_
  refine vx_catch (name := XE1) hB.ow [⟨0, 12, 15, 24⟩] ⟨0, 12, 19, 13⟩ [] (by rw [hT9]; rfl) (List.forall_mem_cons.mpr ⟨Or.inr ⟨by decide, XE3, hB.K.2 _ kw_550 _, hZ9.nc_13⟩, fun z9 h9 => absurd h9 List.not_mem_nil⟩) (by decide) (by decide) (hB.K.2 _ kw_434 _) hZ9.cast_XE1 hce hcv hcl ?_
  refine lv_astore (lv' := [(5, .ref q9), (0, .ref xb), (1, .int (nI f)), (2, .int y), (3, .int z), (4, .ref ob)]) hx hb dL_patch_19 hl (by decide) rfl (fun ls hl => ?_)
  refine lv_iconst (v := nI 2) hx hb dL_patch_21 (by decide) ?_
  refine mh_iret hB ⟨Nat.le_of_ble_eq_true rfl, Nat.le_of_ble_eq_true rfl⟩ hS dL_patch_22 ⟨?_, ?_, ?_⟩
  · rfl
  · exact hC
  · exact hO

def rm_w_patch_ok : Room := { frames := 3, cells := 0, slots := 0, locals := 68 }
set_option maxRecDepth 100000 in
set_option maxHeartbeats 400000 in
theorem w_patch_ok (l : Launch) (g : GG) (H0 : Heap) (xb : Nat) (lim : Nat) (q : Nat → Int32) (n : Nat) (rm : Nat → Int32) (sl : Nat → Int32) (sv : Nat → Int32) (tx : Nat → Int32) (ln : Nat) (f : Nat) (a : Nat) (b : Nat) (ob : Nat) (o : Nat → Int64) (hC : CLS g xb lim q n rm sl sv tx ln H0) (hO : at_ g H0 ob (eL g 1 o)) (hf : f < 3) (ha : a < 2147483648) (hb8 : b < 2147483648) (hlo : xb + 68 ≤ ob ∧ ob < lim) (hfl : l.stackTraces = false) : CtW l yL_patch cL_patch 6 (some .int) [(0, 12, 15, 24), (0, 12, 19, 13)] rm_w_patch_ok g xb [.ref xb, .int (nI f), .int (nI a), .int (nI b), .ref ob] H0 (ftA (fun q9 => ((xb ≤ q9 ∧ q9 < xb + 68) ∨ lim ≤ q9) ∨ q9 = ob) H0.size) (fun v H1 => v = some (.int (nI 0)) ∧ CLS g xb lim q n rm sl sv tx ln H1 ∧ at_ g H1 ob (eL g 1 (vp_updL o 0 ((patV q f a b).toInt64)))) := by
  refine CtW.of (by decide) (fun _ h => Or.inr h) (Nat.le_of_ble_eq_true rfl) ?_
  intro p e s m below meth c ls hB hZ9 hT9 hS hH hl
  have hx := hB.x
  have hb := hB.b
  have hl : lv_has ls 6 [(0, .ref xb), (1, .int (nI f)), (2, .int (nI a)), (3, .int (nI b)), (4, .ref ob)] := hl
  refine lv_aload hx hb dL_patch_0 (lv_at hl 4 rfl) ?_
  refine lv_iconst (v := nI 0) hx hb dL_patch_2 (by decide) ?_
  refine lv_aload_n hx hb dL_patch_3 rfl (lv_at hl 0 rfl) ?_
  refine lv_iload_n hx hb dL_patch_4 rfl (lv_at hl 1 rfl) ?_
  refine lv_iload_n hx hb dL_patch_5 rfl (lv_at hl 2 rfl) ?_
  refine lv_iload_n hx hb dL_patch_6 rfl (lv_at hl 3 rfl) ?_
  refine cl_L_32 (As := [.int (nI f), .int (nI a), .int (nI b)]) (rest := [.int (nI 0), .ref ob]) hB (f_X10_patch l g H0 xb lim q n rm sl sv tx ln f a b (hC) (hf) (ha) (hb8)) hC.ob rfl hl.1 (Nat.le_of_ble_eq_true rfl) dL_patch_7 ⟨Nat.le_of_ble_eq_true rfl, Nat.le_of_ble_eq_true rfl⟩ ⟨Nat.le_of_ble_eq_true rfl, Nat.le_of_ble_eq_true rfl⟩ hS (by have hz9 := hS.1; rintro q (h | h) <;> first | exact Or.inr (by omega) | exact h.elim | exact Or.inl h | (simp only [ftA] at h ⊢; omega)) (fun v H1 locs hpo hfr hS => ?_)
  obtain ⟨rfl, rfl⟩ := hpo
  refine W.widen (k := 0) (n := 0) (Nat.le_of_ble_eq_true rfl) (Nat.le_of_ble_eq_true rfl) ?_
  refine lv_i2l (v := (patV q f a b).toInt64) hx hb dL_patch_10 rfl ?_
  refine mn_last hB hO (Or.inl (Or.inr rfl)) hS (by omega) (by omega) dL_patch_11 (fun H locs hwr => ?_)
  obtain ⟨hO, ho, hz, hS⟩ := hwr
  have hC := hC.keptO ho hz (by omega)
  refine lv_goto (tgt := 23) hx hb dL_patch_12 (by decide) ?_
  refine lv_iconst (v := nI 0) hx hb dL_patch_23 (by decide) ?_
  refine mh_iret hB ⟨Nat.le_of_ble_eq_true rfl, Nat.le_of_ble_eq_true rfl⟩ hS dL_patch_24 ⟨?_, ?_, ?_⟩
  · rfl
  · exact hC
  · exact hO

def rm_w_count_t1_0 : Room := { frames := 8, cells := 1, slots := 6, locals := 127 }
set_option maxRecDepth 100000 in
set_option maxHeartbeats 400000 in
theorem w_count_t1_0 (l : Launch) (g : GG) (H0 : Heap) (xb : Nat) (lim : Nat) (q : Nat → Int32) (n : Nat) (rm : Nat → Int32) (sl : Nat → Int32) (sv : Nat → Int32) (tx : Nat → Int32) (ln : Nat) (x : Int32) (y : Int32) (z : Int32) (ob : Nat) (o : Nat → Int64) (hC : CLS g xb lim q n rm sl sv tx ln H0) (hO : at_ g H0 ob (eL g 1 o)) (hx1 : isIx x 3 = false) (hlo : xb + 68 ≤ ob ∧ ob < lim) (hfl : l.stackTraces = false) : CtW l yL_count cL_count 6 (some .int) [(0, 12, 15, 24)] rm_w_count_t1_0 g xb [.ref xb, .int x, .int y, .int z, .ref ob] H0 (ftA (fun q9 => ((xb ≤ q9 ∧ q9 < xb + 68) ∨ lim ≤ q9) ∨ q9 = ob) H0.size) (fun v H1 => v = some (.int (nI 1)) ∧ CLS g xb lim q n rm sl sv tx ln H1 ∧ at_ g H1 ob (eL g 1 o)) := by
  refine CtW.of (by decide) (fun _ h => Or.inr h) (Nat.le_of_ble_eq_true rfl) ?_
  intro p e s m below meth c ls hB hZ9 hT9 hS hH hl
  have hx := hB.x
  have hb := hB.b
  have hl : lv_has ls 6 [(0, .ref xb), (1, .int x), (2, .int y), (3, .int z), (4, .ref ob)] := hl
  refine lv_aload hx hb dL_count_0 (lv_at hl 4 rfl) ?_
  refine lv_iconst (v := nI 0) hx hb dL_count_2 (by decide) ?_
  refine lv_aload_n hx hb dL_count_3 rfl (lv_at hl 0 rfl) ?_
  refine lv_iload_n hx hb dL_count_4 rfl (lv_at hl 1 rfl) ?_
  refine lv_iload_n hx hb dL_count_5 rfl (lv_at hl 2 rfl) ?_
  refine lv_iload_n hx hb dL_count_6 rfl (lv_at hl 3 rfl) ?_
  refine mx_runV (C := RX10) (n := 3) (As := [.int x, .int y, .int z]) (rest := [.int (nI 0), .ref ob]) rfl kw_661 kw_1 kw_658 kw_659 kw_660 (by decide +kernel) hB hZ9 (fx_X10_count_t1 l g H0 xb xb lim q n rm sl sv tx ln x y z (hC) (hx1) hfl (by have := hC.lsz; omega)) hC.ob rfl hl.1 (Nat.le_of_ble_eq_true rfl) dL_count_7 ⟨Nat.le_of_ble_eq_true rfl, Nat.le_of_ble_eq_true rfl⟩ ⟨Nat.le_of_ble_eq_true rfl, Nat.le_of_ble_eq_true rfl⟩ hS (by have hz9 := hS.1; rintro q9 (h9 | h9) <;> first | exact h9.elim | exact Or.inr (by omega) | exact Or.inl (Or.inl h9)) (fun q9 H1 locs1 ce hp9 hfr9 hS hce hcv hcl => ?_)
  have hC := hC.keptX hfr9
  have hO := Fr.keep hfr9 hO (fun y9 => y9.elim)
  generalize H1 = H at hS hC hO hce
  refine vx_widen (k := 1) (n := 6) (Nat.le_of_ble_eq_true rfl) (Nat.le_of_ble_eq_true rfl) ?_
  refine vx_catch (name := XE3) hB.ow [] ⟨0, 12, 15, 24⟩ [] (by rw [hT9]; rfl) (fun z9 h9 => absurd h9 List.not_mem_nil) (by decide) (by decide) (hB.K.2 _ kw_550 _) hZ9.cast_XE3 hce hcv hcl ?_
  refine lv_astore (lv' := [(5, .ref q9), (0, .ref xb), (1, .int x), (2, .int y), (3, .int z), (4, .ref ob)]) hx hb dL_count_15 hl (by decide) rfl (fun ls hl => ?_)
  refine lv_iconst (v := nI 1) hx hb dL_count_17 (by decide) ?_
  refine mh_iret hB ⟨Nat.le_of_ble_eq_true rfl, Nat.le_of_ble_eq_true rfl⟩ hS dL_count_18 ⟨?_, ?_, ?_⟩
  · rfl
  · exact hC
  · exact hO

def rm_w_count_t1b_0 : Room := { frames := 8, cells := 1, slots := 6, locals := 127 }
set_option maxRecDepth 100000 in
set_option maxHeartbeats 400000 in
theorem w_count_t1b_0 (l : Launch) (g : GG) (H0 : Heap) (xb : Nat) (lim : Nat) (q : Nat → Int32) (n : Nat) (rm : Nat → Int32) (sl : Nat → Int32) (sv : Nat → Int32) (tx : Nat → Int32) (ln : Nat) (f : Nat) (y : Int32) (z : Int32) (ob : Nat) (o : Nat → Int64) (hC : CLS g xb lim q n rm sl sv tx ln H0) (hO : at_ g H0 ob (eL g 1 o)) (hf : f < 3) (hx1 : isIx y 6 = false) (hlo : xb + 68 ≤ ob ∧ ob < lim) (hfl : l.stackTraces = false) : CtW l yL_count cL_count 6 (some .int) [(0, 12, 15, 24)] rm_w_count_t1b_0 g xb [.ref xb, .int (nI f), .int y, .int z, .ref ob] H0 (ftA (fun q9 => ((xb ≤ q9 ∧ q9 < xb + 68) ∨ lim ≤ q9) ∨ q9 = ob) H0.size) (fun v H1 => v = some (.int (nI 1)) ∧ CLS g xb lim q n rm sl sv tx ln H1 ∧ at_ g H1 ob (eL g 1 o)) := by
  refine CtW.of (by decide) (fun _ h => Or.inr h) (Nat.le_of_ble_eq_true rfl) ?_
  intro p e s m below meth c ls hB hZ9 hT9 hS hH hl
  have hx := hB.x
  have hb := hB.b
  have hl : lv_has ls 6 [(0, .ref xb), (1, .int (nI f)), (2, .int y), (3, .int z), (4, .ref ob)] := hl
  refine lv_aload hx hb dL_count_0 (lv_at hl 4 rfl) ?_
  refine lv_iconst (v := nI 0) hx hb dL_count_2 (by decide) ?_
  refine lv_aload_n hx hb dL_count_3 rfl (lv_at hl 0 rfl) ?_
  refine lv_iload_n hx hb dL_count_4 rfl (lv_at hl 1 rfl) ?_
  refine lv_iload_n hx hb dL_count_5 rfl (lv_at hl 2 rfl) ?_
  refine lv_iload_n hx hb dL_count_6 rfl (lv_at hl 3 rfl) ?_
  refine mx_runV (C := RX10) (n := 3) (As := [.int (nI f), .int y, .int z]) (rest := [.int (nI 0), .ref ob]) rfl kw_661 kw_1 kw_658 kw_659 kw_660 (by decide +kernel) hB hZ9 (fx_X10_count_t1b l g H0 xb xb lim q n rm sl sv tx ln f y z (hC) (hf) (hx1) hfl (by have := hC.lsz; omega)) hC.ob rfl hl.1 (Nat.le_of_ble_eq_true rfl) dL_count_7 ⟨Nat.le_of_ble_eq_true rfl, Nat.le_of_ble_eq_true rfl⟩ ⟨Nat.le_of_ble_eq_true rfl, Nat.le_of_ble_eq_true rfl⟩ hS (by have hz9 := hS.1; rintro q9 (h9 | h9) <;> first | exact h9.elim | exact Or.inr (by omega) | exact Or.inl (Or.inl h9)) (fun q9 H1 locs1 ce hp9 hfr9 hS hce hcv hcl => ?_)
  have hC := hC.keptX hfr9
  have hO := Fr.keep hfr9 hO (fun y9 => y9.elim)
  generalize H1 = H at hS hC hO hce
  refine vx_widen (k := 1) (n := 6) (Nat.le_of_ble_eq_true rfl) (Nat.le_of_ble_eq_true rfl) ?_
  refine vx_catch (name := XE3) hB.ow [] ⟨0, 12, 15, 24⟩ [] (by rw [hT9]; rfl) (fun z9 h9 => absurd h9 List.not_mem_nil) (by decide) (by decide) (hB.K.2 _ kw_550 _) hZ9.cast_XE3 hce hcv hcl ?_
  refine lv_astore (lv' := [(5, .ref q9), (0, .ref xb), (1, .int (nI f)), (2, .int y), (3, .int z), (4, .ref ob)]) hx hb dL_count_15 hl (by decide) rfl (fun ls hl => ?_)
  refine lv_iconst (v := nI 1) hx hb dL_count_17 (by decide) ?_
  refine mh_iret hB ⟨Nat.le_of_ble_eq_true rfl, Nat.le_of_ble_eq_true rfl⟩ hS dL_count_18 ⟨?_, ?_, ?_⟩
  · rfl
  · exact hC
  · exact hO

def rm_w_count_z0 : Room := { frames := 4, cells := 0, slots := 0, locals := 93 }
set_option maxRecDepth 100000 in
set_option maxHeartbeats 400000 in
theorem w_count_z0 (l : Launch) (g : GG) (H0 : Heap) (xb : Nat) (lim : Nat) (q : Nat → Int32) (n : Nat) (rm : Nat → Int32) (sl : Nat → Int32) (sv : Nat → Int32) (tx : Nat → Int32) (ln : Nat) (f : Nat) (c0 : Nat) (ob : Nat) (o : Nat → Int64) (hC : CLS g xb lim q n rm sl sv tx ln H0) (hO : at_ g H0 ob (eL g 1 o)) (hf : f < 3) (hc : c0 < 6) (hlo : xb + 68 ≤ ob ∧ ob < lim) (hfl : l.stackTraces = false) : CtW l yL_count cL_count 6 (some .int) [(0, 12, 15, 24)] rm_w_count_z0 g xb [.ref xb, .int (nI f), .int (nI c0), .int (nI 0), .ref ob] H0 (ftA (fun q9 => ((xb ≤ q9 ∧ q9 < xb + 68) ∨ lim ≤ q9) ∨ q9 = ob) H0.size) (fun v H1 => v = some (.int (nI 0)) ∧ CLS g xb lim q n rm sl sv tx ln H1 ∧ at_ g H1 ob (eL g 1 (vp_updL o 0 ((nI (cntC q f c0 0 (szF q f))).toInt64)))) := by
  refine CtW.of (by decide) (fun _ h => Or.inr h) (Nat.le_of_ble_eq_true rfl) ?_
  intro p e s m below meth c ls hB hZ9 hT9 hS hH hl
  have hx := hB.x
  have hb := hB.b
  have hl : lv_has ls 6 [(0, .ref xb), (1, .int (nI f)), (2, .int (nI c0)), (3, .int (nI 0)), (4, .ref ob)] := hl
  refine lv_aload hx hb dL_count_0 (lv_at hl 4 rfl) ?_
  refine lv_iconst (v := nI 0) hx hb dL_count_2 (by decide) ?_
  refine lv_aload_n hx hb dL_count_3 rfl (lv_at hl 0 rfl) ?_
  refine lv_iload_n hx hb dL_count_4 rfl (lv_at hl 1 rfl) ?_
  refine lv_iload_n hx hb dL_count_5 rfl (lv_at hl 2 rfl) ?_
  refine lv_iload_n hx hb dL_count_6 rfl (lv_at hl 3 rfl) ?_
  refine cl_L_36 (As := [.int (nI f), .int (nI c0), .int (nI 0)]) (rest := [.int (nI 0), .ref ob]) hB (f_X10_count_0 l g H0 xb lim q n rm sl sv tx ln f c0 (hC) (hf) (hc)) hC.ob rfl hl.1 (Nat.le_of_ble_eq_true rfl) dL_count_7 ⟨Nat.le_of_ble_eq_true rfl, Nat.le_of_ble_eq_true rfl⟩ ⟨Nat.le_of_ble_eq_true rfl, Nat.le_of_ble_eq_true rfl⟩ hS (by have hz9 := hS.1; rintro q (h | h) <;> first | exact Or.inr (by omega) | exact h.elim | exact Or.inl h | (simp only [ftA] at h ⊢; omega)) (fun v H1 locs hpo hfr hS => ?_)
  obtain ⟨rfl, rfl⟩ := hpo
  refine W.widen (k := 0) (n := 0) (Nat.le_of_ble_eq_true rfl) (Nat.le_of_ble_eq_true rfl) ?_
  refine lv_i2l (v := (nI (cntC q f c0 0 (szF q f))).toInt64) hx hb dL_count_10 rfl ?_
  refine mn_last hB hO (Or.inl (Or.inr rfl)) hS (by omega) (by omega) dL_count_11 (fun H locs hwr => ?_)
  obtain ⟨hO, ho, hz, hS⟩ := hwr
  have hC := hC.keptO ho hz (by omega)
  refine lv_goto (tgt := 19) hx hb dL_count_12 (by decide) ?_
  refine lv_iconst (v := nI 0) hx hb dL_count_19 (by decide) ?_
  refine mh_iret hB ⟨Nat.le_of_ble_eq_true rfl, Nat.le_of_ble_eq_true rfl⟩ hS dL_count_20 ⟨?_, ?_, ?_⟩
  · rfl
  · exact hC
  · exact hO

def rm_w_count_z1 : Room := { frames := 4, cells := 0, slots := 0, locals := 93 }
set_option maxRecDepth 100000 in
set_option maxHeartbeats 400000 in
theorem w_count_z1 (l : Launch) (g : GG) (H0 : Heap) (xb : Nat) (lim : Nat) (q : Nat → Int32) (n : Nat) (rm : Nat → Int32) (sl : Nat → Int32) (sv : Nat → Int32) (tx : Nat → Int32) (ln : Nat) (f : Nat) (c0 : Nat) (ob : Nat) (o : Nat → Int64) (hC : CLS g xb lim q n rm sl sv tx ln H0) (hO : at_ g H0 ob (eL g 1 o)) (hf : f < 3) (hc : c0 < 6) (hlo : xb + 68 ≤ ob ∧ ob < lim) (hfl : l.stackTraces = false) : CtW l yL_count cL_count 6 (some .int) [(0, 12, 15, 24)] rm_w_count_z1 g xb [.ref xb, .int (nI f), .int (nI c0), .int (nI 1), .ref ob] H0 (ftA (fun q9 => ((xb ≤ q9 ∧ q9 < xb + 68) ∨ lim ≤ q9) ∨ q9 = ob) H0.size) (fun v H1 => v = some (.int (nI 0)) ∧ CLS g xb lim q n rm sl sv tx ln H1 ∧ at_ g H1 ob (eL g 1 (vp_updL o 0 ((nI (cntC q f c0 0 (swF q f))).toInt64)))) := by
  refine CtW.of (by decide) (fun _ h => Or.inr h) (Nat.le_of_ble_eq_true rfl) ?_
  intro p e s m below meth c ls hB hZ9 hT9 hS hH hl
  have hx := hB.x
  have hb := hB.b
  have hl : lv_has ls 6 [(0, .ref xb), (1, .int (nI f)), (2, .int (nI c0)), (3, .int (nI 1)), (4, .ref ob)] := hl
  refine lv_aload hx hb dL_count_0 (lv_at hl 4 rfl) ?_
  refine lv_iconst (v := nI 0) hx hb dL_count_2 (by decide) ?_
  refine lv_aload_n hx hb dL_count_3 rfl (lv_at hl 0 rfl) ?_
  refine lv_iload_n hx hb dL_count_4 rfl (lv_at hl 1 rfl) ?_
  refine lv_iload_n hx hb dL_count_5 rfl (lv_at hl 2 rfl) ?_
  refine lv_iload_n hx hb dL_count_6 rfl (lv_at hl 3 rfl) ?_
  refine cl_L_36 (As := [.int (nI f), .int (nI c0), .int (nI 1)]) (rest := [.int (nI 0), .ref ob]) hB (f_X10_count_1 l g H0 xb lim q n rm sl sv tx ln f c0 (hC) (hf) (hc)) hC.ob rfl hl.1 (Nat.le_of_ble_eq_true rfl) dL_count_7 ⟨Nat.le_of_ble_eq_true rfl, Nat.le_of_ble_eq_true rfl⟩ ⟨Nat.le_of_ble_eq_true rfl, Nat.le_of_ble_eq_true rfl⟩ hS (by have hz9 := hS.1; rintro q (h | h) <;> first | exact Or.inr (by omega) | exact h.elim | exact Or.inl h | (simp only [ftA] at h ⊢; omega)) (fun v H1 locs hpo hfr hS => ?_)
  obtain ⟨rfl, rfl⟩ := hpo
  refine W.widen (k := 0) (n := 0) (Nat.le_of_ble_eq_true rfl) (Nat.le_of_ble_eq_true rfl) ?_
  refine lv_i2l (v := (nI (cntC q f c0 0 (swF q f))).toInt64) hx hb dL_count_10 rfl ?_
  refine mn_last hB hO (Or.inl (Or.inr rfl)) hS (by omega) (by omega) dL_count_11 (fun H locs hwr => ?_)
  obtain ⟨hO, ho, hz, hS⟩ := hwr
  have hC := hC.keptO ho hz (by omega)
  refine lv_goto (tgt := 19) hx hb dL_count_12 (by decide) ?_
  refine lv_iconst (v := nI 0) hx hb dL_count_19 (by decide) ?_
  refine mh_iret hB ⟨Nat.le_of_ble_eq_true rfl, Nat.le_of_ble_eq_true rfl⟩ hS dL_count_20 ⟨?_, ?_, ?_⟩
  · rfl
  · exact hC
  · exact hO

def rm_w_same_t1 : Room := { frames := 8, cells := 1, slots := 6, locals := 127 }
set_option maxRecDepth 100000 in
set_option maxHeartbeats 400000 in
theorem w_same_t1 (l : Launch) (g : GG) (H0 : Heap) (xb : Nat) (lim : Nat) (q : Nat → Int32) (n : Nat) (rm : Nat → Int32) (sl : Nat → Int32) (sv : Nat → Int32) (tx : Nat → Int32) (ln : Nat) (x : Int32) (y : Int32) (ob : Nat) (o : Nat → Int64) (hC : CLS g xb lim q n rm sl sv tx ln H0) (hO : at_ g H0 ob (eL g 1 o)) (hx1 : isIx x 3 = false) (hlo : xb + 68 ≤ ob ∧ ob < lim) (hfl : l.stackTraces = false) : CtW l yL_same cL_same 5 (some .int) [(0, 17, 20, 24), (0, 17, 24, 13)] rm_w_same_t1 g xb [.ref xb, .int x, .int y, .ref ob] H0 (ftA (fun q9 => ((xb ≤ q9 ∧ q9 < xb + 68) ∨ lim ≤ q9) ∨ q9 = ob) H0.size) (fun v H1 => v = some (.int (nI 1)) ∧ CLS g xb lim q n rm sl sv tx ln H1 ∧ at_ g H1 ob (eL g 1 o)) := by
  refine CtW.of (by decide) (fun _ h => Or.inr h) (Nat.le_of_ble_eq_true rfl) ?_
  intro p e s m below meth c ls hB hZ9 hT9 hS hH hl
  have hx := hB.x
  have hb := hB.b
  have hl : lv_has ls 5 [(0, .ref xb), (1, .int x), (2, .int y), (3, .ref ob)] := hl
  refine lv_aload_n hx hb dL_same_0 rfl (lv_at hl 3 rfl) ?_
  refine lv_iconst (v := nI 0) hx hb dL_same_1 (by decide) ?_
  refine lv_aload_n hx hb dL_same_2 rfl (lv_at hl 0 rfl) ?_
  refine lv_iload_n hx hb dL_same_3 rfl (lv_at hl 1 rfl) ?_
  refine lv_iload_n hx hb dL_same_4 rfl (lv_at hl 2 rfl) ?_
  refine mx_runV (C := RX10) (n := 2) (As := [.int x, .int y]) (rest := [.int (nI 0), .ref ob]) rfl kw_670 kw_1 kw_667 kw_668 kw_669 (by decide +kernel) hB hZ9 (fx_X10_same_t1 l g H0 xb xb lim q n rm sl sv tx ln x y (hC) (hx1) hfl (by have := hC.lsz; omega)) hC.ob rfl hl.1 (Nat.le_of_ble_eq_true rfl) dL_same_5 ⟨Nat.le_of_ble_eq_true rfl, Nat.le_of_ble_eq_true rfl⟩ ⟨Nat.le_of_ble_eq_true rfl, Nat.le_of_ble_eq_true rfl⟩ hS (by have hz9 := hS.1; rintro q9 (h9 | h9) <;> first | exact h9.elim | exact Or.inr (by omega) | exact Or.inl (Or.inl h9)) (fun q9 H1 locs1 ce hp9 hfr9 hS hce hcv hcl => ?_)
  have hC := hC.keptX hfr9
  have hO := Fr.keep hfr9 hO (fun y9 => y9.elim)
  generalize H1 = H at hS hC hO hce
  refine vx_widen (k := 1) (n := 6) (Nat.le_of_ble_eq_true rfl) (Nat.le_of_ble_eq_true rfl) ?_
  refine vx_catch (name := XE3) hB.ow [] ⟨0, 17, 20, 24⟩ [⟨0, 17, 24, 13⟩] (by rw [hT9]; rfl) (fun z9 h9 => absurd h9 List.not_mem_nil) (by decide) (by decide) (hB.K.2 _ kw_550 _) hZ9.cast_XE3 hce hcv hcl ?_
  refine lv_astore (lv' := [(4, .ref q9), (0, .ref xb), (1, .int x), (2, .int y), (3, .ref ob)]) hx hb dL_same_20 hl (by decide) rfl (fun ls hl => ?_)
  refine lv_iconst (v := nI 1) hx hb dL_same_22 (by decide) ?_
  refine mh_iret hB ⟨Nat.le_of_ble_eq_true rfl, Nat.le_of_ble_eq_true rfl⟩ hS dL_same_23 ⟨?_, ?_, ?_⟩
  · rfl
  · exact hC
  · exact hO

def rm_w_same_t2 : Room := { frames := 9, cells := 1, slots := 6, locals := 147 }
set_option maxRecDepth 100000 in
set_option maxHeartbeats 400000 in
theorem w_same_t2 (l : Launch) (g : GG) (H0 : Heap) (xb : Nat) (lim : Nat) (q : Nat → Int32) (n : Nat) (rm : Nat → Int32) (sl : Nat → Int32) (sv : Nat → Int32) (tx : Nat → Int32) (ln : Nat) (f : Nat) (y : Int32) (ob : Nat) (o : Nat → Int64) (hC : CLS g xb lim q n rm sl sv tx ln H0) (hO : at_ g H0 ob (eL g 1 o)) (hf : f < 3) (hx1 : isIx y 3 = false) (hlo : xb + 68 ≤ ob ∧ ob < lim) (hfl : l.stackTraces = false) : CtW l yL_same cL_same 5 (some .int) [(0, 17, 20, 24), (0, 17, 24, 13)] rm_w_same_t2 g xb [.ref xb, .int (nI f), .int y, .ref ob] H0 (ftA (fun q9 => ((xb ≤ q9 ∧ q9 < xb + 68) ∨ lim ≤ q9) ∨ q9 = ob) H0.size) (fun v H1 => v = some (.int (nI 2)) ∧ CLS g xb lim q n rm sl sv tx ln H1 ∧ at_ g H1 ob (eL g 1 o)) := by
  refine CtW.of (by decide) (fun _ h => Or.inr h) (Nat.le_of_ble_eq_true rfl) ?_
  intro p e s m below meth c ls hB hZ9 hT9 hS hH hl
  have hx := hB.x
  have hb := hB.b
  have hl : lv_has ls 5 [(0, .ref xb), (1, .int (nI f)), (2, .int y), (3, .ref ob)] := hl
  refine lv_aload_n hx hb dL_same_0 rfl (lv_at hl 3 rfl) ?_
  refine lv_iconst (v := nI 0) hx hb dL_same_1 (by decide) ?_
  refine lv_aload_n hx hb dL_same_2 rfl (lv_at hl 0 rfl) ?_
  refine lv_iload_n hx hb dL_same_3 rfl (lv_at hl 1 rfl) ?_
  refine lv_iload_n hx hb dL_same_4 rfl (lv_at hl 2 rfl) ?_
  refine mx_runV (C := RX10) (n := 2) (As := [.int (nI f), .int y]) (rest := [.int (nI 0), .ref ob]) rfl kw_670 kw_1 kw_667 kw_668 kw_669 (by decide +kernel) hB hZ9 (fx_X10_same_t2 l g H0 xb xb lim q n rm sl sv tx ln f y (hC) (hf) (hx1) hfl (by have := hC.lsz; omega)) hC.ob rfl hl.1 (Nat.le_of_ble_eq_true rfl) dL_same_5 ⟨Nat.le_of_ble_eq_true rfl, Nat.le_of_ble_eq_true rfl⟩ ⟨Nat.le_of_ble_eq_true rfl, Nat.le_of_ble_eq_true rfl⟩ hS (by have hz9 := hS.1; rintro q9 (h9 | h9) <;> first | exact h9.elim | exact Or.inr (by omega) | exact Or.inl (Or.inl h9)) (fun q9 H1 locs1 ce hp9 hfr9 hS hce hcv hcl => ?_)
  have hC := hC.keptX hfr9
  have hO := Fr.keep hfr9 hO (fun y9 => y9.elim)
  generalize H1 = H at hS hC hO hce
  refine vx_widen (k := 1) (n := 6) (Nat.le_of_ble_eq_true rfl) (Nat.le_of_ble_eq_true rfl) ?_
  refine vx_catch (name := XE1) hB.ow [⟨0, 17, 20, 24⟩] ⟨0, 17, 24, 13⟩ [] (by rw [hT9]; rfl) (List.forall_mem_cons.mpr ⟨Or.inr ⟨by decide, XE3, hB.K.2 _ kw_550 _, hZ9.nc_13⟩, fun z9 h9 => absurd h9 List.not_mem_nil⟩) (by decide) (by decide) (hB.K.2 _ kw_434 _) hZ9.cast_XE1 hce hcv hcl ?_
  refine lv_astore (lv' := [(4, .ref q9), (0, .ref xb), (1, .int (nI f)), (2, .int y), (3, .ref ob)]) hx hb dL_same_24 hl (by decide) rfl (fun ls hl => ?_)
  refine lv_iconst (v := nI 2) hx hb dL_same_26 (by decide) ?_
  refine mh_iret hB ⟨Nat.le_of_ble_eq_true rfl, Nat.le_of_ble_eq_true rfl⟩ hS dL_same_27 ⟨?_, ?_, ?_⟩
  · rfl
  · exact hC
  · exact hO

def rm_w_same_w0 : Room := { frames := 5, cells := 0, slots := 0, locals := 120 }
set_option maxRecDepth 100000 in
set_option maxHeartbeats 400000 in
theorem w_same_w0 (l : Launch) (g : GG) (H0 : Heap) (xb : Nat) (lim : Nat) (q : Nat → Int32) (n : Nat) (rm : Nat → Int32) (sl : Nat → Int32) (sv : Nat → Int32) (tx : Nat → Int32) (ln : Nat) (f : Nat) (ob : Nat) (o : Nat → Int64) (hC : CLS g xb lim q n rm sl sv tx ln H0) (hO : at_ g H0 ob (eL g 1 o)) (hf : f < 3) (hs0 : 0 < szF q f) (hlo : xb + 68 ≤ ob ∧ ob < lim) (hfl : l.stackTraces = false) : CtW l yL_same cL_same 5 (some .int) [(0, 17, 20, 24), (0, 17, 24, 13)] rm_w_same_w0 g xb [.ref xb, .int (nI f), .int (nI 0), .ref ob] H0 (ftA (fun q9 => ((xb ≤ q9 ∧ q9 < xb + 68) ∨ lim ≤ q9) ∨ q9 = ob) H0.size) (fun v H1 => v = some (.int (nI 0)) ∧ CLS g xb lim q n rm sl sv tx ln H1 ∧ at_ g H1 ob (eL g 1 (vp_updL o 0 (b64 (samB q f 0))))) := by
  refine CtW.of (by decide) (fun _ h => Or.inr h) (Nat.le_of_ble_eq_true rfl) ?_
  intro p e s m below meth c ls hB hZ9 hT9 hS hH hl
  have hx := hB.x
  have hb := hB.b
  have hl : lv_has ls 5 [(0, .ref xb), (1, .int (nI f)), (2, .int (nI 0)), (3, .ref ob)] := hl
  refine lv_aload_n hx hb dL_same_0 rfl (lv_at hl 3 rfl) ?_
  refine lv_iconst (v := nI 0) hx hb dL_same_1 (by decide) ?_
  refine lv_aload_n hx hb dL_same_2 rfl (lv_at hl 0 rfl) ?_
  refine lv_iload_n hx hb dL_same_3 rfl (lv_at hl 1 rfl) ?_
  refine lv_iload_n hx hb dL_same_4 rfl (lv_at hl 2 rfl) ?_
  refine cl_L_40 (As := [.int (nI f), .int (nI 0)]) (rest := [.int (nI 0), .ref ob]) hB (f_X10_same_0 l g H0 xb lim q n rm sl sv tx ln f (hC) (hf) (hs0)) hC.ob rfl hl.1 (Nat.le_of_ble_eq_true rfl) dL_same_5 ⟨Nat.le_of_ble_eq_true rfl, Nat.le_of_ble_eq_true rfl⟩ ⟨Nat.le_of_ble_eq_true rfl, Nat.le_of_ble_eq_true rfl⟩ hS (by have hz9 := hS.1; rintro q (h | h) <;> first | exact Or.inr (by omega) | exact h.elim | exact Or.inl h | (simp only [ftA] at h ⊢; omega)) (fun v H1 locs hpo hfr hS => ?_)
  obtain ⟨rfl, rfl⟩ := hpo
  refine W.widen (k := 0) (n := 0) (Nat.le_of_ble_eq_true rfl) (Nat.le_of_ble_eq_true rfl) ?_
  refine mb_if_eq (tgt := 15) hB dL_same_8 (by decide) (fun h_8 => ?_) (fun h_8 => ?_)
  · skip
    refine lv_lconst (v := 0) hx hb dL_same_15 (by decide) ?_
    refine mh_top (y := .long (b64 (samB q f 0))) (by rw [show b64 (samB q f 0) = 0 from by rw [h_8]; rfl]) ?_
    refine mn_last hB hO (Or.inl (Or.inr rfl)) hS (by omega) (by omega) dL_same_16 (fun H locs hwr => ?_)
    obtain ⟨hO, ho, hz, hS⟩ := hwr
    have hC := hC.keptO ho hz (by omega)
    refine lv_goto (tgt := 28) hx hb dL_same_17 (by decide) ?_
    refine lv_iconst (v := nI 0) hx hb dL_same_28 (by decide) ?_
    refine mh_iret hB ⟨Nat.le_of_ble_eq_true rfl, Nat.le_of_ble_eq_true rfl⟩ hS dL_same_29 ⟨?_, ?_, ?_⟩
    · rfl
    · exact hC
    · exact hO
  · skip
    refine lv_lconst (v := 1) hx hb dL_same_11 (by decide) ?_
    refine mh_top (y := .long (b64 (samB q f 0))) (by rw [show b64 (samB q f 0) = 1 from by rw [h_8]; rfl]) ?_
    refine lv_goto (tgt := 16) hx hb dL_same_12 (by decide) ?_
    refine mn_last hB hO (Or.inl (Or.inr rfl)) hS (by omega) (by omega) dL_same_16 (fun H locs hwr => ?_)
    obtain ⟨hO, ho, hz, hS⟩ := hwr
    have hC := hC.keptO ho hz (by omega)
    refine lv_goto (tgt := 28) hx hb dL_same_17 (by decide) ?_
    refine lv_iconst (v := nI 0) hx hb dL_same_28 (by decide) ?_
    refine mh_iret hB ⟨Nat.le_of_ble_eq_true rfl, Nat.le_of_ble_eq_true rfl⟩ hS dL_same_29 ⟨?_, ?_, ?_⟩
    · rfl
    · exact hC
    · exact hO

def rm_w_same_w1 : Room := { frames := 5, cells := 0, slots := 0, locals := 120 }
set_option maxRecDepth 100000 in
set_option maxHeartbeats 400000 in
theorem w_same_w1 (l : Launch) (g : GG) (H0 : Heap) (xb : Nat) (lim : Nat) (q : Nat → Int32) (n : Nat) (rm : Nat → Int32) (sl : Nat → Int32) (sv : Nat → Int32) (tx : Nat → Int32) (ln : Nat) (f : Nat) (ob : Nat) (o : Nat → Int64) (hC : CLS g xb lim q n rm sl sv tx ln H0) (hO : at_ g H0 ob (eL g 1 o)) (hf : f < 3) (hs0 : 0 < szF q f) (hlo : xb + 68 ≤ ob ∧ ob < lim) (hfl : l.stackTraces = false) : CtW l yL_same cL_same 5 (some .int) [(0, 17, 20, 24), (0, 17, 24, 13)] rm_w_same_w1 g xb [.ref xb, .int (nI f), .int (nI 1), .ref ob] H0 (ftA (fun q9 => ((xb ≤ q9 ∧ q9 < xb + 68) ∨ lim ≤ q9) ∨ q9 = ob) H0.size) (fun v H1 => v = some (.int (nI 0)) ∧ CLS g xb lim q n rm sl sv tx ln H1 ∧ at_ g H1 ob (eL g 1 (vp_updL o 0 (b64 (samB q f 1))))) := by
  refine CtW.of (by decide) (fun _ h => Or.inr h) (Nat.le_of_ble_eq_true rfl) ?_
  intro p e s m below meth c ls hB hZ9 hT9 hS hH hl
  have hx := hB.x
  have hb := hB.b
  have hl : lv_has ls 5 [(0, .ref xb), (1, .int (nI f)), (2, .int (nI 1)), (3, .ref ob)] := hl
  refine lv_aload_n hx hb dL_same_0 rfl (lv_at hl 3 rfl) ?_
  refine lv_iconst (v := nI 0) hx hb dL_same_1 (by decide) ?_
  refine lv_aload_n hx hb dL_same_2 rfl (lv_at hl 0 rfl) ?_
  refine lv_iload_n hx hb dL_same_3 rfl (lv_at hl 1 rfl) ?_
  refine lv_iload_n hx hb dL_same_4 rfl (lv_at hl 2 rfl) ?_
  refine cl_L_40 (As := [.int (nI f), .int (nI 1)]) (rest := [.int (nI 0), .ref ob]) hB (f_X10_same_1 l g H0 xb lim q n rm sl sv tx ln f (hC) (hf) (hs0)) hC.ob rfl hl.1 (Nat.le_of_ble_eq_true rfl) dL_same_5 ⟨Nat.le_of_ble_eq_true rfl, Nat.le_of_ble_eq_true rfl⟩ ⟨Nat.le_of_ble_eq_true rfl, Nat.le_of_ble_eq_true rfl⟩ hS (by have hz9 := hS.1; rintro q (h | h) <;> first | exact Or.inr (by omega) | exact h.elim | exact Or.inl h | (simp only [ftA] at h ⊢; omega)) (fun v H1 locs hpo hfr hS => ?_)
  obtain ⟨rfl, rfl⟩ := hpo
  refine W.widen (k := 0) (n := 0) (Nat.le_of_ble_eq_true rfl) (Nat.le_of_ble_eq_true rfl) ?_
  refine mb_if_eq (tgt := 15) hB dL_same_8 (by decide) (fun h_8 => ?_) (fun h_8 => ?_)
  · skip
    refine lv_lconst (v := 0) hx hb dL_same_15 (by decide) ?_
    refine mh_top (y := .long (b64 (samB q f 1))) (by rw [show b64 (samB q f 1) = 0 from by rw [h_8]; rfl]) ?_
    refine mn_last hB hO (Or.inl (Or.inr rfl)) hS (by omega) (by omega) dL_same_16 (fun H locs hwr => ?_)
    obtain ⟨hO, ho, hz, hS⟩ := hwr
    have hC := hC.keptO ho hz (by omega)
    refine lv_goto (tgt := 28) hx hb dL_same_17 (by decide) ?_
    refine lv_iconst (v := nI 0) hx hb dL_same_28 (by decide) ?_
    refine mh_iret hB ⟨Nat.le_of_ble_eq_true rfl, Nat.le_of_ble_eq_true rfl⟩ hS dL_same_29 ⟨?_, ?_, ?_⟩
    · rfl
    · exact hC
    · exact hO
  · skip
    refine lv_lconst (v := 1) hx hb dL_same_11 (by decide) ?_
    refine mh_top (y := .long (b64 (samB q f 1))) (by rw [show b64 (samB q f 1) = 1 from by rw [h_8]; rfl]) ?_
    refine lv_goto (tgt := 16) hx hb dL_same_12 (by decide) ?_
    refine mn_last hB hO (Or.inl (Or.inr rfl)) hS (by omega) (by omega) dL_same_16 (fun H locs hwr => ?_)
    obtain ⟨hO, ho, hz, hS⟩ := hwr
    have hC := hC.keptO ho hz (by omega)
    refine lv_goto (tgt := 28) hx hb dL_same_17 (by decide) ?_
    refine lv_iconst (v := nI 0) hx hb dL_same_28 (by decide) ?_
    refine mh_iret hB ⟨Nat.le_of_ble_eq_true rfl, Nat.le_of_ble_eq_true rfl⟩ hS dL_same_29 ⟨?_, ?_, ?_⟩
    · rfl
    · exact hC
    · exact hO

def rm_w_same_w2 : Room := { frames := 5, cells := 0, slots := 0, locals := 120 }
set_option maxRecDepth 100000 in
set_option maxHeartbeats 400000 in
theorem w_same_w2 (l : Launch) (g : GG) (H0 : Heap) (xb : Nat) (lim : Nat) (q : Nat → Int32) (n : Nat) (rm : Nat → Int32) (sl : Nat → Int32) (sv : Nat → Int32) (tx : Nat → Int32) (ln : Nat) (f : Nat) (ob : Nat) (o : Nat → Int64) (hC : CLS g xb lim q n rm sl sv tx ln H0) (hO : at_ g H0 ob (eL g 1 o)) (hf : f < 3) (hs0 : 0 < szF q f) (hlo : xb + 68 ≤ ob ∧ ob < lim) (hfl : l.stackTraces = false) : CtW l yL_same cL_same 5 (some .int) [(0, 17, 20, 24), (0, 17, 24, 13)] rm_w_same_w2 g xb [.ref xb, .int (nI f), .int (nI 2), .ref ob] H0 (ftA (fun q9 => ((xb ≤ q9 ∧ q9 < xb + 68) ∨ lim ≤ q9) ∨ q9 = ob) H0.size) (fun v H1 => v = some (.int (nI 0)) ∧ CLS g xb lim q n rm sl sv tx ln H1 ∧ at_ g H1 ob (eL g 1 (vp_updL o 0 (b64 (samB q f 2))))) := by
  refine CtW.of (by decide) (fun _ h => Or.inr h) (Nat.le_of_ble_eq_true rfl) ?_
  intro p e s m below meth c ls hB hZ9 hT9 hS hH hl
  have hx := hB.x
  have hb := hB.b
  have hl : lv_has ls 5 [(0, .ref xb), (1, .int (nI f)), (2, .int (nI 2)), (3, .ref ob)] := hl
  refine lv_aload_n hx hb dL_same_0 rfl (lv_at hl 3 rfl) ?_
  refine lv_iconst (v := nI 0) hx hb dL_same_1 (by decide) ?_
  refine lv_aload_n hx hb dL_same_2 rfl (lv_at hl 0 rfl) ?_
  refine lv_iload_n hx hb dL_same_3 rfl (lv_at hl 1 rfl) ?_
  refine lv_iload_n hx hb dL_same_4 rfl (lv_at hl 2 rfl) ?_
  refine cl_L_40 (As := [.int (nI f), .int (nI 2)]) (rest := [.int (nI 0), .ref ob]) hB (f_X10_same_2 l g H0 xb lim q n rm sl sv tx ln f (hC) (hf) (hs0)) hC.ob rfl hl.1 (Nat.le_of_ble_eq_true rfl) dL_same_5 ⟨Nat.le_of_ble_eq_true rfl, Nat.le_of_ble_eq_true rfl⟩ ⟨Nat.le_of_ble_eq_true rfl, Nat.le_of_ble_eq_true rfl⟩ hS (by have hz9 := hS.1; rintro q (h | h) <;> first | exact Or.inr (by omega) | exact h.elim | exact Or.inl h | (simp only [ftA] at h ⊢; omega)) (fun v H1 locs hpo hfr hS => ?_)
  obtain ⟨rfl, rfl⟩ := hpo
  refine W.widen (k := 0) (n := 0) (Nat.le_of_ble_eq_true rfl) (Nat.le_of_ble_eq_true rfl) ?_
  refine mb_if_eq (tgt := 15) hB dL_same_8 (by decide) (fun h_8 => ?_) (fun h_8 => ?_)
  · skip
    refine lv_lconst (v := 0) hx hb dL_same_15 (by decide) ?_
    refine mh_top (y := .long (b64 (samB q f 2))) (by rw [show b64 (samB q f 2) = 0 from by rw [h_8]; rfl]) ?_
    refine mn_last hB hO (Or.inl (Or.inr rfl)) hS (by omega) (by omega) dL_same_16 (fun H locs hwr => ?_)
    obtain ⟨hO, ho, hz, hS⟩ := hwr
    have hC := hC.keptO ho hz (by omega)
    refine lv_goto (tgt := 28) hx hb dL_same_17 (by decide) ?_
    refine lv_iconst (v := nI 0) hx hb dL_same_28 (by decide) ?_
    refine mh_iret hB ⟨Nat.le_of_ble_eq_true rfl, Nat.le_of_ble_eq_true rfl⟩ hS dL_same_29 ⟨?_, ?_, ?_⟩
    · rfl
    · exact hC
    · exact hO
  · skip
    refine lv_lconst (v := 1) hx hb dL_same_11 (by decide) ?_
    refine mh_top (y := .long (b64 (samB q f 2))) (by rw [show b64 (samB q f 2) = 1 from by rw [h_8]; rfl]) ?_
    refine lv_goto (tgt := 16) hx hb dL_same_12 (by decide) ?_
    refine mn_last hB hO (Or.inl (Or.inr rfl)) hS (by omega) (by omega) dL_same_16 (fun H locs hwr => ?_)
    obtain ⟨hO, ho, hz, hS⟩ := hwr
    have hC := hC.keptO ho hz (by omega)
    refine lv_goto (tgt := 28) hx hb dL_same_17 (by decide) ?_
    refine lv_iconst (v := nI 0) hx hb dL_same_28 (by decide) ?_
    refine mh_iret hB ⟨Nat.le_of_ble_eq_true rfl, Nat.le_of_ble_eq_true rfl⟩ hS dL_same_29 ⟨?_, ?_, ?_⟩
    · rfl
    · exact hC
    · exact hO

def rm_w_same_e : Room := { frames := 3, cells := 0, slots := 0, locals := 67 }
set_option maxRecDepth 100000 in
set_option maxHeartbeats 400000 in
theorem w_same_e (l : Launch) (g : GG) (H0 : Heap) (xb : Nat) (lim : Nat) (q : Nat → Int32) (n : Nat) (rm : Nat → Int32) (sl : Nat → Int32) (sv : Nat → Int32) (tx : Nat → Int32) (ln : Nat) (f : Nat) (w : Nat) (ob : Nat) (o : Nat → Int64) (hC : CLS g xb lim q n rm sl sv tx ln H0) (hO : at_ g H0 ob (eL g 1 o)) (hf : f < 3) (hw : w < 3) (hs0 : szF q f = 0) (hlo : xb + 68 ≤ ob ∧ ob < lim) (hfl : l.stackTraces = false) : CtW l yL_same cL_same 5 (some .int) [(0, 17, 20, 24), (0, 17, 24, 13)] rm_w_same_e g xb [.ref xb, .int (nI f), .int (nI w), .ref ob] H0 (ftA (fun q9 => ((xb ≤ q9 ∧ q9 < xb + 68) ∨ lim ≤ q9) ∨ q9 = ob) H0.size) (fun v H1 => v = some (.int (nI 0)) ∧ CLS g xb lim q n rm sl sv tx ln H1 ∧ at_ g H1 ob (eL g 1 (vp_updL o 0 (b64 true)))) := by
  refine CtW.of (by decide) (fun _ h => Or.inr h) (Nat.le_of_ble_eq_true rfl) ?_
  intro p e s m below meth c ls hB hZ9 hT9 hS hH hl
  have hx := hB.x
  have hb := hB.b
  have hl : lv_has ls 5 [(0, .ref xb), (1, .int (nI f)), (2, .int (nI w)), (3, .ref ob)] := hl
  refine lv_aload_n hx hb dL_same_0 rfl (lv_at hl 3 rfl) ?_
  refine lv_iconst (v := nI 0) hx hb dL_same_1 (by decide) ?_
  refine lv_aload_n hx hb dL_same_2 rfl (lv_at hl 0 rfl) ?_
  refine lv_iload_n hx hb dL_same_3 rfl (lv_at hl 1 rfl) ?_
  refine lv_iload_n hx hb dL_same_4 rfl (lv_at hl 2 rfl) ?_
  refine cl_L_40 (As := [.int (nI f), .int (nI w)]) (rest := [.int (nI 0), .ref ob]) hB (f_X10_same_e l g H0 xb lim q n rm sl sv tx ln f w (hC) (hf) (hw) (hs0)) hC.ob rfl hl.1 (Nat.le_of_ble_eq_true rfl) dL_same_5 ⟨Nat.le_of_ble_eq_true rfl, Nat.le_of_ble_eq_true rfl⟩ ⟨Nat.le_of_ble_eq_true rfl, Nat.le_of_ble_eq_true rfl⟩ hS (by have hz9 := hS.1; rintro q (h | h) <;> first | exact Or.inr (by omega) | exact h.elim | exact Or.inl h | (simp only [ftA] at h ⊢; omega)) (fun v H1 locs hpo hfr hS => ?_)
  obtain ⟨rfl, rfl⟩ := hpo
  refine W.widen (k := 0) (n := 0) (Nat.le_of_ble_eq_true rfl) (Nat.le_of_ble_eq_true rfl) ?_
  refine mb_if_eq (tgt := 15) hB dL_same_8 (by decide) (fun h_8 => ?_) (fun h_8 => ?_)
  · skip
    refine lv_lconst (v := 0) hx hb dL_same_15 (by decide) ?_
    refine mh_top (y := .long (b64 true)) (by rw [show b64 true = 0 from by rw [h_8]; rfl]) ?_
    refine mn_last hB hO (Or.inl (Or.inr rfl)) hS (by omega) (by omega) dL_same_16 (fun H locs hwr => ?_)
    obtain ⟨hO, ho, hz, hS⟩ := hwr
    have hC := hC.keptO ho hz (by omega)
    refine lv_goto (tgt := 28) hx hb dL_same_17 (by decide) ?_
    refine lv_iconst (v := nI 0) hx hb dL_same_28 (by decide) ?_
    refine mh_iret hB ⟨Nat.le_of_ble_eq_true rfl, Nat.le_of_ble_eq_true rfl⟩ hS dL_same_29 ⟨?_, ?_, ?_⟩
    · rfl
    · exact hC
    · exact hO
  · skip
    refine lv_lconst (v := 1) hx hb dL_same_11 (by decide) ?_
    refine mh_top (y := .long (b64 true)) (by rw [show b64 true = 1 from by rw [h_8]; rfl]) ?_
    refine lv_goto (tgt := 16) hx hb dL_same_12 (by decide) ?_
    refine mn_last hB hO (Or.inl (Or.inr rfl)) hS (by omega) (by omega) dL_same_16 (fun H locs hwr => ?_)
    obtain ⟨hO, ho, hz, hS⟩ := hwr
    have hC := hC.keptO ho hz (by omega)
    refine lv_goto (tgt := 28) hx hb dL_same_17 (by decide) ?_
    refine lv_iconst (v := nI 0) hx hb dL_same_28 (by decide) ?_
    refine mh_iret hB ⟨Nat.le_of_ble_eq_true rfl, Nat.le_of_ble_eq_true rfl⟩ hS dL_same_29 ⟨?_, ?_, ?_⟩
    · rfl
    · exact hC
    · exact hO

def rm_w_addMember_t1 : Room := { frames := 8, cells := 1, slots := 6, locals := 121 }
set_option maxRecDepth 100000 in
set_option maxHeartbeats 400000 in
theorem w_addMember_t1 (l : Launch) (g : GG) (H0 : Heap) (xb : Nat) (lim : Nat) (q : Nat → Int32) (n : Nat) (rm : Nat → Int32) (sl : Nat → Int32) (sv : Nat → Int32) (tx : Nat → Int32) (ln : Nat) (ob : Nat) (o : Nat → Int64) (hC : CLS g xb lim q n rm sl sv tx ln H0) (hO : at_ g H0 ob (eL g 1 o)) (h5 : nmQ q = 5) (hlo : xb + 68 ≤ ob ∧ ob < lim) (hfl : l.stackTraces = false) : CtW l yL_addMember cL_addMember 3 (some .int) [(0, 8, 11, 15)] rm_w_addMember_t1 g xb [.ref xb, .ref ob] H0 (ftA (fun q9 => ((xb ≤ q9 ∧ q9 < xb + 68) ∨ lim ≤ q9) ∨ q9 = ob) H0.size) (fun v H1 => v = some (.int (nI 1)) ∧ CLS g xb lim q n rm sl sv tx ln H1 ∧ at_ g H1 ob (eL g 1 o)) := by
  refine CtW.of (by decide) (fun _ h => Or.inr h) (Nat.le_of_ble_eq_true rfl) ?_
  intro p e s m below meth c ls hB hZ9 hT9 hS hH hl
  have hx := hB.x
  have hb := hB.b
  have hl : lv_has ls 3 [(0, .ref xb), (1, .ref ob)] := hl
  refine lv_aload_n hx hb dL_addMember_0 rfl (lv_at hl 1 rfl) ?_
  refine lv_iconst (v := nI 0) hx hb dL_addMember_1 (by decide) ?_
  refine lv_aload_n hx hb dL_addMember_2 rfl (lv_at hl 0 rfl) ?_
  refine mx_runV (C := RX10) (n := 0) (As := []) (rest := [.int (nI 0), .ref ob]) rfl kw_685 kw_1 kw_682 kw_683 kw_684 (by decide +kernel) hB hZ9 (fx_X10_addMember_t1 l g H0 xb xb lim q n rm sl sv tx ln (hC) (h5) hfl (by have := hC.lsz; omega)) hC.ob rfl hl.1 (Nat.le_of_ble_eq_true rfl) dL_addMember_3 ⟨Nat.le_of_ble_eq_true rfl, Nat.le_of_ble_eq_true rfl⟩ ⟨Nat.le_of_ble_eq_true rfl, Nat.le_of_ble_eq_true rfl⟩ hS (by have hz9 := hS.1; rintro q9 (h9 | h9) <;> first | exact h9.elim | exact Or.inr (by omega) | exact Or.inl (Or.inl h9)) (fun q9 H1 locs1 ce hp9 hfr9 hS hce hcv hcl => ?_)
  have hC := hC.keptX hfr9
  have hO := Fr.keep hfr9 hO (fun y9 => y9.elim)
  generalize H1 = H at hS hC hO hce
  refine vx_widen (k := 1) (n := 6) (Nat.le_of_ble_eq_true rfl) (Nat.le_of_ble_eq_true rfl) ?_
  refine vx_catch (name := XE2) hB.ow [] ⟨0, 8, 11, 15⟩ [] (by rw [hT9]; rfl) (fun z9 h9 => absurd h9 List.not_mem_nil) (by decide) (by decide) (hB.K.2 _ kw_435 _) hZ9.cast_XE2 hce hcv hcl ?_
  refine lv_astore_n (lv' := [(2, .ref q9), (0, .ref xb), (1, .ref ob)]) hx hb dL_addMember_11 rfl hl (by decide) rfl (fun ls hl => ?_)
  refine lv_iconst (v := nI 1) hx hb dL_addMember_12 (by decide) ?_
  refine mh_iret hB ⟨Nat.le_of_ble_eq_true rfl, Nat.le_of_ble_eq_true rfl⟩ hS dL_addMember_13 ⟨?_, ?_, ?_⟩
  · rfl
  · exact hC
  · exact hO

def rm_w_addMember_ok : Room := { frames := 7, cells := 26, slots := 126, locals := 152 }
set_option maxRecDepth 100000 in
set_option maxHeartbeats 400000 in
theorem w_addMember_ok (l : Launch) (g : GG) (H0 : Heap) (xb : Nat) (lim : Nat) (q : Nat → Int32) (n : Nat) (rm : Nat → Int32) (sl : Nat → Int32) (sv : Nat → Int32) (tx : Nat → Int32) (ln : Nat) (ob : Nat) (o : Nat → Int64) (hC : CLS g xb lim q n rm sl sv tx ln H0) (hO : at_ g H0 ob (eL g 1 o)) (h5 : nmQ q < 5) (hlo : xb + 68 ≤ ob ∧ ob < lim) (hfl : l.stackTraces = false) : CtW l yL_addMember cL_addMember 3 (some .int) [(0, 8, 11, 15)] rm_w_addMember_ok g xb [.ref xb, .ref ob] H0 (ftA (fun q9 => ((xb ≤ q9 ∧ q9 < xb + 68) ∨ lim ≤ q9) ∨ q9 = ob) H0.size) (fun v H1 => v = some (.int (nI 0)) ∧ CLS g xb lim (upd q 0 (nI (nmQ q + 1))) (nxtS n) (remA rm n q) sl sv tx ln H1 ∧ at_ g H1 ob (eL g 1 (vp_updL o 0 ((nI (nmQ q)).toInt64)))) := by
  refine CtW.of (by decide) (fun _ h => Or.inr h) (Nat.le_of_ble_eq_true rfl) ?_
  intro p e s m below meth c ls hB hZ9 hT9 hS hH hl
  have hx := hB.x
  have hb := hB.b
  have hl : lv_has ls 3 [(0, .ref xb), (1, .ref ob)] := hl
  refine lv_aload_n hx hb dL_addMember_0 rfl (lv_at hl 1 rfl) ?_
  refine lv_iconst (v := nI 0) hx hb dL_addMember_1 (by decide) ?_
  refine lv_aload_n hx hb dL_addMember_2 rfl (lv_at hl 0 rfl) ?_
  refine cl_L_44 (As := []) (rest := [.int (nI 0), .ref ob]) hB (f_X10_addMember l g H0 xb lim q n rm sl sv tx ln (hC) (h5)) hC.ob rfl hl.1 (Nat.le_of_ble_eq_true rfl) dL_addMember_3 ⟨Nat.le_of_ble_eq_true rfl, Nat.le_of_ble_eq_true rfl⟩ ⟨Nat.le_of_ble_eq_true rfl, Nat.le_of_ble_eq_true rfl⟩ hS (by have hz9 := hS.1; rintro q9 (h9 | h9); exact Or.inl (Or.inl h9); exact Or.inr (by omega)) (fun v H1 locs hpo hfr hS => ?_)
  obtain ⟨rfl, hC⟩ := hpo
  have hO := Fr.keep hfr hO (fun y9 => by have y8 : (xb ≤ ob ∧ ob < xb + 68) ∨ lim ≤ ob := y9; omega)
  generalize H1 = H at hfr hS hO hC ⊢
  refine W.widen (k := 26) (n := 126) (Nat.le_of_ble_eq_true rfl) (Nat.le_of_ble_eq_true rfl) ?_
  refine lv_i2l (v := (nI (nmQ q)).toInt64) hx hb dL_addMember_6 rfl ?_
  refine mn_last hB hO (Or.inl (Or.inr rfl)) hS (by omega) (by omega) dL_addMember_7 (fun H locs hwr => ?_)
  obtain ⟨hO, ho, hz, hS⟩ := hwr
  have hC := hC.keptO ho hz (by omega)
  refine lv_goto (tgt := 14) hx hb dL_addMember_8 (by decide) ?_
  refine lv_iconst (v := nI 0) hx hb dL_addMember_14 (by decide) ?_
  refine mh_iret hB ⟨Nat.le_of_ble_eq_true rfl, Nat.le_of_ble_eq_true rfl⟩ hS dL_addMember_15 ⟨?_, ?_, ?_⟩
  · rfl
  · exact hC
  · exact hO

def rm_w_give_t1 : Room := { frames := 8, cells := 1, slots := 6, locals := 128 }
set_option maxRecDepth 100000 in
set_option maxHeartbeats 400000 in
theorem w_give_t1 (l : Launch) (g : GG) (H0 : Heap) (xb : Nat) (lim : Nat) (q : Nat → Int32) (n : Nat) (rm : Nat → Int32) (sl : Nat → Int32) (sv : Nat → Int32) (tx : Nat → Int32) (ln : Nat) (x : Int32) (y : Int32) (z : Int32) (ob : Nat) (o : Nat → Int64) (hC : CLS g xb lim q n rm sl sv tx ln H0) (hO : at_ g H0 ob (eL g 1 o)) (hx1 : isIx x (nmQ q) = false) (hlo : xb + 68 ≤ ob ∧ ob < lim) (hfl : l.stackTraces = false) : CtW l yL_give cL_give 6 (some .int) [(0, 12, 15, 24), (0, 12, 19, 13)] rm_w_give_t1 g xb [.ref xb, .int x, .int y, .int z, .ref ob] H0 (ftA (fun q9 => ((xb ≤ q9 ∧ q9 < xb + 68) ∨ lim ≤ q9) ∨ q9 = ob) H0.size) (fun v H1 => v = some (.int (nI 1)) ∧ CLS g xb lim q n rm sl sv tx ln H1 ∧ at_ g H1 ob (eL g 1 o)) := by
  refine CtW.of (by decide) (fun _ h => Or.inr h) (Nat.le_of_ble_eq_true rfl) ?_
  intro p e s m below meth c ls hB hZ9 hT9 hS hH hl
  have hx := hB.x
  have hb := hB.b
  have hl : lv_has ls 6 [(0, .ref xb), (1, .int x), (2, .int y), (3, .int z), (4, .ref ob)] := hl
  refine lv_aload hx hb dL_give_0 (lv_at hl 4 rfl) ?_
  refine lv_iconst (v := nI 0) hx hb dL_give_2 (by decide) ?_
  refine lv_aload_n hx hb dL_give_3 rfl (lv_at hl 0 rfl) ?_
  refine lv_iload_n hx hb dL_give_4 rfl (lv_at hl 1 rfl) ?_
  refine lv_iload_n hx hb dL_give_5 rfl (lv_at hl 2 rfl) ?_
  refine lv_iload_n hx hb dL_give_6 rfl (lv_at hl 3 rfl) ?_
  refine mx_runV (C := RX10) (n := 3) (As := [.int x, .int y, .int z]) (rest := [.int (nI 0), .ref ob]) rfl kw_696 kw_1 kw_693 kw_694 kw_695 (by decide +kernel) hB hZ9 (fx_X10_give_t1 l g H0 xb xb lim q n rm sl sv tx ln x y z (hC) (hx1) hfl (by have := hC.lsz; omega)) hC.ob rfl hl.1 (Nat.le_of_ble_eq_true rfl) dL_give_7 ⟨Nat.le_of_ble_eq_true rfl, Nat.le_of_ble_eq_true rfl⟩ ⟨Nat.le_of_ble_eq_true rfl, Nat.le_of_ble_eq_true rfl⟩ hS (by have hz9 := hS.1; rintro q9 (h9 | h9) <;> first | exact h9.elim | exact Or.inr (by omega) | exact Or.inl (Or.inl h9)) (fun q9 H1 locs1 ce hp9 hfr9 hS hce hcv hcl => ?_)
  have hC := hC.keptX hfr9
  have hO := Fr.keep hfr9 hO (fun y9 => y9.elim)
  generalize H1 = H at hS hC hO hce
  refine vx_widen (k := 1) (n := 6) (Nat.le_of_ble_eq_true rfl) (Nat.le_of_ble_eq_true rfl) ?_
  refine vx_catch (name := XE3) hB.ow [] ⟨0, 12, 15, 24⟩ [⟨0, 12, 19, 13⟩] (by rw [hT9]; rfl) (fun z9 h9 => absurd h9 List.not_mem_nil) (by decide) (by decide) (hB.K.2 _ kw_550 _) hZ9.cast_XE3 hce hcv hcl ?_
  refine lv_astore (lv' := [(5, .ref q9), (0, .ref xb), (1, .int x), (2, .int y), (3, .int z), (4, .ref ob)]) hx hb dL_give_15 hl (by decide) rfl (fun ls hl => ?_)
  refine lv_iconst (v := nI 1) hx hb dL_give_17 (by decide) ?_
  refine mh_iret hB ⟨Nat.le_of_ble_eq_true rfl, Nat.le_of_ble_eq_true rfl⟩ hS dL_give_18 ⟨?_, ?_, ?_⟩
  · rfl
  · exact hC
  · exact hO

def rm_w_give_t1b : Room := { frames := 8, cells := 1, slots := 6, locals := 128 }
set_option maxRecDepth 100000 in
set_option maxHeartbeats 400000 in
theorem w_give_t1b (l : Launch) (g : GG) (H0 : Heap) (xb : Nat) (lim : Nat) (q : Nat → Int32) (n : Nat) (rm : Nat → Int32) (sl : Nat → Int32) (sv : Nat → Int32) (tx : Nat → Int32) (ln : Nat) (k : Nat) (y : Int32) (z : Int32) (ob : Nat) (o : Nat → Int64) (hC : CLS g xb lim q n rm sl sv tx ln H0) (hO : at_ g H0 ob (eL g 1 o)) (hk : k < nmQ q) (hx1 : isIx y 6 = false) (hlo : xb + 68 ≤ ob ∧ ob < lim) (hfl : l.stackTraces = false) : CtW l yL_give cL_give 6 (some .int) [(0, 12, 15, 24), (0, 12, 19, 13)] rm_w_give_t1b g xb [.ref xb, .int (nI k), .int y, .int z, .ref ob] H0 (ftA (fun q9 => ((xb ≤ q9 ∧ q9 < xb + 68) ∨ lim ≤ q9) ∨ q9 = ob) H0.size) (fun v H1 => v = some (.int (nI 1)) ∧ CLS g xb lim q n rm sl sv tx ln H1 ∧ at_ g H1 ob (eL g 1 o)) := by
  refine CtW.of (by decide) (fun _ h => Or.inr h) (Nat.le_of_ble_eq_true rfl) ?_
  intro p e s m below meth c ls hB hZ9 hT9 hS hH hl
  have hx := hB.x
  have hb := hB.b
  have hl : lv_has ls 6 [(0, .ref xb), (1, .int (nI k)), (2, .int y), (3, .int z), (4, .ref ob)] := hl
  refine lv_aload hx hb dL_give_0 (lv_at hl 4 rfl) ?_
  refine lv_iconst (v := nI 0) hx hb dL_give_2 (by decide) ?_
  refine lv_aload_n hx hb dL_give_3 rfl (lv_at hl 0 rfl) ?_
  refine lv_iload_n hx hb dL_give_4 rfl (lv_at hl 1 rfl) ?_
  refine lv_iload_n hx hb dL_give_5 rfl (lv_at hl 2 rfl) ?_
  refine lv_iload_n hx hb dL_give_6 rfl (lv_at hl 3 rfl) ?_
  refine mx_runV (C := RX10) (n := 3) (As := [.int (nI k), .int y, .int z]) (rest := [.int (nI 0), .ref ob]) rfl kw_696 kw_1 kw_693 kw_694 kw_695 (by decide +kernel) hB hZ9 (fx_X10_give_t1b l g H0 xb xb lim q n rm sl sv tx ln k y z (hC) (hk) (hx1) hfl (by have := hC.lsz; omega)) hC.ob rfl hl.1 (Nat.le_of_ble_eq_true rfl) dL_give_7 ⟨Nat.le_of_ble_eq_true rfl, Nat.le_of_ble_eq_true rfl⟩ ⟨Nat.le_of_ble_eq_true rfl, Nat.le_of_ble_eq_true rfl⟩ hS (by have hz9 := hS.1; rintro q9 (h9 | h9) <;> first | exact h9.elim | exact Or.inr (by omega) | exact Or.inl (Or.inl h9)) (fun q9 H1 locs1 ce hp9 hfr9 hS hce hcv hcl => ?_)
  have hC := hC.keptX hfr9
  have hO := Fr.keep hfr9 hO (fun y9 => y9.elim)
  generalize H1 = H at hS hC hO hce
  refine vx_widen (k := 1) (n := 6) (Nat.le_of_ble_eq_true rfl) (Nat.le_of_ble_eq_true rfl) ?_
  refine vx_catch (name := XE3) hB.ow [] ⟨0, 12, 15, 24⟩ [⟨0, 12, 19, 13⟩] (by rw [hT9]; rfl) (fun z9 h9 => absurd h9 List.not_mem_nil) (by decide) (by decide) (hB.K.2 _ kw_550 _) hZ9.cast_XE3 hce hcv hcl ?_
  refine lv_astore (lv' := [(5, .ref q9), (0, .ref xb), (1, .int (nI k)), (2, .int y), (3, .int z), (4, .ref ob)]) hx hb dL_give_15 hl (by decide) rfl (fun ls hl => ?_)
  refine lv_iconst (v := nI 1) hx hb dL_give_17 (by decide) ?_
  refine mh_iret hB ⟨Nat.le_of_ble_eq_true rfl, Nat.le_of_ble_eq_true rfl⟩ hS dL_give_18 ⟨?_, ?_, ?_⟩
  · rfl
  · exact hC
  · exact hO

def rm_w_give_t2 : Room := { frames := 9, cells := 1, slots := 6, locals := 148 }
set_option maxRecDepth 100000 in
set_option maxHeartbeats 400000 in
theorem w_give_t2 (l : Launch) (g : GG) (H0 : Heap) (xb : Nat) (lim : Nat) (q : Nat → Int32) (n : Nat) (rm : Nat → Int32) (sl : Nat → Int32) (sv : Nat → Int32) (tx : Nat → Int32) (ln : Nat) (k : Nat) (c0 : Nat) (z : Int32) (ob : Nat) (o : Nat → Int64) (hC : CLS g xb lim q n rm sl sv tx ln H0) (hO : at_ g H0 ob (eL g 1 o)) (hk : k < nmQ q) (hc : c0 < 6) (hx1 : inL z.toInt64 1 99 = false) (hlo : xb + 68 ≤ ob ∧ ob < lim) (hfl : l.stackTraces = false) : CtW l yL_give cL_give 6 (some .int) [(0, 12, 15, 24), (0, 12, 19, 13)] rm_w_give_t2 g xb [.ref xb, .int (nI k), .int (nI c0), .int z, .ref ob] H0 (ftA (fun q9 => ((xb ≤ q9 ∧ q9 < xb + 68) ∨ lim ≤ q9) ∨ q9 = ob) H0.size) (fun v H1 => v = some (.int (nI 2)) ∧ CLS g xb lim q n rm sl sv tx ln H1 ∧ at_ g H1 ob (eL g 1 o)) := by
  refine CtW.of (by decide) (fun _ h => Or.inr h) (Nat.le_of_ble_eq_true rfl) ?_
  intro p e s m below meth c ls hB hZ9 hT9 hS hH hl
  have hx := hB.x
  have hb := hB.b
  have hl : lv_has ls 6 [(0, .ref xb), (1, .int (nI k)), (2, .int (nI c0)), (3, .int z), (4, .ref ob)] := hl
  refine lv_aload hx hb dL_give_0 (lv_at hl 4 rfl) ?_
  refine lv_iconst (v := nI 0) hx hb dL_give_2 (by decide) ?_
  refine lv_aload_n hx hb dL_give_3 rfl (lv_at hl 0 rfl) ?_
  refine lv_iload_n hx hb dL_give_4 rfl (lv_at hl 1 rfl) ?_
  refine lv_iload_n hx hb dL_give_5 rfl (lv_at hl 2 rfl) ?_
  refine lv_iload_n hx hb dL_give_6 rfl (lv_at hl 3 rfl) ?_
  refine mx_runV (C := RX10) (n := 3) (As := [.int (nI k), .int (nI c0), .int z]) (rest := [.int (nI 0), .ref ob]) rfl kw_696 kw_1 kw_693 kw_694 kw_695 (by decide +kernel) hB hZ9 (fx_X10_give_t2 l g H0 xb xb lim q n rm sl sv tx ln k c0 z (hC) (hk) (hc) (hx1) hfl (by have := hC.lsz; omega)) hC.ob rfl hl.1 (Nat.le_of_ble_eq_true rfl) dL_give_7 ⟨Nat.le_of_ble_eq_true rfl, Nat.le_of_ble_eq_true rfl⟩ ⟨Nat.le_of_ble_eq_true rfl, Nat.le_of_ble_eq_true rfl⟩ hS (by have hz9 := hS.1; rintro q9 (h9 | h9) <;> first | exact h9.elim | exact Or.inr (by omega) | exact Or.inl (Or.inl h9)) (fun q9 H1 locs1 ce hp9 hfr9 hS hce hcv hcl => ?_)
  have hC := hC.keptX hfr9
  have hO := Fr.keep hfr9 hO (fun y9 => y9.elim)
  generalize H1 = H at hS hC hO hce
  refine vx_widen (k := 1) (n := 6) (Nat.le_of_ble_eq_true rfl) (Nat.le_of_ble_eq_true rfl) ?_
  refine vx_catch (name := XE1) hB.ow [⟨0, 12, 15, 24⟩] ⟨0, 12, 19, 13⟩ [] (by rw [hT9]; rfl) (List.forall_mem_cons.mpr ⟨Or.inr ⟨by decide, XE3, hB.K.2 _ kw_550 _, hZ9.nc_13⟩, fun z9 h9 => absurd h9 List.not_mem_nil⟩) (by decide) (by decide) (hB.K.2 _ kw_434 _) hZ9.cast_XE1 hce hcv hcl ?_
  refine lv_astore (lv' := [(5, .ref q9), (0, .ref xb), (1, .int (nI k)), (2, .int (nI c0)), (3, .int z), (4, .ref ob)]) hx hb dL_give_19 hl (by decide) rfl (fun ls hl => ?_)
  refine lv_iconst (v := nI 2) hx hb dL_give_21 (by decide) ?_
  refine mh_iret hB ⟨Nat.le_of_ble_eq_true rfl, Nat.le_of_ble_eq_true rfl⟩ hS dL_give_22 ⟨?_, ?_, ?_⟩
  · rfl
  · exact hC
  · exact hO

def rm_w_give_ok : Room := { frames := 7, cells := 26, slots := 126, locals := 157 }
set_option maxRecDepth 100000 in
set_option maxHeartbeats 400000 in
theorem w_give_ok (l : Launch) (g : GG) (H0 : Heap) (xb : Nat) (lim : Nat) (q : Nat → Int32) (n : Nat) (rm : Nat → Int32) (sl : Nat → Int32) (sv : Nat → Int32) (tx : Nat → Int32) (ln : Nat) (k : Nat) (c0 : Nat) (x : Nat) (ob : Nat) (o : Nat → Int64) (hC : CLS g xb lim q n rm sl sv tx ln H0) (hO : at_ g H0 ob (eL g 1 o)) (hk : k < nmQ q) (hc : c0 < 6) (hx1 : 0 < x) (hx2 : x < 100) (hlo : xb + 68 ≤ ob ∧ ob < lim) (hfl : l.stackTraces = false) : CtW l yL_give cL_give 6 (some .int) [(0, 12, 15, 24), (0, 12, 19, 13)] rm_w_give_ok g xb [.ref xb, .int (nI k), .int (nI c0), .int (nI x), .ref ob] H0 (ftA (fun q9 => ((xb ≤ q9 ∧ q9 < xb + 68) ∨ lim ≤ q9) ∨ q9 = ob) H0.size) (fun v H1 => v = some (.int (nI 0)) ∧ CLS g xb lim (givQ q k c0 (nI x)) (nxtS n) (remA rm n q) sl sv tx ln H1 ∧ at_ g H1 ob (eL g 1 (vp_updL o 0 ((givQ q k c0 (nI x) (50 + c0)).toInt64)))) := by
  refine CtW.of (by decide) (fun _ h => Or.inr h) (Nat.le_of_ble_eq_true rfl) ?_
  intro p e s m below meth c ls hB hZ9 hT9 hS hH hl
  have hx := hB.x
  have hb := hB.b
  have hl : lv_has ls 6 [(0, .ref xb), (1, .int (nI k)), (2, .int (nI c0)), (3, .int (nI x)), (4, .ref ob)] := hl
  refine lv_aload hx hb dL_give_0 (lv_at hl 4 rfl) ?_
  refine lv_iconst (v := nI 0) hx hb dL_give_2 (by decide) ?_
  refine lv_aload_n hx hb dL_give_3 rfl (lv_at hl 0 rfl) ?_
  refine lv_iload_n hx hb dL_give_4 rfl (lv_at hl 1 rfl) ?_
  refine lv_iload_n hx hb dL_give_5 rfl (lv_at hl 2 rfl) ?_
  refine lv_iload_n hx hb dL_give_6 rfl (lv_at hl 3 rfl) ?_
  refine cl_L_48 (As := [.int (nI k), .int (nI c0), .int (nI x)]) (rest := [.int (nI 0), .ref ob]) hB (f_X10_give l g H0 xb lim q n rm sl sv tx ln k c0 x (hC) (hk) (hc) (hx1) (hx2)) hC.ob rfl hl.1 (Nat.le_of_ble_eq_true rfl) dL_give_7 ⟨Nat.le_of_ble_eq_true rfl, Nat.le_of_ble_eq_true rfl⟩ ⟨Nat.le_of_ble_eq_true rfl, Nat.le_of_ble_eq_true rfl⟩ hS (by have hz9 := hS.1; rintro q9 (h9 | h9); exact Or.inl (Or.inl h9); exact Or.inr (by omega)) (fun v H1 locs hpo hfr hS => ?_)
  obtain ⟨rfl, hC⟩ := hpo
  have hO := Fr.keep hfr hO (fun y9 => by have y8 : (xb ≤ ob ∧ ob < xb + 68) ∨ lim ≤ ob := y9; omega)
  generalize H1 = H at hfr hS hO hC ⊢
  refine W.widen (k := 26) (n := 126) (Nat.le_of_ble_eq_true rfl) (Nat.le_of_ble_eq_true rfl) ?_
  refine lv_i2l (v := (givQ q k c0 (nI x) (50 + c0)).toInt64) hx hb dL_give_10 rfl ?_
  refine mn_last hB hO (Or.inl (Or.inr rfl)) hS (by omega) (by omega) dL_give_11 (fun H locs hwr => ?_)
  obtain ⟨hO, ho, hz, hS⟩ := hwr
  have hC := hC.keptO ho hz (by omega)
  refine lv_goto (tgt := 23) hx hb dL_give_12 (by decide) ?_
  refine lv_iconst (v := nI 0) hx hb dL_give_23 (by decide) ?_
  refine mh_iret hB ⟨Nat.le_of_ble_eq_true rfl, Nat.le_of_ble_eq_true rfl⟩ hS dL_give_24 ⟨?_, ?_, ?_⟩
  · rfl
  · exact hC
  · exact hO

def rm_w_start_t1 : Room := { frames := 8, cells := 1, slots := 6, locals := 125 }
set_option maxRecDepth 100000 in
set_option maxHeartbeats 400000 in
theorem w_start_t1 (l : Launch) (g : GG) (H0 : Heap) (xb : Nat) (lim : Nat) (q : Nat → Int32) (n : Nat) (rm : Nat → Int32) (sl : Nat → Int32) (sv : Nat → Int32) (tx : Nat → Int32) (ln : Nat) (x : Int32) (ob : Nat) (o : Nat → Int64) (hC : CLS g xb lim q n rm sl sv tx ln H0) (hO : at_ g H0 ob (eL g 1 o)) (hx1 : isIx x 3 = false) (hlo : xb + 68 ≤ ob ∧ ob < lim) (hfl : l.stackTraces = false) : CtW l yL_start cL_start 4 (some .int) [(0, 9, 12, 24), (0, 9, 15, 15)] rm_w_start_t1 g xb [.ref xb, .int x, .ref ob] H0 (ftA (fun q9 => ((xb ≤ q9 ∧ q9 < xb + 68) ∨ lim ≤ q9) ∨ q9 = ob) H0.size) (fun v H1 => v = some (.int (nI 1)) ∧ CLS g xb lim q n rm sl sv tx ln H1 ∧ at_ g H1 ob (eL g 1 o)) := by
  refine CtW.of (by decide) (fun _ h => Or.inr h) (Nat.le_of_ble_eq_true rfl) ?_
  intro p e s m below meth c ls hB hZ9 hT9 hS hH hl
  have hx := hB.x
  have hb := hB.b
  have hl : lv_has ls 4 [(0, .ref xb), (1, .int x), (2, .ref ob)] := hl
  refine lv_aload_n hx hb dL_start_0 rfl (lv_at hl 2 rfl) ?_
  refine lv_iconst (v := nI 0) hx hb dL_start_1 (by decide) ?_
  refine lv_aload_n hx hb dL_start_2 rfl (lv_at hl 0 rfl) ?_
  refine lv_iload_n hx hb dL_start_3 rfl (lv_at hl 1 rfl) ?_
  refine mx_runV (C := RX10) (n := 1) (As := [.int x]) (rest := [.int (nI 0), .ref ob]) rfl kw_712 kw_1 kw_709 kw_710 kw_711 (by decide +kernel) hB hZ9 (fx_X10_start_t1 l g H0 xb xb lim q n rm sl sv tx ln x (hC) (hx1) hfl (by have := hC.lsz; omega)) hC.ob rfl hl.1 (Nat.le_of_ble_eq_true rfl) dL_start_4 ⟨Nat.le_of_ble_eq_true rfl, Nat.le_of_ble_eq_true rfl⟩ ⟨Nat.le_of_ble_eq_true rfl, Nat.le_of_ble_eq_true rfl⟩ hS (by have hz9 := hS.1; rintro q9 (h9 | h9) <;> first | exact h9.elim | exact Or.inr (by omega) | exact Or.inl (Or.inl h9)) (fun q9 H1 locs1 ce hp9 hfr9 hS hce hcv hcl => ?_)
  have hC := hC.keptX hfr9
  have hO := Fr.keep hfr9 hO (fun y9 => y9.elim)
  generalize H1 = H at hS hC hO hce
  refine vx_widen (k := 1) (n := 6) (Nat.le_of_ble_eq_true rfl) (Nat.le_of_ble_eq_true rfl) ?_
  refine vx_catch (name := XE3) hB.ow [] ⟨0, 9, 12, 24⟩ [⟨0, 9, 15, 15⟩] (by rw [hT9]; rfl) (fun z9 h9 => absurd h9 List.not_mem_nil) (by decide) (by decide) (hB.K.2 _ kw_550 _) hZ9.cast_XE3 hce hcv hcl ?_
  refine lv_astore_n (lv' := [(3, .ref q9), (0, .ref xb), (1, .int x), (2, .ref ob)]) hx hb dL_start_12 rfl hl (by decide) rfl (fun ls hl => ?_)
  refine lv_iconst (v := nI 1) hx hb dL_start_13 (by decide) ?_
  refine mh_iret hB ⟨Nat.le_of_ble_eq_true rfl, Nat.le_of_ble_eq_true rfl⟩ hS dL_start_14 ⟨?_, ?_, ?_⟩
  · rfl
  · exact hC
  · exact hO

def rm_w_start_A : Room := { frames := 8, cells := 1, slots := 6, locals := 123 }
set_option maxRecDepth 100000 in
set_option maxHeartbeats 400000 in
theorem w_start_A (l : Launch) (g : GG) (H0 : Heap) (xb : Nat) (lim : Nat) (q : Nat → Int32) (n : Nat) (rm : Nat → Int32) (sl : Nat → Int32) (sv : Nat → Int32) (tx : Nat → Int32) (ln : Nat) (f : Nat) (ob : Nat) (o : Nat → Int64) (hC : CLS g xb lim q n rm sl sv tx ln H0) (hO : at_ g H0 ob (eL g 1 o)) (hf : f < 3) (hs0 : 0 < szF q f) (hlo : xb + 68 ≤ ob ∧ ob < lim) (hfl : l.stackTraces = false) : CtW l yL_start cL_start 4 (some .int) [(0, 9, 12, 24), (0, 9, 15, 15)] rm_w_start_A g xb [.ref xb, .int (nI f), .ref ob] H0 (ftA (fun q9 => ((xb ≤ q9 ∧ q9 < xb + 68) ∨ lim ≤ q9) ∨ q9 = ob) H0.size) (fun v H1 => v = some (.int (nI 2)) ∧ CLS g xb lim q n rm sl sv tx ln H1 ∧ at_ g H1 ob (eL g 1 o)) := by
  refine CtW.of (by decide) (fun _ h => Or.inr h) (Nat.le_of_ble_eq_true rfl) ?_
  intro p e s m below meth c ls hB hZ9 hT9 hS hH hl
  have hx := hB.x
  have hb := hB.b
  have hl : lv_has ls 4 [(0, .ref xb), (1, .int (nI f)), (2, .ref ob)] := hl
  refine lv_aload_n hx hb dL_start_0 rfl (lv_at hl 2 rfl) ?_
  refine lv_iconst (v := nI 0) hx hb dL_start_1 (by decide) ?_
  refine lv_aload_n hx hb dL_start_2 rfl (lv_at hl 0 rfl) ?_
  refine lv_iload_n hx hb dL_start_3 rfl (lv_at hl 1 rfl) ?_
  refine mx_runV (C := RX10) (n := 1) (As := [.int (nI f)]) (rest := [.int (nI 0), .ref ob]) rfl kw_712 kw_1 kw_709 kw_710 kw_711 (by decide +kernel) hB hZ9 (fx_X10_start_t2b l g H0 xb xb lim q n rm sl sv tx ln f (hC) (hf) (hs0) hfl (by have := hC.lsz; omega)) hC.ob rfl hl.1 (Nat.le_of_ble_eq_true rfl) dL_start_4 ⟨Nat.le_of_ble_eq_true rfl, Nat.le_of_ble_eq_true rfl⟩ ⟨Nat.le_of_ble_eq_true rfl, Nat.le_of_ble_eq_true rfl⟩ hS (by have hz9 := hS.1; rintro q9 (h9 | h9) <;> first | exact h9.elim | exact Or.inr (by omega) | exact Or.inl (Or.inl h9)) (fun q9 H1 locs1 ce hp9 hfr9 hS hce hcv hcl => ?_)
  have hC := hC.keptX hfr9
  have hO := Fr.keep hfr9 hO (fun y9 => y9.elim)
  generalize H1 = H at hS hC hO hce
  refine vx_widen (k := 1) (n := 6) (Nat.le_of_ble_eq_true rfl) (Nat.le_of_ble_eq_true rfl) ?_
  refine vx_catch (name := XE2) hB.ow [⟨0, 9, 12, 24⟩] ⟨0, 9, 15, 15⟩ [] (by rw [hT9]; rfl) (List.forall_mem_cons.mpr ⟨Or.inr ⟨by decide, XE3, hB.K.2 _ kw_550 _, hZ9.nc_23⟩, fun z9 h9 => absurd h9 List.not_mem_nil⟩) (by decide) (by decide) (hB.K.2 _ kw_435 _) hZ9.cast_XE2 hce hcv hcl ?_
  refine lv_astore_n (lv' := [(3, .ref q9), (0, .ref xb), (1, .int (nI f)), (2, .ref ob)]) hx hb dL_start_15 rfl hl (by decide) rfl (fun ls hl => ?_)
  refine lv_iconst (v := nI 2) hx hb dL_start_16 (by decide) ?_
  refine mh_iret hB ⟨Nat.le_of_ble_eq_true rfl, Nat.le_of_ble_eq_true rfl⟩ hS dL_start_17 ⟨?_, ?_, ?_⟩
  · rfl
  · exact hC
  · exact hO

def rm_w_start_C : Room := { frames := 8, cells := 1, slots := 6, locals := 165 }
set_option maxRecDepth 100000 in
set_option maxHeartbeats 400000 in
theorem w_start_C (l : Launch) (g : GG) (H0 : Heap) (xb : Nat) (lim : Nat) (q : Nat → Int32) (n : Nat) (rm : Nat → Int32) (sl : Nat → Int32) (sv : Nat → Int32) (tx : Nat → Int32) (ln : Nat) (tc : Nat → Nat) (f : Nat) (e9 : Nat) (ob : Nat) (o : Nat → Int64) (hC : CLS g xb lim q n rm sl sv tx ln H0) (hO : at_ g H0 ob (eL g 1 o)) (htc : ∀ j, j < ln → tx j = nI (tc j) ∧ tc j < 256) (hf : f < 3) (hs0 : szF q f = 0) (hw : wholeS tc ln = .inl e9) (hlo : xb + 68 ≤ ob ∧ ob < lim) (hfl : l.stackTraces = false) : CtW l yL_start cL_start 4 (some .int) [(0, 9, 12, 24), (0, 9, 15, 15)] rm_w_start_C g xb [.ref xb, .int (nI f), .ref ob] H0 (ftA (fun q9 => ((xb ≤ q9 ∧ q9 < xb + 68) ∨ lim ≤ q9) ∨ q9 = ob) H0.size) (fun v H1 => v = some (.int (nI 2)) ∧ CLS g xb lim q n rm sl sv tx ln H1 ∧ at_ g H1 ob (eL g 1 o)) := by
  refine CtW.of (by decide) (fun _ h => Or.inr h) (Nat.le_of_ble_eq_true rfl) ?_
  intro p e s m below meth c ls hB hZ9 hT9 hS hH hl
  have hx := hB.x
  have hb := hB.b
  have hl : lv_has ls 4 [(0, .ref xb), (1, .int (nI f)), (2, .ref ob)] := hl
  refine lv_aload_n hx hb dL_start_0 rfl (lv_at hl 2 rfl) ?_
  refine lv_iconst (v := nI 0) hx hb dL_start_1 (by decide) ?_
  refine lv_aload_n hx hb dL_start_2 rfl (lv_at hl 0 rfl) ?_
  refine lv_iload_n hx hb dL_start_3 rfl (lv_at hl 1 rfl) ?_
  refine mx_runV (C := RX10) (n := 1) (As := [.int (nI f)]) (rest := [.int (nI 0), .ref ob]) rfl kw_712 kw_1 kw_709 kw_710 kw_711 (by decide +kernel) hB hZ9 (fx_X10_start_t2 l g H0 xb xb lim q n rm sl sv tx ln tc f e9 (hC) (htc) (hf) (hs0) (hw) hfl (by have := hC.lsz; omega) (Nat.le_refl _)) hC.ob rfl hl.1 (Nat.le_of_ble_eq_true rfl) dL_start_4 ⟨Nat.le_of_ble_eq_true rfl, Nat.le_of_ble_eq_true rfl⟩ ⟨Nat.le_of_ble_eq_true rfl, Nat.le_of_ble_eq_true rfl⟩ hS (by have hz9 := hS.1; rintro q9 (h9 | h9) <;> first | exact h9.elim | exact Or.inr (by omega) | exact Or.inl (Or.inl h9)) (fun q9 H1 locs1 ce hp9 hfr9 hS hce hcv hcl => ?_)
  have hC := hp9
  have hO := Fr.keep hfr9 hO (fun y9 => by have y8 : (xb ≤ ob ∧ ob < xb + 68) ∨ lim ≤ ob := y9; omega)
  generalize H1 = H at hS hC hO hce
  refine vx_widen (k := 1) (n := 6) (Nat.le_of_ble_eq_true rfl) (Nat.le_of_ble_eq_true rfl) ?_
  refine vx_catch (name := XE2) hB.ow [⟨0, 9, 12, 24⟩] ⟨0, 9, 15, 15⟩ [] (by rw [hT9]; rfl) (List.forall_mem_cons.mpr ⟨Or.inr ⟨by decide, XE3, hB.K.2 _ kw_550 _, hZ9.nc_23⟩, fun z9 h9 => absurd h9 List.not_mem_nil⟩) (by decide) (by decide) (hB.K.2 _ kw_435 _) hZ9.cast_XE2 hce hcv hcl ?_
  refine lv_astore_n (lv' := [(3, .ref q9), (0, .ref xb), (1, .int (nI f)), (2, .ref ob)]) hx hb dL_start_15 rfl hl (by decide) rfl (fun ls hl => ?_)
  refine lv_iconst (v := nI 2) hx hb dL_start_16 (by decide) ?_
  refine mh_iret hB ⟨Nat.le_of_ble_eq_true rfl, Nat.le_of_ble_eq_true rfl⟩ hS dL_start_17 ⟨?_, ?_, ?_⟩
  · rfl
  · exact hC
  · exact hO

def rm_w_start_ok : Room := { frames := 7, cells := 28, slots := 385, locals := 165 }
set_option maxRecDepth 100000 in
set_option maxHeartbeats 400000 in
theorem w_start_ok (l : Launch) (g : GG) (H0 : Heap) (xb : Nat) (lim : Nat) (q : Nat → Int32) (n : Nat) (rm : Nat → Int32) (sl : Nat → Int32) (sv : Nat → Int32) (tx : Nat → Int32) (ln : Nat) (tc : Nat → Nat) (f : Nat) (bq : PBl) (ob : Nat) (o : Nat → Int64) (hC : CLS g xb lim q n rm sl sv tx ln H0) (hO : at_ g H0 ob (eL g 1 o)) (htc : ∀ j, j < ln → tx j = nI (tc j) ∧ tc j < 256) (hf : f < 3) (hs0 : szF q f = 0) (hw : wholeS tc ln = .inr bq) (hlo : xb + 68 ≤ ob ∧ ob < lim) (hfl : l.stackTraces = false) : CtW l yL_start cL_start 4 (some .int) [(0, 9, 12, 24), (0, 9, 15, 15)] rm_w_start_ok g xb [.ref xb, .int (nI f), .ref ob] H0 (ftA (fun q9 => ((xb ≤ q9 ∧ q9 < xb + 68) ∨ lim ≤ q9) ∨ q9 = ob) H0.size) (fun v H1 => v = some (.int (nI 0)) ∧ CLS g xb lim (stQ q f bq) (nxtS n) (remA rm n q) sl sv tx ln H1 ∧ at_ g H1 ob (eL g 1 (vp_updL o 0 ((nI (bq.1 * bq.2.1)).toInt64)))) := by
  refine CtW.of (by decide) (fun _ h => Or.inr h) (Nat.le_of_ble_eq_true rfl) ?_
  intro p e s m below meth c ls hB hZ9 hT9 hS hH hl
  have hx := hB.x
  have hb := hB.b
  have hl : lv_has ls 4 [(0, .ref xb), (1, .int (nI f)), (2, .ref ob)] := hl
  refine lv_aload_n hx hb dL_start_0 rfl (lv_at hl 2 rfl) ?_
  refine lv_iconst (v := nI 0) hx hb dL_start_1 (by decide) ?_
  refine lv_aload_n hx hb dL_start_2 rfl (lv_at hl 0 rfl) ?_
  refine lv_iload_n hx hb dL_start_3 rfl (lv_at hl 1 rfl) ?_
  refine cl_L_51 (As := [.int (nI f)]) (rest := [.int (nI 0), .ref ob]) hB (f_X10_start l g H0 xb lim q n rm sl sv tx ln tc f bq (hC) (htc) (hf) (hs0) (hw)) hC.ob rfl hl.1 (Nat.le_of_ble_eq_true rfl) dL_start_4 ⟨Nat.le_of_ble_eq_true rfl, Nat.le_of_ble_eq_true rfl⟩ ⟨Nat.le_of_ble_eq_true rfl, Nat.le_of_ble_eq_true rfl⟩ hS (by have hz9 := hS.1; rintro q9 (h9 | h9); exact Or.inl (Or.inl h9); exact Or.inr (by omega)) (fun v H1 locs hpo hfr hS => ?_)
  obtain ⟨rfl, hC⟩ := hpo
  have hO := Fr.keep hfr hO (fun y9 => by have y8 : (xb ≤ ob ∧ ob < xb + 68) ∨ lim ≤ ob := y9; omega)
  generalize H1 = H at hfr hS hO hC ⊢
  refine W.widen (k := 28) (n := 385) (Nat.le_of_ble_eq_true rfl) (Nat.le_of_ble_eq_true rfl) ?_
  refine lv_i2l (v := (nI (bq.1 * bq.2.1)).toInt64) hx hb dL_start_7 rfl ?_
  refine mn_last hB hO (Or.inl (Or.inr rfl)) hS (by omega) (by omega) dL_start_8 (fun H locs hwr => ?_)
  obtain ⟨hO, ho, hz, hS⟩ := hwr
  have hC := hC.keptO ho hz (by omega)
  refine lv_goto (tgt := 18) hx hb dL_start_9 (by decide) ?_
  refine lv_iconst (v := nI 0) hx hb dL_start_18 (by decide) ?_
  refine mh_iret hB ⟨Nat.le_of_ble_eq_true rfl, Nat.le_of_ble_eq_true rfl⟩ hS dL_start_19 ⟨?_, ?_, ?_⟩
  · rfl
  · exact hC
  · exact hO

def rm_w_recolour_t1 : Room := { frames := 8, cells := 1, slots := 6, locals := 127 }
set_option maxRecDepth 100000 in
set_option maxHeartbeats 400000 in
theorem w_recolour_t1 (l : Launch) (g : GG) (H0 : Heap) (xb : Nat) (lim : Nat) (q : Nat → Int32) (n : Nat) (rm : Nat → Int32) (sl : Nat → Int32) (sv : Nat → Int32) (tx : Nat → Int32) (ln : Nat) (x : Int32) (y : Int32) (z : Int32) (ob : Nat) (o : Nat → Int64) (hC : CLS g xb lim q n rm sl sv tx ln H0) (hO : at_ g H0 ob (eL g 1 o)) (hx1 : isIx x 3 = false) (hlo : xb + 68 ≤ ob ∧ ob < lim) (hfl : l.stackTraces = false) : CtW l yL_recolour cL_recolour 6 (some .int) [(0, 12, 15, 24), (0, 12, 19, 15)] rm_w_recolour_t1 g xb [.ref xb, .int x, .int y, .int z, .ref ob] H0 (ftA (fun q9 => ((xb ≤ q9 ∧ q9 < xb + 68) ∨ lim ≤ q9) ∨ q9 = ob) H0.size) (fun v H1 => v = some (.int (nI 1)) ∧ CLS g xb lim q n rm sl sv tx ln H1 ∧ at_ g H1 ob (eL g 1 o)) := by
  refine CtW.of (by decide) (fun _ h => Or.inr h) (Nat.le_of_ble_eq_true rfl) ?_
  intro p e s m below meth c ls hB hZ9 hT9 hS hH hl
  have hx := hB.x
  have hb := hB.b
  have hl : lv_has ls 6 [(0, .ref xb), (1, .int x), (2, .int y), (3, .int z), (4, .ref ob)] := hl
  refine lv_aload hx hb dL_recolour_0 (lv_at hl 4 rfl) ?_
  refine lv_iconst (v := nI 0) hx hb dL_recolour_2 (by decide) ?_
  refine lv_aload_n hx hb dL_recolour_3 rfl (lv_at hl 0 rfl) ?_
  refine lv_iload_n hx hb dL_recolour_4 rfl (lv_at hl 1 rfl) ?_
  refine lv_iload_n hx hb dL_recolour_5 rfl (lv_at hl 2 rfl) ?_
  refine lv_iload_n hx hb dL_recolour_6 rfl (lv_at hl 3 rfl) ?_
  refine mx_runV (C := RX10) (n := 3) (As := [.int x, .int y, .int z]) (rest := [.int (nI 0), .ref ob]) rfl kw_758 kw_1 kw_755 kw_756 kw_757 (by decide +kernel) hB hZ9 (fx_X10_recolour_t1 l g H0 xb xb lim q n rm sl sv tx ln x y z (hC) (hx1) hfl (by have := hC.lsz; omega)) hC.ob rfl hl.1 (Nat.le_of_ble_eq_true rfl) dL_recolour_7 ⟨Nat.le_of_ble_eq_true rfl, Nat.le_of_ble_eq_true rfl⟩ ⟨Nat.le_of_ble_eq_true rfl, Nat.le_of_ble_eq_true rfl⟩ hS (by have hz9 := hS.1; rintro q9 (h9 | h9) <;> first | exact h9.elim | exact Or.inr (by omega) | exact Or.inl (Or.inl h9)) (fun q9 H1 locs1 ce hp9 hfr9 hS hce hcv hcl => ?_)
  have hC := hC.keptX hfr9
  have hO := Fr.keep hfr9 hO (fun y9 => y9.elim)
  generalize H1 = H at hS hC hO hce
  refine vx_widen (k := 1) (n := 6) (Nat.le_of_ble_eq_true rfl) (Nat.le_of_ble_eq_true rfl) ?_
  refine vx_catch (name := XE3) hB.ow [] ⟨0, 12, 15, 24⟩ [⟨0, 12, 19, 15⟩] (by rw [hT9]; rfl) (fun z9 h9 => absurd h9 List.not_mem_nil) (by decide) (by decide) (hB.K.2 _ kw_550 _) hZ9.cast_XE3 hce hcv hcl ?_
  refine lv_astore (lv' := [(5, .ref q9), (0, .ref xb), (1, .int x), (2, .int y), (3, .int z), (4, .ref ob)]) hx hb dL_recolour_15 hl (by decide) rfl (fun ls hl => ?_)
  refine lv_iconst (v := nI 1) hx hb dL_recolour_17 (by decide) ?_
  refine mh_iret hB ⟨Nat.le_of_ble_eq_true rfl, Nat.le_of_ble_eq_true rfl⟩ hS dL_recolour_18 ⟨?_, ?_, ?_⟩
  · rfl
  · exact hC
  · exact hO

def rm_w_recolour_t1b : Room := { frames := 8, cells := 1, slots := 6, locals := 127 }
set_option maxRecDepth 100000 in
set_option maxHeartbeats 400000 in
theorem w_recolour_t1b (l : Launch) (g : GG) (H0 : Heap) (xb : Nat) (lim : Nat) (q : Nat → Int32) (n : Nat) (rm : Nat → Int32) (sl : Nat → Int32) (sv : Nat → Int32) (tx : Nat → Int32) (ln : Nat) (f : Nat) (y : Int32) (z : Int32) (ob : Nat) (o : Nat → Int64) (hC : CLS g xb lim q n rm sl sv tx ln H0) (hO : at_ g H0 ob (eL g 1 o)) (hf : f < 3) (hx1 : isIx y 6 = false) (hlo : xb + 68 ≤ ob ∧ ob < lim) (hfl : l.stackTraces = false) : CtW l yL_recolour cL_recolour 6 (some .int) [(0, 12, 15, 24), (0, 12, 19, 15)] rm_w_recolour_t1b g xb [.ref xb, .int (nI f), .int y, .int z, .ref ob] H0 (ftA (fun q9 => ((xb ≤ q9 ∧ q9 < xb + 68) ∨ lim ≤ q9) ∨ q9 = ob) H0.size) (fun v H1 => v = some (.int (nI 1)) ∧ CLS g xb lim q n rm sl sv tx ln H1 ∧ at_ g H1 ob (eL g 1 o)) := by
  refine CtW.of (by decide) (fun _ h => Or.inr h) (Nat.le_of_ble_eq_true rfl) ?_
  intro p e s m below meth c ls hB hZ9 hT9 hS hH hl
  have hx := hB.x
  have hb := hB.b
  have hl : lv_has ls 6 [(0, .ref xb), (1, .int (nI f)), (2, .int y), (3, .int z), (4, .ref ob)] := hl
  refine lv_aload hx hb dL_recolour_0 (lv_at hl 4 rfl) ?_
  refine lv_iconst (v := nI 0) hx hb dL_recolour_2 (by decide) ?_
  refine lv_aload_n hx hb dL_recolour_3 rfl (lv_at hl 0 rfl) ?_
  refine lv_iload_n hx hb dL_recolour_4 rfl (lv_at hl 1 rfl) ?_
  refine lv_iload_n hx hb dL_recolour_5 rfl (lv_at hl 2 rfl) ?_
  refine lv_iload_n hx hb dL_recolour_6 rfl (lv_at hl 3 rfl) ?_
  refine mx_runV (C := RX10) (n := 3) (As := [.int (nI f), .int y, .int z]) (rest := [.int (nI 0), .ref ob]) rfl kw_758 kw_1 kw_755 kw_756 kw_757 (by decide +kernel) hB hZ9 (fx_X10_recolour_t1b l g H0 xb xb lim q n rm sl sv tx ln f y z (hC) (hf) (hx1) hfl (by have := hC.lsz; omega)) hC.ob rfl hl.1 (Nat.le_of_ble_eq_true rfl) dL_recolour_7 ⟨Nat.le_of_ble_eq_true rfl, Nat.le_of_ble_eq_true rfl⟩ ⟨Nat.le_of_ble_eq_true rfl, Nat.le_of_ble_eq_true rfl⟩ hS (by have hz9 := hS.1; rintro q9 (h9 | h9) <;> first | exact h9.elim | exact Or.inr (by omega) | exact Or.inl (Or.inl h9)) (fun q9 H1 locs1 ce hp9 hfr9 hS hce hcv hcl => ?_)
  have hC := hC.keptX hfr9
  have hO := Fr.keep hfr9 hO (fun y9 => y9.elim)
  generalize H1 = H at hS hC hO hce
  refine vx_widen (k := 1) (n := 6) (Nat.le_of_ble_eq_true rfl) (Nat.le_of_ble_eq_true rfl) ?_
  refine vx_catch (name := XE3) hB.ow [] ⟨0, 12, 15, 24⟩ [⟨0, 12, 19, 15⟩] (by rw [hT9]; rfl) (fun z9 h9 => absurd h9 List.not_mem_nil) (by decide) (by decide) (hB.K.2 _ kw_550 _) hZ9.cast_XE3 hce hcv hcl ?_
  refine lv_astore (lv' := [(5, .ref q9), (0, .ref xb), (1, .int (nI f)), (2, .int y), (3, .int z), (4, .ref ob)]) hx hb dL_recolour_15 hl (by decide) rfl (fun ls hl => ?_)
  refine lv_iconst (v := nI 1) hx hb dL_recolour_17 (by decide) ?_
  refine mh_iret hB ⟨Nat.le_of_ble_eq_true rfl, Nat.le_of_ble_eq_true rfl⟩ hS dL_recolour_18 ⟨?_, ?_, ?_⟩
  · rfl
  · exact hC
  · exact hO

def rm_w_recolour_t1c : Room := { frames := 8, cells := 1, slots := 6, locals := 127 }
set_option maxRecDepth 100000 in
set_option maxHeartbeats 400000 in
theorem w_recolour_t1c (l : Launch) (g : GG) (H0 : Heap) (xb : Nat) (lim : Nat) (q : Nat → Int32) (n : Nat) (rm : Nat → Int32) (sl : Nat → Int32) (sv : Nat → Int32) (tx : Nat → Int32) (ln : Nat) (f : Nat) (c0 : Nat) (z : Int32) (ob : Nat) (o : Nat → Int64) (hC : CLS g xb lim q n rm sl sv tx ln H0) (hO : at_ g H0 ob (eL g 1 o)) (hf : f < 3) (hc : c0 < 6) (hx1 : isIx z 6 = false) (hlo : xb + 68 ≤ ob ∧ ob < lim) (hfl : l.stackTraces = false) : CtW l yL_recolour cL_recolour 6 (some .int) [(0, 12, 15, 24), (0, 12, 19, 15)] rm_w_recolour_t1c g xb [.ref xb, .int (nI f), .int (nI c0), .int z, .ref ob] H0 (ftA (fun q9 => ((xb ≤ q9 ∧ q9 < xb + 68) ∨ lim ≤ q9) ∨ q9 = ob) H0.size) (fun v H1 => v = some (.int (nI 1)) ∧ CLS g xb lim q n rm sl sv tx ln H1 ∧ at_ g H1 ob (eL g 1 o)) := by
  refine CtW.of (by decide) (fun _ h => Or.inr h) (Nat.le_of_ble_eq_true rfl) ?_
  intro p e s m below meth c ls hB hZ9 hT9 hS hH hl
  have hx := hB.x
  have hb := hB.b
  have hl : lv_has ls 6 [(0, .ref xb), (1, .int (nI f)), (2, .int (nI c0)), (3, .int z), (4, .ref ob)] := hl
  refine lv_aload hx hb dL_recolour_0 (lv_at hl 4 rfl) ?_
  refine lv_iconst (v := nI 0) hx hb dL_recolour_2 (by decide) ?_
  refine lv_aload_n hx hb dL_recolour_3 rfl (lv_at hl 0 rfl) ?_
  refine lv_iload_n hx hb dL_recolour_4 rfl (lv_at hl 1 rfl) ?_
  refine lv_iload_n hx hb dL_recolour_5 rfl (lv_at hl 2 rfl) ?_
  refine lv_iload_n hx hb dL_recolour_6 rfl (lv_at hl 3 rfl) ?_
  refine mx_runV (C := RX10) (n := 3) (As := [.int (nI f), .int (nI c0), .int z]) (rest := [.int (nI 0), .ref ob]) rfl kw_758 kw_1 kw_755 kw_756 kw_757 (by decide +kernel) hB hZ9 (fx_X10_recolour_t1c l g H0 xb xb lim q n rm sl sv tx ln f c0 z (hC) (hf) (hc) (hx1) hfl (by have := hC.lsz; omega)) hC.ob rfl hl.1 (Nat.le_of_ble_eq_true rfl) dL_recolour_7 ⟨Nat.le_of_ble_eq_true rfl, Nat.le_of_ble_eq_true rfl⟩ ⟨Nat.le_of_ble_eq_true rfl, Nat.le_of_ble_eq_true rfl⟩ hS (by have hz9 := hS.1; rintro q9 (h9 | h9) <;> first | exact h9.elim | exact Or.inr (by omega) | exact Or.inl (Or.inl h9)) (fun q9 H1 locs1 ce hp9 hfr9 hS hce hcv hcl => ?_)
  have hC := hC.keptX hfr9
  have hO := Fr.keep hfr9 hO (fun y9 => y9.elim)
  generalize H1 = H at hS hC hO hce
  refine vx_widen (k := 1) (n := 6) (Nat.le_of_ble_eq_true rfl) (Nat.le_of_ble_eq_true rfl) ?_
  refine vx_catch (name := XE3) hB.ow [] ⟨0, 12, 15, 24⟩ [⟨0, 12, 19, 15⟩] (by rw [hT9]; rfl) (fun z9 h9 => absurd h9 List.not_mem_nil) (by decide) (by decide) (hB.K.2 _ kw_550 _) hZ9.cast_XE3 hce hcv hcl ?_
  refine lv_astore (lv' := [(5, .ref q9), (0, .ref xb), (1, .int (nI f)), (2, .int (nI c0)), (3, .int z), (4, .ref ob)]) hx hb dL_recolour_15 hl (by decide) rfl (fun ls hl => ?_)
  refine lv_iconst (v := nI 1) hx hb dL_recolour_17 (by decide) ?_
  refine mh_iret hB ⟨Nat.le_of_ble_eq_true rfl, Nat.le_of_ble_eq_true rfl⟩ hS dL_recolour_18 ⟨?_, ?_, ?_⟩
  · rfl
  · exact hC
  · exact hO

def rm_w_recolour_t2 : Room := { frames := 8, cells := 1, slots := 6, locals := 125 }
set_option maxRecDepth 100000 in
set_option maxHeartbeats 400000 in
theorem w_recolour_t2 (l : Launch) (g : GG) (H0 : Heap) (xb : Nat) (lim : Nat) (q : Nat → Int32) (n : Nat) (rm : Nat → Int32) (sl : Nat → Int32) (sv : Nat → Int32) (tx : Nat → Int32) (ln : Nat) (f : Nat) (a0 : Nat) (b0 : Nat) (ob : Nat) (o : Nat → Int64) (hC : CLS g xb lim q n rm sl sv tx ln H0) (hO : at_ g H0 ob (eL g 1 o)) (hf : f < 3) (ha : a0 < 6) (hb8 : b0 < 6) (hs0 : ¬ (0 < szF q f ∧ swF q f = 0)) (hlo : xb + 68 ≤ ob ∧ ob < lim) (hfl : l.stackTraces = false) : CtW l yL_recolour cL_recolour 6 (some .int) [(0, 12, 15, 24), (0, 12, 19, 15)] rm_w_recolour_t2 g xb [.ref xb, .int (nI f), .int (nI a0), .int (nI b0), .ref ob] H0 (ftA (fun q9 => ((xb ≤ q9 ∧ q9 < xb + 68) ∨ lim ≤ q9) ∨ q9 = ob) H0.size) (fun v H1 => v = some (.int (nI 2)) ∧ CLS g xb lim q n rm sl sv tx ln H1 ∧ at_ g H1 ob (eL g 1 o)) := by
  refine CtW.of (by decide) (fun _ h => Or.inr h) (Nat.le_of_ble_eq_true rfl) ?_
  intro p e s m below meth c ls hB hZ9 hT9 hS hH hl
  have hx := hB.x
  have hb := hB.b
  have hl : lv_has ls 6 [(0, .ref xb), (1, .int (nI f)), (2, .int (nI a0)), (3, .int (nI b0)), (4, .ref ob)] := hl
  refine lv_aload hx hb dL_recolour_0 (lv_at hl 4 rfl) ?_
  refine lv_iconst (v := nI 0) hx hb dL_recolour_2 (by decide) ?_
  refine lv_aload_n hx hb dL_recolour_3 rfl (lv_at hl 0 rfl) ?_
  refine lv_iload_n hx hb dL_recolour_4 rfl (lv_at hl 1 rfl) ?_
  refine lv_iload_n hx hb dL_recolour_5 rfl (lv_at hl 2 rfl) ?_
  refine lv_iload_n hx hb dL_recolour_6 rfl (lv_at hl 3 rfl) ?_
  refine mx_runV (C := RX10) (n := 3) (As := [.int (nI f), .int (nI a0), .int (nI b0)]) (rest := [.int (nI 0), .ref ob]) rfl kw_758 kw_1 kw_755 kw_756 kw_757 (by decide +kernel) hB hZ9 (fx_X10_recolour_t2 l g H0 xb xb lim q n rm sl sv tx ln f a0 b0 (hC) (hf) (ha) (hb8) (hs0) hfl (by have := hC.lsz; omega)) hC.ob rfl hl.1 (Nat.le_of_ble_eq_true rfl) dL_recolour_7 ⟨Nat.le_of_ble_eq_true rfl, Nat.le_of_ble_eq_true rfl⟩ ⟨Nat.le_of_ble_eq_true rfl, Nat.le_of_ble_eq_true rfl⟩ hS (by have hz9 := hS.1; rintro q9 (h9 | h9) <;> first | exact h9.elim | exact Or.inr (by omega) | exact Or.inl (Or.inl h9)) (fun q9 H1 locs1 ce hp9 hfr9 hS hce hcv hcl => ?_)
  have hC := hC.keptX hfr9
  have hO := Fr.keep hfr9 hO (fun y9 => y9.elim)
  generalize H1 = H at hS hC hO hce
  refine vx_widen (k := 1) (n := 6) (Nat.le_of_ble_eq_true rfl) (Nat.le_of_ble_eq_true rfl) ?_
  refine vx_catch (name := XE2) hB.ow [⟨0, 12, 15, 24⟩] ⟨0, 12, 19, 15⟩ [] (by rw [hT9]; rfl) (List.forall_mem_cons.mpr ⟨Or.inr ⟨by decide, XE3, hB.K.2 _ kw_550 _, hZ9.nc_23⟩, fun z9 h9 => absurd h9 List.not_mem_nil⟩) (by decide) (by decide) (hB.K.2 _ kw_435 _) hZ9.cast_XE2 hce hcv hcl ?_
  refine lv_astore (lv' := [(5, .ref q9), (0, .ref xb), (1, .int (nI f)), (2, .int (nI a0)), (3, .int (nI b0)), (4, .ref ob)]) hx hb dL_recolour_19 hl (by decide) rfl (fun ls hl => ?_)
  refine lv_iconst (v := nI 2) hx hb dL_recolour_21 (by decide) ?_
  refine mh_iret hB ⟨Nat.le_of_ble_eq_true rfl, Nat.le_of_ble_eq_true rfl⟩ hS dL_recolour_22 ⟨?_, ?_, ?_⟩
  · rfl
  · exact hC
  · exact hO

def rm_w_recolour_e : Room := { frames := 7, cells := 28, slots := 385, locals := 156 }
set_option maxRecDepth 100000 in
set_option maxHeartbeats 400000 in
theorem w_recolour_e (l : Launch) (g : GG) (H0 : Heap) (xb : Nat) (lim : Nat) (q : Nat → Int32) (n : Nat) (rm : Nat → Int32) (sl : Nat → Int32) (sv : Nat → Int32) (tx : Nat → Int32) (ln : Nat) (f : Nat) (a0 : Nat) (ob : Nat) (o : Nat → Int64) (hC : CLS g xb lim q n rm sl sv tx ln H0) (hO : at_ g H0 ob (eL g 1 o)) (hf : f < 3) (ha : a0 < 6) (hs0 : 0 < szF q f) (hs1 : swF q f = 0) (hlo : xb + 68 ≤ ob ∧ ob < lim) (hfl : l.stackTraces = false) : CtW l yL_recolour cL_recolour 6 (some .int) [(0, 12, 15, 24), (0, 12, 19, 15)] rm_w_recolour_e g xb [.ref xb, .int (nI f), .int (nI a0), .int (nI a0), .ref ob] H0 (ftA (fun q9 => ((xb ≤ q9 ∧ q9 < xb + 68) ∨ lim ≤ q9) ∨ q9 = ob) H0.size) (fun v H1 => v = some (.int (nI 0)) ∧ CLS g xb lim (recQ q f a0 a0) (nxtS n) (remA rm n q) sl sv tx ln H1 ∧ at_ g H1 ob (eL g 1 (vp_updL o 0 ((nI 0).toInt64)))) := by
  refine CtW.of (by decide) (fun _ h => Or.inr h) (Nat.le_of_ble_eq_true rfl) ?_
  intro p e s m below meth c ls hB hZ9 hT9 hS hH hl
  have hx := hB.x
  have hb := hB.b
  have hl : lv_has ls 6 [(0, .ref xb), (1, .int (nI f)), (2, .int (nI a0)), (3, .int (nI a0)), (4, .ref ob)] := hl
  refine lv_aload hx hb dL_recolour_0 (lv_at hl 4 rfl) ?_
  refine lv_iconst (v := nI 0) hx hb dL_recolour_2 (by decide) ?_
  refine lv_aload_n hx hb dL_recolour_3 rfl (lv_at hl 0 rfl) ?_
  refine lv_iload_n hx hb dL_recolour_4 rfl (lv_at hl 1 rfl) ?_
  refine lv_iload_n hx hb dL_recolour_5 rfl (lv_at hl 2 rfl) ?_
  refine lv_iload_n hx hb dL_recolour_6 rfl (lv_at hl 3 rfl) ?_
  refine cl_L_54 (As := [.int (nI f), .int (nI a0), .int (nI a0)]) (rest := [.int (nI 0), .ref ob]) hB (f_X10_recolour_e l g H0 xb lim q n rm sl sv tx ln f a0 (hC) (hf) (ha) (hs0) (hs1)) hC.ob rfl hl.1 (Nat.le_of_ble_eq_true rfl) dL_recolour_7 ⟨Nat.le_of_ble_eq_true rfl, Nat.le_of_ble_eq_true rfl⟩ ⟨Nat.le_of_ble_eq_true rfl, Nat.le_of_ble_eq_true rfl⟩ hS (by have hz9 := hS.1; rintro q9 (h9 | h9); exact Or.inl (Or.inl h9); exact Or.inr (by omega)) (fun v H1 locs hpo hfr hS => ?_)
  obtain ⟨rfl, hC⟩ := hpo
  have hO := Fr.keep hfr hO (fun y9 => by have y8 : (xb ≤ ob ∧ ob < xb + 68) ∨ lim ≤ ob := y9; omega)
  generalize H1 = H at hfr hS hO hC ⊢
  refine W.widen (k := 28) (n := 385) (Nat.le_of_ble_eq_true rfl) (Nat.le_of_ble_eq_true rfl) ?_
  refine lv_i2l (v := (nI 0).toInt64) hx hb dL_recolour_10 rfl ?_
  refine mn_last hB hO (Or.inl (Or.inr rfl)) hS (by omega) (by omega) dL_recolour_11 (fun H locs hwr => ?_)
  obtain ⟨hO, ho, hz, hS⟩ := hwr
  have hC := hC.keptO ho hz (by omega)
  refine lv_goto (tgt := 23) hx hb dL_recolour_12 (by decide) ?_
  refine lv_iconst (v := nI 0) hx hb dL_recolour_23 (by decide) ?_
  refine mh_iret hB ⟨Nat.le_of_ble_eq_true rfl, Nat.le_of_ble_eq_true rfl⟩ hS dL_recolour_24 ⟨?_, ?_, ?_⟩
  · rfl
  · exact hC
  · exact hO

def rm_w_recolour_ok : Room := { frames := 7, cells := 28, slots := 385, locals := 156 }
set_option maxRecDepth 100000 in
set_option maxHeartbeats 400000 in
theorem w_recolour_ok (l : Launch) (g : GG) (H0 : Heap) (xb : Nat) (lim : Nat) (q : Nat → Int32) (n : Nat) (rm : Nat → Int32) (sl : Nat → Int32) (sv : Nat → Int32) (tx : Nat → Int32) (ln : Nat) (f : Nat) (a0 : Nat) (b0 : Nat) (ob : Nat) (o : Nat → Int64) (hC : CLS g xb lim q n rm sl sv tx ln H0) (hO : at_ g H0 ob (eL g 1 o)) (hf : f < 3) (ha : a0 < 6) (hb8 : b0 < 6) (hs0 : 0 < szF q f) (hs1 : swF q f = 0) (hab : a0 ≠ b0) (hlo : xb + 68 ≤ ob ∧ ob < lim) (hfl : l.stackTraces = false) : CtW l yL_recolour cL_recolour 6 (some .int) [(0, 12, 15, 24), (0, 12, 19, 15)] rm_w_recolour_ok g xb [.ref xb, .int (nI f), .int (nI a0), .int (nI b0), .ref ob] H0 (ftA (fun q9 => ((xb ≤ q9 ∧ q9 < xb + 68) ∨ lim ≤ q9) ∨ q9 = ob) H0.size) (fun v H1 => v = some (.int (nI 0)) ∧ CLS g xb lim (recQ q f a0 b0) (nxtS n) (remA rm n q) sl sv tx ln H1 ∧ at_ g H1 ob (eL g 1 (vp_updL o 0 ((nI (recN q f a0 b0)).toInt64)))) := by
  refine CtW.of (by decide) (fun _ h => Or.inr h) (Nat.le_of_ble_eq_true rfl) ?_
  intro p e s m below meth c ls hB hZ9 hT9 hS hH hl
  have hx := hB.x
  have hb := hB.b
  have hl : lv_has ls 6 [(0, .ref xb), (1, .int (nI f)), (2, .int (nI a0)), (3, .int (nI b0)), (4, .ref ob)] := hl
  refine lv_aload hx hb dL_recolour_0 (lv_at hl 4 rfl) ?_
  refine lv_iconst (v := nI 0) hx hb dL_recolour_2 (by decide) ?_
  refine lv_aload_n hx hb dL_recolour_3 rfl (lv_at hl 0 rfl) ?_
  refine lv_iload_n hx hb dL_recolour_4 rfl (lv_at hl 1 rfl) ?_
  refine lv_iload_n hx hb dL_recolour_5 rfl (lv_at hl 2 rfl) ?_
  refine lv_iload_n hx hb dL_recolour_6 rfl (lv_at hl 3 rfl) ?_
  refine cl_L_54 (As := [.int (nI f), .int (nI a0), .int (nI b0)]) (rest := [.int (nI 0), .ref ob]) hB (f_X10_recolour l g H0 xb lim q n rm sl sv tx ln f a0 b0 (hC) (hf) (ha) (hb8) (hs0) (hs1) (hab)) hC.ob rfl hl.1 (Nat.le_of_ble_eq_true rfl) dL_recolour_7 ⟨Nat.le_of_ble_eq_true rfl, Nat.le_of_ble_eq_true rfl⟩ ⟨Nat.le_of_ble_eq_true rfl, Nat.le_of_ble_eq_true rfl⟩ hS (by have hz9 := hS.1; rintro q9 (h9 | h9); exact Or.inl (Or.inl h9); exact Or.inr (by omega)) (fun v H1 locs hpo hfr hS => ?_)
  obtain ⟨rfl, hC⟩ := hpo
  have hO := Fr.keep hfr hO (fun y9 => by have y8 : (xb ≤ ob ∧ ob < xb + 68) ∨ lim ≤ ob := y9; omega)
  generalize H1 = H at hfr hS hO hC ⊢
  refine W.widen (k := 28) (n := 385) (Nat.le_of_ble_eq_true rfl) (Nat.le_of_ble_eq_true rfl) ?_
  refine lv_i2l (v := (nI (recN q f a0 b0)).toInt64) hx hb dL_recolour_10 rfl ?_
  refine mn_last hB hO (Or.inl (Or.inr rfl)) hS (by omega) (by omega) dL_recolour_11 (fun H locs hwr => ?_)
  obtain ⟨hO, ho, hz, hS⟩ := hwr
  have hC := hC.keptO ho hz (by omega)
  refine lv_goto (tgt := 23) hx hb dL_recolour_12 (by decide) ?_
  refine lv_iconst (v := nI 0) hx hb dL_recolour_23 (by decide) ?_
  refine mh_iret hB ⟨Nat.le_of_ble_eq_true rfl, Nat.le_of_ble_eq_true rfl⟩ hS dL_recolour_24 ⟨?_, ?_, ?_⟩
  · rfl
  · exact hC
  · exact hO

def rm_w_sew_t1 : Room := { frames := 8, cells := 1, slots := 6, locals := 126 }
set_option maxRecDepth 100000 in
set_option maxHeartbeats 400000 in
theorem w_sew_t1 (l : Launch) (g : GG) (H0 : Heap) (xb : Nat) (lim : Nat) (q : Nat → Int32) (n : Nat) (rm : Nat → Int32) (sl : Nat → Int32) (sv : Nat → Int32) (tx : Nat → Int32) (ln : Nat) (x : Int32) (y : Int32) (ob : Nat) (o : Nat → Int64) (hC : CLS g xb lim q n rm sl sv tx ln H0) (hO : at_ g H0 ob (eL g 1 o)) (hx1 : isIx x 3 = false) (hlo : xb + 68 ≤ ob ∧ ob < lim) (hfl : l.stackTraces = false) : CtW l yL_sew cL_sew 5 (some .int) [(0, 10, 13, 24), (0, 10, 17, 13), (0, 10, 21, 15)] rm_w_sew_t1 g xb [.ref xb, .int x, .int y, .ref ob] H0 (ftA (fun q9 => ((xb ≤ q9 ∧ q9 < xb + 68) ∨ lim ≤ q9) ∨ q9 = ob) H0.size) (fun v H1 => v = some (.int (nI 1)) ∧ CLS g xb lim q n rm sl sv tx ln H1 ∧ at_ g H1 ob (eL g 1 o)) := by
  refine CtW.of (by decide) (fun _ h => Or.inr h) (Nat.le_of_ble_eq_true rfl) ?_
  intro p e s m below meth c ls hB hZ9 hT9 hS hH hl
  have hx := hB.x
  have hb := hB.b
  have hl : lv_has ls 5 [(0, .ref xb), (1, .int x), (2, .int y), (3, .ref ob)] := hl
  refine lv_aload_n hx hb dL_sew_0 rfl (lv_at hl 3 rfl) ?_
  refine lv_iconst (v := nI 0) hx hb dL_sew_1 (by decide) ?_
  refine lv_aload_n hx hb dL_sew_2 rfl (lv_at hl 0 rfl) ?_
  refine lv_iload_n hx hb dL_sew_3 rfl (lv_at hl 1 rfl) ?_
  refine lv_iload_n hx hb dL_sew_4 rfl (lv_at hl 2 rfl) ?_
  refine mx_runV (C := RX10) (n := 2) (As := [.int x, .int y]) (rest := [.int (nI 0), .ref ob]) rfl kw_781 kw_1 kw_778 kw_779 kw_780 (by decide +kernel) hB hZ9 (fx_X10_sew_t1 l g H0 xb xb lim q n rm sl sv tx ln x y (hC) (hx1) hfl (by have := hC.lsz; omega)) hC.ob rfl hl.1 (Nat.le_of_ble_eq_true rfl) dL_sew_5 ⟨Nat.le_of_ble_eq_true rfl, Nat.le_of_ble_eq_true rfl⟩ ⟨Nat.le_of_ble_eq_true rfl, Nat.le_of_ble_eq_true rfl⟩ hS (by have hz9 := hS.1; rintro q9 (h9 | h9) <;> first | exact h9.elim | exact Or.inr (by omega) | exact Or.inl (Or.inl h9)) (fun q9 H1 locs1 ce hp9 hfr9 hS hce hcv hcl => ?_)
  have hC := hC.keptX hfr9
  have hO := Fr.keep hfr9 hO (fun y9 => y9.elim)
  generalize H1 = H at hS hC hO hce
  refine vx_widen (k := 1) (n := 6) (Nat.le_of_ble_eq_true rfl) (Nat.le_of_ble_eq_true rfl) ?_
  refine vx_catch (name := XE3) hB.ow [] ⟨0, 10, 13, 24⟩ [⟨0, 10, 17, 13⟩, ⟨0, 10, 21, 15⟩] (by rw [hT9]; rfl) (fun z9 h9 => absurd h9 List.not_mem_nil) (by decide) (by decide) (hB.K.2 _ kw_550 _) hZ9.cast_XE3 hce hcv hcl ?_
  refine lv_astore (lv' := [(4, .ref q9), (0, .ref xb), (1, .int x), (2, .int y), (3, .ref ob)]) hx hb dL_sew_13 hl (by decide) rfl (fun ls hl => ?_)
  refine lv_iconst (v := nI 1) hx hb dL_sew_15 (by decide) ?_
  refine mh_iret hB ⟨Nat.le_of_ble_eq_true rfl, Nat.le_of_ble_eq_true rfl⟩ hS dL_sew_16 ⟨?_, ?_, ?_⟩
  · rfl
  · exact hC
  · exact hO

def rm_w_sew_t2 : Room := { frames := 9, cells := 1, slots := 6, locals := 146 }
set_option maxRecDepth 100000 in
set_option maxHeartbeats 400000 in
theorem w_sew_t2 (l : Launch) (g : GG) (H0 : Heap) (xb : Nat) (lim : Nat) (q : Nat → Int32) (n : Nat) (rm : Nat → Int32) (sl : Nat → Int32) (sv : Nat → Int32) (tx : Nat → Int32) (ln : Nat) (f : Nat) (y : Int32) (ob : Nat) (o : Nat → Int64) (hC : CLS g xb lim q n rm sl sv tx ln H0) (hO : at_ g H0 ob (eL g 1 o)) (hf : f < 3) (hx1 : inL y.toInt64 1 99 = false) (hlo : xb + 68 ≤ ob ∧ ob < lim) (hfl : l.stackTraces = false) : CtW l yL_sew cL_sew 5 (some .int) [(0, 10, 13, 24), (0, 10, 17, 13), (0, 10, 21, 15)] rm_w_sew_t2 g xb [.ref xb, .int (nI f), .int y, .ref ob] H0 (ftA (fun q9 => ((xb ≤ q9 ∧ q9 < xb + 68) ∨ lim ≤ q9) ∨ q9 = ob) H0.size) (fun v H1 => v = some (.int (nI 2)) ∧ CLS g xb lim q n rm sl sv tx ln H1 ∧ at_ g H1 ob (eL g 1 o)) := by
  refine CtW.of (by decide) (fun _ h => Or.inr h) (Nat.le_of_ble_eq_true rfl) ?_
  intro p e s m below meth c ls hB hZ9 hT9 hS hH hl
  have hx := hB.x
  have hb := hB.b
  have hl : lv_has ls 5 [(0, .ref xb), (1, .int (nI f)), (2, .int y), (3, .ref ob)] := hl
  refine lv_aload_n hx hb dL_sew_0 rfl (lv_at hl 3 rfl) ?_
  refine lv_iconst (v := nI 0) hx hb dL_sew_1 (by decide) ?_
  refine lv_aload_n hx hb dL_sew_2 rfl (lv_at hl 0 rfl) ?_
  refine lv_iload_n hx hb dL_sew_3 rfl (lv_at hl 1 rfl) ?_
  refine lv_iload_n hx hb dL_sew_4 rfl (lv_at hl 2 rfl) ?_
  refine mx_runV (C := RX10) (n := 2) (As := [.int (nI f), .int y]) (rest := [.int (nI 0), .ref ob]) rfl kw_781 kw_1 kw_778 kw_779 kw_780 (by decide +kernel) hB hZ9 (fx_X10_sew_t2 l g H0 xb xb lim q n rm sl sv tx ln f y (hC) (hf) (hx1) hfl (by have := hC.lsz; omega)) hC.ob rfl hl.1 (Nat.le_of_ble_eq_true rfl) dL_sew_5 ⟨Nat.le_of_ble_eq_true rfl, Nat.le_of_ble_eq_true rfl⟩ ⟨Nat.le_of_ble_eq_true rfl, Nat.le_of_ble_eq_true rfl⟩ hS (by have hz9 := hS.1; rintro q9 (h9 | h9) <;> first | exact h9.elim | exact Or.inr (by omega) | exact Or.inl (Or.inl h9)) (fun q9 H1 locs1 ce hp9 hfr9 hS hce hcv hcl => ?_)
  have hC := hC.keptX hfr9
  have hO := Fr.keep hfr9 hO (fun y9 => y9.elim)
  generalize H1 = H at hS hC hO hce
  refine vx_widen (k := 1) (n := 6) (Nat.le_of_ble_eq_true rfl) (Nat.le_of_ble_eq_true rfl) ?_
  refine vx_catch (name := XE1) hB.ow [⟨0, 10, 13, 24⟩] ⟨0, 10, 17, 13⟩ [⟨0, 10, 21, 15⟩] (by rw [hT9]; rfl) (List.forall_mem_cons.mpr ⟨Or.inr ⟨by decide, XE3, hB.K.2 _ kw_550 _, hZ9.nc_13⟩, fun z9 h9 => absurd h9 List.not_mem_nil⟩) (by decide) (by decide) (hB.K.2 _ kw_434 _) hZ9.cast_XE1 hce hcv hcl ?_
  refine lv_astore (lv' := [(4, .ref q9), (0, .ref xb), (1, .int (nI f)), (2, .int y), (3, .ref ob)]) hx hb dL_sew_17 hl (by decide) rfl (fun ls hl => ?_)
  refine lv_iconst (v := nI 2) hx hb dL_sew_19 (by decide) ?_
  refine mh_iret hB ⟨Nat.le_of_ble_eq_true rfl, Nat.le_of_ble_eq_true rfl⟩ hS dL_sew_20 ⟨?_, ?_, ?_⟩
  · rfl
  · exact hC
  · exact hO

def rm_w_sew_t3 : Room := { frames := 8, cells := 1, slots := 6, locals := 124 }
set_option maxRecDepth 100000 in
set_option maxHeartbeats 400000 in
theorem w_sew_t3 (l : Launch) (g : GG) (H0 : Heap) (xb : Nat) (lim : Nat) (q : Nat → Int32) (n : Nat) (rm : Nat → Int32) (sl : Nat → Int32) (sv : Nat → Int32) (tx : Nat → Int32) (ln : Nat) (f : Nat) (x : Nat) (ob : Nat) (o : Nat → Int64) (hC : CLS g xb lim q n rm sl sv tx ln H0) (hO : at_ g H0 ob (eL g 1 o)) (hf : f < 3) (hx1 : 0 < x) (hx2 : x < 100) (hs0 : ¬ (0 < szF q f ∧ 0 < nmQ q)) (hlo : xb + 68 ≤ ob ∧ ob < lim) (hfl : l.stackTraces = false) : CtW l yL_sew cL_sew 5 (some .int) [(0, 10, 13, 24), (0, 10, 17, 13), (0, 10, 21, 15)] rm_w_sew_t3 g xb [.ref xb, .int (nI f), .int (nI x), .ref ob] H0 (ftA (fun q9 => ((xb ≤ q9 ∧ q9 < xb + 68) ∨ lim ≤ q9) ∨ q9 = ob) H0.size) (fun v H1 => v = some (.int (nI 3)) ∧ CLS g xb lim q n rm sl sv tx ln H1 ∧ at_ g H1 ob (eL g 1 o)) := by
  refine CtW.of (by decide) (fun _ h => Or.inr h) (Nat.le_of_ble_eq_true rfl) ?_
  intro p e s m below meth c ls hB hZ9 hT9 hS hH hl
  have hx := hB.x
  have hb := hB.b
  have hl : lv_has ls 5 [(0, .ref xb), (1, .int (nI f)), (2, .int (nI x)), (3, .ref ob)] := hl
  refine lv_aload_n hx hb dL_sew_0 rfl (lv_at hl 3 rfl) ?_
  refine lv_iconst (v := nI 0) hx hb dL_sew_1 (by decide) ?_
  refine lv_aload_n hx hb dL_sew_2 rfl (lv_at hl 0 rfl) ?_
  refine lv_iload_n hx hb dL_sew_3 rfl (lv_at hl 1 rfl) ?_
  refine lv_iload_n hx hb dL_sew_4 rfl (lv_at hl 2 rfl) ?_
  refine mx_runV (C := RX10) (n := 2) (As := [.int (nI f), .int (nI x)]) (rest := [.int (nI 0), .ref ob]) rfl kw_781 kw_1 kw_778 kw_779 kw_780 (by decide +kernel) hB hZ9 (fx_X10_sew_t3 l g H0 xb xb lim q n rm sl sv tx ln f x (hC) (hf) (hx1) (hx2) (hs0) hfl (by have := hC.lsz; omega)) hC.ob rfl hl.1 (Nat.le_of_ble_eq_true rfl) dL_sew_5 ⟨Nat.le_of_ble_eq_true rfl, Nat.le_of_ble_eq_true rfl⟩ ⟨Nat.le_of_ble_eq_true rfl, Nat.le_of_ble_eq_true rfl⟩ hS (by have hz9 := hS.1; rintro q9 (h9 | h9) <;> first | exact h9.elim | exact Or.inr (by omega) | exact Or.inl (Or.inl h9)) (fun q9 H1 locs1 ce hp9 hfr9 hS hce hcv hcl => ?_)
  have hC := hC.keptX hfr9
  have hO := Fr.keep hfr9 hO (fun y9 => y9.elim)
  generalize H1 = H at hS hC hO hce
  refine vx_widen (k := 1) (n := 6) (Nat.le_of_ble_eq_true rfl) (Nat.le_of_ble_eq_true rfl) ?_
  refine vx_catch (name := XE2) hB.ow [⟨0, 10, 13, 24⟩, ⟨0, 10, 17, 13⟩] ⟨0, 10, 21, 15⟩ [] (by rw [hT9]; rfl) (List.forall_mem_cons.mpr ⟨Or.inr ⟨by decide, XE3, hB.K.2 _ kw_550 _, hZ9.nc_23⟩, List.forall_mem_cons.mpr ⟨Or.inr ⟨by decide, XE1, hB.K.2 _ kw_434 _, hZ9.nc_21⟩, fun z9 h9 => absurd h9 List.not_mem_nil⟩⟩) (by decide) (by decide) (hB.K.2 _ kw_435 _) hZ9.cast_XE2 hce hcv hcl ?_
  refine lv_astore (lv' := [(4, .ref q9), (0, .ref xb), (1, .int (nI f)), (2, .int (nI x)), (3, .ref ob)]) hx hb dL_sew_21 hl (by decide) rfl (fun ls hl => ?_)
  refine lv_iconst (v := nI 3) hx hb dL_sew_23 (by decide) ?_
  refine mh_iret hB ⟨Nat.le_of_ble_eq_true rfl, Nat.le_of_ble_eq_true rfl⟩ hS dL_sew_24 ⟨?_, ?_, ?_⟩
  · rfl
  · exact hC
  · exact hO

def rm_w_sew_ok : Room := { frames := 7, cells := 26, slots := 126, locals := 155 }
set_option maxRecDepth 100000 in
set_option maxHeartbeats 400000 in
theorem w_sew_ok (l : Launch) (g : GG) (H0 : Heap) (xb : Nat) (lim : Nat) (q : Nat → Int32) (n : Nat) (rm : Nat → Int32) (sl : Nat → Int32) (sv : Nat → Int32) (tx : Nat → Int32) (ln : Nat) (f : Nat) (x : Nat) (ob : Nat) (o : Nat → Int64) (hC : CLS g xb lim q n rm sl sv tx ln H0) (hO : at_ g H0 ob (eL g 1 o)) (hf : f < 3) (hx1 : 0 < x) (hx2 : x < 100) (hs0 : 0 < szF q f) (h0 : 0 < nmQ q) (hlo : xb + 68 ≤ ob ∧ ob < lim) (hfl : l.stackTraces = false) : CtW l yL_sew cL_sew 5 (some .int) [(0, 10, 13, 24), (0, 10, 17, 13), (0, 10, 21, 15)] rm_w_sew_ok g xb [.ref xb, .int (nI f), .int (nI x), .ref ob] H0 (ftA (fun q9 => ((xb ≤ q9 ∧ q9 < xb + 68) ∨ lim ≤ q9) ∨ q9 = ob) H0.size) (fun v H1 => v = some (.int (nI 0)) ∧ CLS g xb lim (sewE f x q) (nxtS n) (remA rm n q) sl sv tx ln H1 ∧ at_ g H1 ob (eL g 1 (vp_updL o 0 ((nI (sewN f (tnQ q) x q)).toInt64)))) := by
  refine CtW.of (by decide) (fun _ h => Or.inr h) (Nat.le_of_ble_eq_true rfl) ?_
  intro p e s m below meth c ls hB hZ9 hT9 hS hH hl
  have hx := hB.x
  have hb := hB.b
  have hl : lv_has ls 5 [(0, .ref xb), (1, .int (nI f)), (2, .int (nI x)), (3, .ref ob)] := hl
  refine lv_aload_n hx hb dL_sew_0 rfl (lv_at hl 3 rfl) ?_
  refine lv_iconst (v := nI 0) hx hb dL_sew_1 (by decide) ?_
  refine lv_aload_n hx hb dL_sew_2 rfl (lv_at hl 0 rfl) ?_
  refine lv_iload_n hx hb dL_sew_3 rfl (lv_at hl 1 rfl) ?_
  refine lv_iload_n hx hb dL_sew_4 rfl (lv_at hl 2 rfl) ?_
  refine cl_L_57 (As := [.int (nI f), .int (nI x)]) (rest := [.int (nI 0), .ref ob]) hB (f_X10_sew l g H0 xb lim q n rm sl sv tx ln f x (hC) (hf) (hx1) (hx2) (hs0) (h0)) hC.ob rfl hl.1 (Nat.le_of_ble_eq_true rfl) dL_sew_5 ⟨Nat.le_of_ble_eq_true rfl, Nat.le_of_ble_eq_true rfl⟩ ⟨Nat.le_of_ble_eq_true rfl, Nat.le_of_ble_eq_true rfl⟩ hS (by have hz9 := hS.1; rintro q9 (h9 | h9); exact Or.inl (Or.inl h9); exact Or.inr (by omega)) (fun v H1 locs hpo hfr hS => ?_)
  obtain ⟨rfl, hC⟩ := hpo
  have hO := Fr.keep hfr hO (fun y9 => by have y8 : (xb ≤ ob ∧ ob < xb + 68) ∨ lim ≤ ob := y9; omega)
  generalize H1 = H at hfr hS hO hC ⊢
  refine W.widen (k := 26) (n := 126) (Nat.le_of_ble_eq_true rfl) (Nat.le_of_ble_eq_true rfl) ?_
  refine lv_i2l (v := (nI (sewN f (tnQ q) x q)).toInt64) hx hb dL_sew_8 rfl ?_
  refine mn_last hB hO (Or.inl (Or.inr rfl)) hS (by omega) (by omega) dL_sew_9 (fun H locs hwr => ?_)
  obtain ⟨hO, ho, hz, hS⟩ := hwr
  have hC := hC.keptO ho hz (by omega)
  refine lv_goto (tgt := 25) hx hb dL_sew_10 (by decide) ?_
  refine lv_iconst (v := nI 0) hx hb dL_sew_25 (by decide) ?_
  refine mh_iret hB ⟨Nat.le_of_ble_eq_true rfl, Nat.le_of_ble_eq_true rfl⟩ hS dL_sew_26 ⟨?_, ?_, ?_⟩
  · rfl
  · exact hC
  · exact hO

def rm_w_takeApart_t1 : Room := { frames := 8, cells := 1, slots := 6, locals := 125 }
set_option maxRecDepth 100000 in
set_option maxHeartbeats 400000 in
theorem w_takeApart_t1 (l : Launch) (g : GG) (H0 : Heap) (xb : Nat) (lim : Nat) (q : Nat → Int32) (n : Nat) (rm : Nat → Int32) (sl : Nat → Int32) (sv : Nat → Int32) (tx : Nat → Int32) (ln : Nat) (x : Int32) (ob : Nat) (o : Nat → Int64) (hC : CLS g xb lim q n rm sl sv tx ln H0) (hO : at_ g H0 ob (eL g 1 o)) (hx1 : isIx x 3 = false) (hlo : xb + 68 ≤ ob ∧ ob < lim) (hfl : l.stackTraces = false) : CtW l yL_takeApart cL_takeApart 4 (some .int) [(0, 9, 12, 24), (0, 9, 15, 15)] rm_w_takeApart_t1 g xb [.ref xb, .int x, .ref ob] H0 (ftA (fun q9 => ((xb ≤ q9 ∧ q9 < xb + 68) ∨ lim ≤ q9) ∨ q9 = ob) H0.size) (fun v H1 => v = some (.int (nI 1)) ∧ CLS g xb lim q n rm sl sv tx ln H1 ∧ at_ g H1 ob (eL g 1 o)) := by
  refine CtW.of (by decide) (fun _ h => Or.inr h) (Nat.le_of_ble_eq_true rfl) ?_
  intro p e s m below meth c ls hB hZ9 hT9 hS hH hl
  have hx := hB.x
  have hb := hB.b
  have hl : lv_has ls 4 [(0, .ref xb), (1, .int x), (2, .ref ob)] := hl
  refine lv_aload_n hx hb dL_takeApart_0 rfl (lv_at hl 2 rfl) ?_
  refine lv_iconst (v := nI 0) hx hb dL_takeApart_1 (by decide) ?_
  refine lv_aload_n hx hb dL_takeApart_2 rfl (lv_at hl 0 rfl) ?_
  refine lv_iload_n hx hb dL_takeApart_3 rfl (lv_at hl 1 rfl) ?_
  refine mx_runV (C := RX10) (n := 1) (As := [.int x]) (rest := [.int (nI 0), .ref ob]) rfl kw_805 kw_1 kw_802 kw_803 kw_804 (by decide +kernel) hB hZ9 (fx_X10_takeApart_t1 l g H0 xb xb lim q n rm sl sv tx ln x (hC) (hx1) hfl (by have := hC.lsz; omega)) hC.ob rfl hl.1 (Nat.le_of_ble_eq_true rfl) dL_takeApart_4 ⟨Nat.le_of_ble_eq_true rfl, Nat.le_of_ble_eq_true rfl⟩ ⟨Nat.le_of_ble_eq_true rfl, Nat.le_of_ble_eq_true rfl⟩ hS (by have hz9 := hS.1; rintro q9 (h9 | h9) <;> first | exact h9.elim | exact Or.inr (by omega) | exact Or.inl (Or.inl h9)) (fun q9 H1 locs1 ce hp9 hfr9 hS hce hcv hcl => ?_)
  have hC := hC.keptX hfr9
  have hO := Fr.keep hfr9 hO (fun y9 => y9.elim)
  generalize H1 = H at hS hC hO hce
  refine vx_widen (k := 1) (n := 6) (Nat.le_of_ble_eq_true rfl) (Nat.le_of_ble_eq_true rfl) ?_
  refine vx_catch (name := XE3) hB.ow [] ⟨0, 9, 12, 24⟩ [⟨0, 9, 15, 15⟩] (by rw [hT9]; rfl) (fun z9 h9 => absurd h9 List.not_mem_nil) (by decide) (by decide) (hB.K.2 _ kw_550 _) hZ9.cast_XE3 hce hcv hcl ?_
  refine lv_astore_n (lv' := [(3, .ref q9), (0, .ref xb), (1, .int x), (2, .ref ob)]) hx hb dL_takeApart_12 rfl hl (by decide) rfl (fun ls hl => ?_)
  refine lv_iconst (v := nI 1) hx hb dL_takeApart_13 (by decide) ?_
  refine mh_iret hB ⟨Nat.le_of_ble_eq_true rfl, Nat.le_of_ble_eq_true rfl⟩ hS dL_takeApart_14 ⟨?_, ?_, ?_⟩
  · rfl
  · exact hC
  · exact hO

def rm_w_takeApart_t2 : Room := { frames := 8, cells := 1, slots := 6, locals := 123 }
set_option maxRecDepth 100000 in
set_option maxHeartbeats 400000 in
theorem w_takeApart_t2 (l : Launch) (g : GG) (H0 : Heap) (xb : Nat) (lim : Nat) (q : Nat → Int32) (n : Nat) (rm : Nat → Int32) (sl : Nat → Int32) (sv : Nat → Int32) (tx : Nat → Int32) (ln : Nat) (f : Nat) (ob : Nat) (o : Nat → Int64) (hC : CLS g xb lim q n rm sl sv tx ln H0) (hO : at_ g H0 ob (eL g 1 o)) (hf : f < 3) (hs0 : szF q f = 0) (hlo : xb + 68 ≤ ob ∧ ob < lim) (hfl : l.stackTraces = false) : CtW l yL_takeApart cL_takeApart 4 (some .int) [(0, 9, 12, 24), (0, 9, 15, 15)] rm_w_takeApart_t2 g xb [.ref xb, .int (nI f), .ref ob] H0 (ftA (fun q9 => ((xb ≤ q9 ∧ q9 < xb + 68) ∨ lim ≤ q9) ∨ q9 = ob) H0.size) (fun v H1 => v = some (.int (nI 2)) ∧ CLS g xb lim q n rm sl sv tx ln H1 ∧ at_ g H1 ob (eL g 1 o)) := by
  refine CtW.of (by decide) (fun _ h => Or.inr h) (Nat.le_of_ble_eq_true rfl) ?_
  intro p e s m below meth c ls hB hZ9 hT9 hS hH hl
  have hx := hB.x
  have hb := hB.b
  have hl : lv_has ls 4 [(0, .ref xb), (1, .int (nI f)), (2, .ref ob)] := hl
  refine lv_aload_n hx hb dL_takeApart_0 rfl (lv_at hl 2 rfl) ?_
  refine lv_iconst (v := nI 0) hx hb dL_takeApart_1 (by decide) ?_
  refine lv_aload_n hx hb dL_takeApart_2 rfl (lv_at hl 0 rfl) ?_
  refine lv_iload_n hx hb dL_takeApart_3 rfl (lv_at hl 1 rfl) ?_
  refine mx_runV (C := RX10) (n := 1) (As := [.int (nI f)]) (rest := [.int (nI 0), .ref ob]) rfl kw_805 kw_1 kw_802 kw_803 kw_804 (by decide +kernel) hB hZ9 (fx_X10_takeApart_t2 l g H0 xb xb lim q n rm sl sv tx ln f (hC) (hf) (hs0) hfl (by have := hC.lsz; omega)) hC.ob rfl hl.1 (Nat.le_of_ble_eq_true rfl) dL_takeApart_4 ⟨Nat.le_of_ble_eq_true rfl, Nat.le_of_ble_eq_true rfl⟩ ⟨Nat.le_of_ble_eq_true rfl, Nat.le_of_ble_eq_true rfl⟩ hS (by have hz9 := hS.1; rintro q9 (h9 | h9) <;> first | exact h9.elim | exact Or.inr (by omega) | exact Or.inl (Or.inl h9)) (fun q9 H1 locs1 ce hp9 hfr9 hS hce hcv hcl => ?_)
  have hC := hC.keptX hfr9
  have hO := Fr.keep hfr9 hO (fun y9 => y9.elim)
  generalize H1 = H at hS hC hO hce
  refine vx_widen (k := 1) (n := 6) (Nat.le_of_ble_eq_true rfl) (Nat.le_of_ble_eq_true rfl) ?_
  refine vx_catch (name := XE2) hB.ow [⟨0, 9, 12, 24⟩] ⟨0, 9, 15, 15⟩ [] (by rw [hT9]; rfl) (List.forall_mem_cons.mpr ⟨Or.inr ⟨by decide, XE3, hB.K.2 _ kw_550 _, hZ9.nc_23⟩, fun z9 h9 => absurd h9 List.not_mem_nil⟩) (by decide) (by decide) (hB.K.2 _ kw_435 _) hZ9.cast_XE2 hce hcv hcl ?_
  refine lv_astore_n (lv' := [(3, .ref q9), (0, .ref xb), (1, .int (nI f)), (2, .ref ob)]) hx hb dL_takeApart_15 rfl hl (by decide) rfl (fun ls hl => ?_)
  refine lv_iconst (v := nI 2) hx hb dL_takeApart_16 (by decide) ?_
  refine mh_iret hB ⟨Nat.le_of_ble_eq_true rfl, Nat.le_of_ble_eq_true rfl⟩ hS dL_takeApart_17 ⟨?_, ?_, ?_⟩
  · rfl
  · exact hC
  · exact hO

def rm_w_takeApart_ok : Room := { frames := 7, cells := 26, slots := 126, locals := 154 }
set_option maxRecDepth 100000 in
set_option maxHeartbeats 400000 in
theorem w_takeApart_ok (l : Launch) (g : GG) (H0 : Heap) (xb : Nat) (lim : Nat) (q : Nat → Int32) (n : Nat) (rm : Nat → Int32) (sl : Nat → Int32) (sv : Nat → Int32) (tx : Nat → Int32) (ln : Nat) (f : Nat) (ob : Nat) (o : Nat → Int64) (hC : CLS g xb lim q n rm sl sv tx ln H0) (hO : at_ g H0 ob (eL g 1 o)) (hf : f < 3) (hs0 : 0 < szF q f) (hlo : xb + 68 ≤ ob ∧ ob < lim) (hfl : l.stackTraces = false) : CtW l yL_takeApart cL_takeApart 4 (some .int) [(0, 9, 12, 24), (0, 9, 15, 15)] rm_w_takeApart_ok g xb [.ref xb, .int (nI f), .ref ob] H0 (ftA (fun q9 => ((xb ≤ q9 ∧ q9 < xb + 68) ∨ lim ≤ q9) ∨ q9 = ob) H0.size) (fun v H1 => v = some (.int (nI 0)) ∧ CLS g xb lim (tapQ q f) (nxtS n) (remA rm n q) sl sv tx ln H1 ∧ at_ g H1 ob (eL g 1 (vp_updL o 0 ((nI (swF q f)).toInt64)))) := by
  refine CtW.of (by decide) (fun _ h => Or.inr h) (Nat.le_of_ble_eq_true rfl) ?_
  intro p e s m below meth c ls hB hZ9 hT9 hS hH hl
  have hx := hB.x
  have hb := hB.b
  have hl : lv_has ls 4 [(0, .ref xb), (1, .int (nI f)), (2, .ref ob)] := hl
  refine lv_aload_n hx hb dL_takeApart_0 rfl (lv_at hl 2 rfl) ?_
  refine lv_iconst (v := nI 0) hx hb dL_takeApart_1 (by decide) ?_
  refine lv_aload_n hx hb dL_takeApart_2 rfl (lv_at hl 0 rfl) ?_
  refine lv_iload_n hx hb dL_takeApart_3 rfl (lv_at hl 1 rfl) ?_
  refine cl_L_60 (As := [.int (nI f)]) (rest := [.int (nI 0), .ref ob]) hB (f_X10_takeApart l g H0 xb lim q n rm sl sv tx ln f (hC) (hf) (hs0)) hC.ob rfl hl.1 (Nat.le_of_ble_eq_true rfl) dL_takeApart_4 ⟨Nat.le_of_ble_eq_true rfl, Nat.le_of_ble_eq_true rfl⟩ ⟨Nat.le_of_ble_eq_true rfl, Nat.le_of_ble_eq_true rfl⟩ hS (by have hz9 := hS.1; rintro q9 (h9 | h9); exact Or.inl (Or.inl h9); exact Or.inr (by omega)) (fun v H1 locs hpo hfr hS => ?_)
  obtain ⟨rfl, hC⟩ := hpo
  have hO := Fr.keep hfr hO (fun y9 => by have y8 : (xb ≤ ob ∧ ob < xb + 68) ∨ lim ≤ ob := y9; omega)
  generalize H1 = H at hfr hS hO hC ⊢
  refine W.widen (k := 26) (n := 126) (Nat.le_of_ble_eq_true rfl) (Nat.le_of_ble_eq_true rfl) ?_
  refine lv_i2l (v := (nI (swF q f)).toInt64) hx hb dL_takeApart_7 rfl ?_
  refine mn_last hB hO (Or.inl (Or.inr rfl)) hS (by omega) (by omega) dL_takeApart_8 (fun H locs hwr => ?_)
  obtain ⟨hO, ho, hz, hS⟩ := hwr
  have hC := hC.keptO ho hz (by omega)
  refine lv_goto (tgt := 18) hx hb dL_takeApart_9 (by decide) ?_
  refine lv_iconst (v := nI 0) hx hb dL_takeApart_18 (by decide) ?_
  refine mh_iret hB ⟨Nat.le_of_ble_eq_true rfl, Nat.le_of_ble_eq_true rfl⟩ hS dL_takeApart_19 ⟨?_, ?_, ?_⟩
  · rfl
  · exact hC
  · exact hO

def rm_w_raffle_t1 : Room := { frames := 8, cells := 1, slots := 6, locals := 126 }
set_option maxRecDepth 100000 in
set_option maxHeartbeats 400000 in
theorem w_raffle_t1 (l : Launch) (g : GG) (H0 : Heap) (xb : Nat) (lim : Nat) (q : Nat → Int32) (n : Nat) (rm : Nat → Int32) (sl : Nat → Int32) (sv : Nat → Int32) (tx : Nat → Int32) (ln : Nat) (x : Int32) (y : Int32) (ob : Nat) (o : Nat → Int64) (hC : CLS g xb lim q n rm sl sv tx ln H0) (hO : at_ g H0 ob (eL g 1 o)) (hx1 : isIx x 3 = false) (hlo : xb + 68 ≤ ob ∧ ob < lim) (hfl : l.stackTraces = false) : CtW l yL_raffle cL_raffle 5 (some .int) [(0, 10, 13, 24), (0, 10, 17, 13), (0, 10, 21, 15)] rm_w_raffle_t1 g xb [.ref xb, .int x, .int y, .ref ob] H0 (ftA (fun q9 => ((xb ≤ q9 ∧ q9 < xb + 68) ∨ lim ≤ q9) ∨ q9 = ob) H0.size) (fun v H1 => v = some (.int (nI 1)) ∧ CLS g xb lim q n rm sl sv tx ln H1 ∧ at_ g H1 ob (eL g 1 o)) := by
  refine CtW.of (by decide) (fun _ h => Or.inr h) (Nat.le_of_ble_eq_true rfl) ?_
  intro p e s m below meth c ls hB hZ9 hT9 hS hH hl
  have hx := hB.x
  have hb := hB.b
  have hl : lv_has ls 5 [(0, .ref xb), (1, .int x), (2, .int y), (3, .ref ob)] := hl
  refine lv_aload_n hx hb dL_raffle_0 rfl (lv_at hl 3 rfl) ?_
  refine lv_iconst (v := nI 0) hx hb dL_raffle_1 (by decide) ?_
  refine lv_aload_n hx hb dL_raffle_2 rfl (lv_at hl 0 rfl) ?_
  refine lv_iload_n hx hb dL_raffle_3 rfl (lv_at hl 1 rfl) ?_
  refine lv_iload_n hx hb dL_raffle_4 rfl (lv_at hl 2 rfl) ?_
  refine mx_runV (C := RX10) (n := 2) (As := [.int x, .int y]) (rest := [.int (nI 0), .ref ob]) rfl kw_817 kw_1 kw_814 kw_815 kw_816 (by decide +kernel) hB hZ9 (fx_X10_raffle_t1 l g H0 xb xb lim q n rm sl sv tx ln x y (hC) (hx1) hfl (by have := hC.lsz; omega)) hC.ob rfl hl.1 (Nat.le_of_ble_eq_true rfl) dL_raffle_5 ⟨Nat.le_of_ble_eq_true rfl, Nat.le_of_ble_eq_true rfl⟩ ⟨Nat.le_of_ble_eq_true rfl, Nat.le_of_ble_eq_true rfl⟩ hS (by have hz9 := hS.1; rintro q9 (h9 | h9) <;> first | exact h9.elim | exact Or.inr (by omega) | exact Or.inl (Or.inl h9)) (fun q9 H1 locs1 ce hp9 hfr9 hS hce hcv hcl => ?_)
  have hC := hC.keptX hfr9
  have hO := Fr.keep hfr9 hO (fun y9 => y9.elim)
  generalize H1 = H at hS hC hO hce
  refine vx_widen (k := 1) (n := 6) (Nat.le_of_ble_eq_true rfl) (Nat.le_of_ble_eq_true rfl) ?_
  refine vx_catch (name := XE3) hB.ow [] ⟨0, 10, 13, 24⟩ [⟨0, 10, 17, 13⟩, ⟨0, 10, 21, 15⟩] (by rw [hT9]; rfl) (fun z9 h9 => absurd h9 List.not_mem_nil) (by decide) (by decide) (hB.K.2 _ kw_550 _) hZ9.cast_XE3 hce hcv hcl ?_
  refine lv_astore (lv' := [(4, .ref q9), (0, .ref xb), (1, .int x), (2, .int y), (3, .ref ob)]) hx hb dL_raffle_13 hl (by decide) rfl (fun ls hl => ?_)
  refine lv_iconst (v := nI 1) hx hb dL_raffle_15 (by decide) ?_
  refine mh_iret hB ⟨Nat.le_of_ble_eq_true rfl, Nat.le_of_ble_eq_true rfl⟩ hS dL_raffle_16 ⟨?_, ?_, ?_⟩
  · rfl
  · exact hC
  · exact hO

def rm_w_raffle_t2 : Room := { frames := 9, cells := 1, slots := 6, locals := 146 }
set_option maxRecDepth 100000 in
set_option maxHeartbeats 400000 in
theorem w_raffle_t2 (l : Launch) (g : GG) (H0 : Heap) (xb : Nat) (lim : Nat) (q : Nat → Int32) (n : Nat) (rm : Nat → Int32) (sl : Nat → Int32) (sv : Nat → Int32) (tx : Nat → Int32) (ln : Nat) (f : Nat) (y : Int32) (ob : Nat) (o : Nat → Int64) (hC : CLS g xb lim q n rm sl sv tx ln H0) (hO : at_ g H0 ob (eL g 1 o)) (hf : f < 3) (hx1 : isIx y 10000 = false) (hlo : xb + 68 ≤ ob ∧ ob < lim) (hfl : l.stackTraces = false) : CtW l yL_raffle cL_raffle 5 (some .int) [(0, 10, 13, 24), (0, 10, 17, 13), (0, 10, 21, 15)] rm_w_raffle_t2 g xb [.ref xb, .int (nI f), .int y, .ref ob] H0 (ftA (fun q9 => ((xb ≤ q9 ∧ q9 < xb + 68) ∨ lim ≤ q9) ∨ q9 = ob) H0.size) (fun v H1 => v = some (.int (nI 2)) ∧ CLS g xb lim q n rm sl sv tx ln H1 ∧ at_ g H1 ob (eL g 1 o)) := by
  refine CtW.of (by decide) (fun _ h => Or.inr h) (Nat.le_of_ble_eq_true rfl) ?_
  intro p e s m below meth c ls hB hZ9 hT9 hS hH hl
  have hx := hB.x
  have hb := hB.b
  have hl : lv_has ls 5 [(0, .ref xb), (1, .int (nI f)), (2, .int y), (3, .ref ob)] := hl
  refine lv_aload_n hx hb dL_raffle_0 rfl (lv_at hl 3 rfl) ?_
  refine lv_iconst (v := nI 0) hx hb dL_raffle_1 (by decide) ?_
  refine lv_aload_n hx hb dL_raffle_2 rfl (lv_at hl 0 rfl) ?_
  refine lv_iload_n hx hb dL_raffle_3 rfl (lv_at hl 1 rfl) ?_
  refine lv_iload_n hx hb dL_raffle_4 rfl (lv_at hl 2 rfl) ?_
  refine mx_runV (C := RX10) (n := 2) (As := [.int (nI f), .int y]) (rest := [.int (nI 0), .ref ob]) rfl kw_817 kw_1 kw_814 kw_815 kw_816 (by decide +kernel) hB hZ9 (fx_X10_raffle_t2 l g H0 xb xb lim q n rm sl sv tx ln f y (hC) (hf) (hx1) hfl (by have := hC.lsz; omega)) hC.ob rfl hl.1 (Nat.le_of_ble_eq_true rfl) dL_raffle_5 ⟨Nat.le_of_ble_eq_true rfl, Nat.le_of_ble_eq_true rfl⟩ ⟨Nat.le_of_ble_eq_true rfl, Nat.le_of_ble_eq_true rfl⟩ hS (by have hz9 := hS.1; rintro q9 (h9 | h9) <;> first | exact h9.elim | exact Or.inr (by omega) | exact Or.inl (Or.inl h9)) (fun q9 H1 locs1 ce hp9 hfr9 hS hce hcv hcl => ?_)
  have hC := hC.keptX hfr9
  have hO := Fr.keep hfr9 hO (fun y9 => y9.elim)
  generalize H1 = H at hS hC hO hce
  refine vx_widen (k := 1) (n := 6) (Nat.le_of_ble_eq_true rfl) (Nat.le_of_ble_eq_true rfl) ?_
  refine vx_catch (name := XE1) hB.ow [⟨0, 10, 13, 24⟩] ⟨0, 10, 17, 13⟩ [⟨0, 10, 21, 15⟩] (by rw [hT9]; rfl) (List.forall_mem_cons.mpr ⟨Or.inr ⟨by decide, XE3, hB.K.2 _ kw_550 _, hZ9.nc_13⟩, fun z9 h9 => absurd h9 List.not_mem_nil⟩) (by decide) (by decide) (hB.K.2 _ kw_434 _) hZ9.cast_XE1 hce hcv hcl ?_
  refine lv_astore (lv' := [(4, .ref q9), (0, .ref xb), (1, .int (nI f)), (2, .int y), (3, .ref ob)]) hx hb dL_raffle_17 hl (by decide) rfl (fun ls hl => ?_)
  refine lv_iconst (v := nI 2) hx hb dL_raffle_19 (by decide) ?_
  refine mh_iret hB ⟨Nat.le_of_ble_eq_true rfl, Nat.le_of_ble_eq_true rfl⟩ hS dL_raffle_20 ⟨?_, ?_, ?_⟩
  · rfl
  · exact hC
  · exact hO

def rm_w_raffle_t3 : Room := { frames := 8, cells := 1, slots := 6, locals := 124 }
set_option maxRecDepth 100000 in
set_option maxHeartbeats 400000 in
theorem w_raffle_t3 (l : Launch) (g : GG) (H0 : Heap) (xb : Nat) (lim : Nat) (q : Nat → Int32) (n : Nat) (rm : Nat → Int32) (sl : Nat → Int32) (sv : Nat → Int32) (tx : Nat → Int32) (ln : Nat) (f : Nat) (p0 : Nat) (ob : Nat) (o : Nat → Int64) (hC : CLS g xb lim q n rm sl sv tx ln H0) (hO : at_ g H0 ob (eL g 1 o)) (hf : f < 3) (hp : p0 < 10000) (hs0 : ¬ (0 < szF q f ∧ swF q f = szF q f)) (hlo : xb + 68 ≤ ob ∧ ob < lim) (hfl : l.stackTraces = false) : CtW l yL_raffle cL_raffle 5 (some .int) [(0, 10, 13, 24), (0, 10, 17, 13), (0, 10, 21, 15)] rm_w_raffle_t3 g xb [.ref xb, .int (nI f), .int (nI p0), .ref ob] H0 (ftA (fun q9 => ((xb ≤ q9 ∧ q9 < xb + 68) ∨ lim ≤ q9) ∨ q9 = ob) H0.size) (fun v H1 => v = some (.int (nI 3)) ∧ CLS g xb lim q n rm sl sv tx ln H1 ∧ at_ g H1 ob (eL g 1 o)) := by
  refine CtW.of (by decide) (fun _ h => Or.inr h) (Nat.le_of_ble_eq_true rfl) ?_
  intro p e s m below meth c ls hB hZ9 hT9 hS hH hl
  have hx := hB.x
  have hb := hB.b
  have hl : lv_has ls 5 [(0, .ref xb), (1, .int (nI f)), (2, .int (nI p0)), (3, .ref ob)] := hl
  refine lv_aload_n hx hb dL_raffle_0 rfl (lv_at hl 3 rfl) ?_
  refine lv_iconst (v := nI 0) hx hb dL_raffle_1 (by decide) ?_
  refine lv_aload_n hx hb dL_raffle_2 rfl (lv_at hl 0 rfl) ?_
  refine lv_iload_n hx hb dL_raffle_3 rfl (lv_at hl 1 rfl) ?_
  refine lv_iload_n hx hb dL_raffle_4 rfl (lv_at hl 2 rfl) ?_
  refine mx_runV (C := RX10) (n := 2) (As := [.int (nI f), .int (nI p0)]) (rest := [.int (nI 0), .ref ob]) rfl kw_817 kw_1 kw_814 kw_815 kw_816 (by decide +kernel) hB hZ9 (fx_X10_raffle_t3 l g H0 xb xb lim q n rm sl sv tx ln f p0 (hC) (hf) (hp) (hs0) hfl (by have := hC.lsz; omega)) hC.ob rfl hl.1 (Nat.le_of_ble_eq_true rfl) dL_raffle_5 ⟨Nat.le_of_ble_eq_true rfl, Nat.le_of_ble_eq_true rfl⟩ ⟨Nat.le_of_ble_eq_true rfl, Nat.le_of_ble_eq_true rfl⟩ hS (by have hz9 := hS.1; rintro q9 (h9 | h9) <;> first | exact h9.elim | exact Or.inr (by omega) | exact Or.inl (Or.inl h9)) (fun q9 H1 locs1 ce hp9 hfr9 hS hce hcv hcl => ?_)
  have hC := hC.keptX hfr9
  have hO := Fr.keep hfr9 hO (fun y9 => y9.elim)
  generalize H1 = H at hS hC hO hce
  refine vx_widen (k := 1) (n := 6) (Nat.le_of_ble_eq_true rfl) (Nat.le_of_ble_eq_true rfl) ?_
  refine vx_catch (name := XE2) hB.ow [⟨0, 10, 13, 24⟩, ⟨0, 10, 17, 13⟩] ⟨0, 10, 21, 15⟩ [] (by rw [hT9]; rfl) (List.forall_mem_cons.mpr ⟨Or.inr ⟨by decide, XE3, hB.K.2 _ kw_550 _, hZ9.nc_23⟩, List.forall_mem_cons.mpr ⟨Or.inr ⟨by decide, XE1, hB.K.2 _ kw_434 _, hZ9.nc_21⟩, fun z9 h9 => absurd h9 List.not_mem_nil⟩⟩) (by decide) (by decide) (hB.K.2 _ kw_435 _) hZ9.cast_XE2 hce hcv hcl ?_
  refine lv_astore (lv' := [(4, .ref q9), (0, .ref xb), (1, .int (nI f)), (2, .int (nI p0)), (3, .ref ob)]) hx hb dL_raffle_21 hl (by decide) rfl (fun ls hl => ?_)
  refine lv_iconst (v := nI 3) hx hb dL_raffle_23 (by decide) ?_
  refine mh_iret hB ⟨Nat.le_of_ble_eq_true rfl, Nat.le_of_ble_eq_true rfl⟩ hS dL_raffle_24 ⟨?_, ?_, ?_⟩
  · rfl
  · exact hC
  · exact hO

def rm_w_raffle_ok : Room := { frames := 7, cells := 26, slots := 126, locals := 155 }
set_option maxRecDepth 100000 in
set_option maxHeartbeats 400000 in
theorem w_raffle_ok (l : Launch) (g : GG) (H0 : Heap) (xb : Nat) (lim : Nat) (q : Nat → Int32) (n : Nat) (rm : Nat → Int32) (sl : Nat → Int32) (sv : Nat → Int32) (tx : Nat → Int32) (ln : Nat) (f : Nat) (p0 : Nat) (ob : Nat) (o : Nat → Int64) (hC : CLS g xb lim q n rm sl sv tx ln H0) (hO : at_ g H0 ob (eL g 1 o)) (hf : f < 3) (hp : p0 < 10000) (hs0 : 0 < szF q f) (hs1 : swF q f = szF q f) (hlo : xb + 68 ≤ ob ∧ ob < lim) (hfl : l.stackTraces = false) : CtW l yL_raffle cL_raffle 5 (some .int) [(0, 10, 13, 24), (0, 10, 17, 13), (0, 10, 21, 15)] rm_w_raffle_ok g xb [.ref xb, .int (nI f), .int (nI p0), .ref ob] H0 (ftA (fun q9 => ((xb ≤ q9 ∧ q9 < xb + 68) ∨ lim ≤ q9) ∨ q9 = ob) H0.size) (fun v H1 => v = some (.int (nI 0)) ∧ CLS g xb lim (rafQ q f p0) (nxtS n) (remA rm n q) sl sv tx ln H1 ∧ at_ g H1 ob (eL g 1 (vp_updL o 0 ((nI (szF q f)).toInt64)))) := by
  refine CtW.of (by decide) (fun _ h => Or.inr h) (Nat.le_of_ble_eq_true rfl) ?_
  intro p e s m below meth c ls hB hZ9 hT9 hS hH hl
  have hx := hB.x
  have hb := hB.b
  have hl : lv_has ls 5 [(0, .ref xb), (1, .int (nI f)), (2, .int (nI p0)), (3, .ref ob)] := hl
  refine lv_aload_n hx hb dL_raffle_0 rfl (lv_at hl 3 rfl) ?_
  refine lv_iconst (v := nI 0) hx hb dL_raffle_1 (by decide) ?_
  refine lv_aload_n hx hb dL_raffle_2 rfl (lv_at hl 0 rfl) ?_
  refine lv_iload_n hx hb dL_raffle_3 rfl (lv_at hl 1 rfl) ?_
  refine lv_iload_n hx hb dL_raffle_4 rfl (lv_at hl 2 rfl) ?_
  refine cl_L_63 (As := [.int (nI f), .int (nI p0)]) (rest := [.int (nI 0), .ref ob]) hB (f_X10_raffle l g H0 xb lim q n rm sl sv tx ln f p0 (hC) (hf) (hp) (hs0) (hs1)) hC.ob rfl hl.1 (Nat.le_of_ble_eq_true rfl) dL_raffle_5 ⟨Nat.le_of_ble_eq_true rfl, Nat.le_of_ble_eq_true rfl⟩ ⟨Nat.le_of_ble_eq_true rfl, Nat.le_of_ble_eq_true rfl⟩ hS (by have hz9 := hS.1; rintro q9 (h9 | h9); exact Or.inl (Or.inl h9); exact Or.inr (by omega)) (fun v H1 locs hpo hfr hS => ?_)
  obtain ⟨rfl, hC⟩ := hpo
  have hO := Fr.keep hfr hO (fun y9 => by have y8 : (xb ≤ ob ∧ ob < xb + 68) ∨ lim ≤ ob := y9; omega)
  generalize H1 = H at hfr hS hO hC ⊢
  refine W.widen (k := 26) (n := 126) (Nat.le_of_ble_eq_true rfl) (Nat.le_of_ble_eq_true rfl) ?_
  refine lv_i2l (v := (nI (szF q f)).toInt64) hx hb dL_raffle_8 rfl ?_
  refine mn_last hB hO (Or.inl (Or.inr rfl)) hS (by omega) (by omega) dL_raffle_9 (fun H locs hwr => ?_)
  obtain ⟨hO, ho, hz, hS⟩ := hwr
  have hC := hC.keptO ho hz (by omega)
  refine lv_goto (tgt := 25) hx hb dL_raffle_10 (by decide) ?_
  refine lv_iconst (v := nI 0) hx hb dL_raffle_25 (by decide) ?_
  refine mh_iret hB ⟨Nat.le_of_ble_eq_true rfl, Nat.le_of_ble_eq_true rfl⟩ hS dL_raffle_26 ⟨?_, ?_, ?_⟩
  · rfl
  · exact hC
  · exact hO

def rm_w_undo_t1 : Room := { frames := 8, cells := 1, slots := 6, locals := 121 }
set_option maxRecDepth 100000 in
set_option maxHeartbeats 400000 in
theorem w_undo_t1 (l : Launch) (g : GG) (H0 : Heap) (xb : Nat) (lim : Nat) (q : Nat → Int32) (n : Nat) (rm : Nat → Int32) (sl : Nat → Int32) (sv : Nat → Int32) (tx : Nat → Int32) (ln : Nat) (ob : Nat) (o : Nat → Int64) (hC : CLS g xb lim q n rm sl sv tx ln H0) (hO : at_ g H0 ob (eL g 1 o)) (hn0 : n = 0) (hlo : xb + 68 ≤ ob ∧ ob < lim) (hfl : l.stackTraces = false) : CtW l yL_undo cL_undo 3 (some .int) [(0, 8, 11, 15)] rm_w_undo_t1 g xb [.ref xb, .ref ob] H0 (ftA (fun q9 => ((xb ≤ q9 ∧ q9 < xb + 68) ∨ lim ≤ q9) ∨ q9 = ob) H0.size) (fun v H1 => v = some (.int (nI 1)) ∧ CLS g xb lim q n rm sl sv tx ln H1 ∧ at_ g H1 ob (eL g 1 o)) := by
  refine CtW.of (by decide) (fun _ h => Or.inr h) (Nat.le_of_ble_eq_true rfl) ?_
  intro p e s m below meth c ls hB hZ9 hT9 hS hH hl
  have hx := hB.x
  have hb := hB.b
  have hl : lv_has ls 3 [(0, .ref xb), (1, .ref ob)] := hl
  refine lv_aload_n hx hb dL_undo_0 rfl (lv_at hl 1 rfl) ?_
  refine lv_iconst (v := nI 0) hx hb dL_undo_1 (by decide) ?_
  refine lv_aload_n hx hb dL_undo_2 rfl (lv_at hl 0 rfl) ?_
  refine mx_runV (C := RX10) (n := 0) (As := []) (rest := [.int (nI 0), .ref ob]) rfl kw_837 kw_1 kw_834 kw_835 kw_836 (by decide +kernel) hB hZ9 (fx_X10_undo_t1 l g H0 xb xb lim q n rm sl sv tx ln (hC) (hn0) hfl (by have := hC.lsz; omega)) hC.ob rfl hl.1 (Nat.le_of_ble_eq_true rfl) dL_undo_3 ⟨Nat.le_of_ble_eq_true rfl, Nat.le_of_ble_eq_true rfl⟩ ⟨Nat.le_of_ble_eq_true rfl, Nat.le_of_ble_eq_true rfl⟩ hS (by have hz9 := hS.1; rintro q9 (h9 | h9) <;> first | exact h9.elim | exact Or.inr (by omega) | exact Or.inl (Or.inl h9)) (fun q9 H1 locs1 ce hp9 hfr9 hS hce hcv hcl => ?_)
  have hC := hC.keptX hfr9
  have hO := Fr.keep hfr9 hO (fun y9 => y9.elim)
  generalize H1 = H at hS hC hO hce
  refine vx_widen (k := 1) (n := 6) (Nat.le_of_ble_eq_true rfl) (Nat.le_of_ble_eq_true rfl) ?_
  refine vx_catch (name := XE2) hB.ow [] ⟨0, 8, 11, 15⟩ [] (by rw [hT9]; rfl) (fun z9 h9 => absurd h9 List.not_mem_nil) (by decide) (by decide) (hB.K.2 _ kw_435 _) hZ9.cast_XE2 hce hcv hcl ?_
  refine lv_astore_n (lv' := [(2, .ref q9), (0, .ref xb), (1, .ref ob)]) hx hb dL_undo_11 rfl hl (by decide) rfl (fun ls hl => ?_)
  refine lv_iconst (v := nI 1) hx hb dL_undo_12 (by decide) ?_
  refine mh_iret hB ⟨Nat.le_of_ble_eq_true rfl, Nat.le_of_ble_eq_true rfl⟩ hS dL_undo_13 ⟨?_, ?_, ?_⟩
  · rfl
  · exact hC
  · exact hO

def rm_w_undo_ok : Room := { frames := 6, cells := 0, slots := 0, locals := 130 }
set_option maxRecDepth 100000 in
set_option maxHeartbeats 400000 in
theorem w_undo_ok (l : Launch) (g : GG) (H0 : Heap) (xb : Nat) (lim : Nat) (q : Nat → Int32) (n : Nat) (rm : Nat → Int32) (sl : Nat → Int32) (sv : Nat → Int32) (tx : Nat → Int32) (ln : Nat) (ob : Nat) (o : Nat → Int64) (hC : CLS g xb lim q n rm sl sv tx ln H0) (hO : at_ g H0 ob (eL g 1 o)) (hn0 : 0 < n) (hlo : xb + 68 ≤ ob ∧ ob < lim) (hfl : l.stackTraces = false) : CtW l yL_undo cL_undo 3 (some .int) [(0, 8, 11, 15)] rm_w_undo_ok g xb [.ref xb, .ref ob] H0 (ftA (fun q9 => ((xb ≤ q9 ∧ q9 < xb + 68) ∨ lim ≤ q9) ∨ q9 = ob) H0.size) (fun v H1 => v = some (.int (nI 0)) ∧ CLS g xb lim (row9 rm (n - 1)) (n - 1) rm sl sv tx ln H1 ∧ at_ g H1 ob (eL g 1 (vp_updL o 0 ((nI (n - 1)).toInt64)))) := by
  refine CtW.of (by decide) (fun _ h => Or.inr h) (Nat.le_of_ble_eq_true rfl) ?_
  intro p e s m below meth c ls hB hZ9 hT9 hS hH hl
  have hx := hB.x
  have hb := hB.b
  have hl : lv_has ls 3 [(0, .ref xb), (1, .ref ob)] := hl
  refine lv_aload_n hx hb dL_undo_0 rfl (lv_at hl 1 rfl) ?_
  refine lv_iconst (v := nI 0) hx hb dL_undo_1 (by decide) ?_
  refine lv_aload_n hx hb dL_undo_2 rfl (lv_at hl 0 rfl) ?_
  refine cl_L_66 (As := []) (rest := [.int (nI 0), .ref ob]) hB (f_X10_undo l g H0 xb lim q n rm sl sv tx ln (hC) (hn0)) hC.ob rfl hl.1 (Nat.le_of_ble_eq_true rfl) dL_undo_3 ⟨Nat.le_of_ble_eq_true rfl, Nat.le_of_ble_eq_true rfl⟩ ⟨Nat.le_of_ble_eq_true rfl, Nat.le_of_ble_eq_true rfl⟩ hS (by have hz9 := hS.1; rintro q9 (h9 | h9); exact Or.inl (Or.inl h9); exact Or.inr (by omega)) (fun v H1 locs hpo hfr hS => ?_)
  obtain ⟨rfl, hC⟩ := hpo
  have hO := Fr.keep hfr hO (fun y9 => by have y8 : (xb ≤ ob ∧ ob < xb + 68) ∨ lim ≤ ob := y9; omega)
  generalize H1 = H at hfr hS hO hC ⊢
  refine W.widen (k := 0) (n := 0) (Nat.le_of_ble_eq_true rfl) (Nat.le_of_ble_eq_true rfl) ?_
  refine lv_i2l (v := (nI (n - 1)).toInt64) hx hb dL_undo_6 rfl ?_
  refine mn_last hB hO (Or.inl (Or.inr rfl)) hS (by omega) (by omega) dL_undo_7 (fun H locs hwr => ?_)
  obtain ⟨hO, ho, hz, hS⟩ := hwr
  have hC := hC.keptO ho hz (by omega)
  refine lv_goto (tgt := 14) hx hb dL_undo_8 (by decide) ?_
  refine lv_iconst (v := nI 0) hx hb dL_undo_14 (by decide) ?_
  refine mh_iret hB ⟨Nat.le_of_ble_eq_true rfl, Nat.le_of_ble_eq_true rfl⟩ hS dL_undo_15 ⟨?_, ?_, ?_⟩
  · rfl
  · exact hC
  · exact hO

def rm_w_lacks_t1 : Room := { frames := 8, cells := 1, slots := 6, locals := 125 }
set_option maxRecDepth 100000 in
set_option maxHeartbeats 400000 in
theorem w_lacks_t1 (l : Launch) (g : GG) (H0 : Heap) (xb : Nat) (lim : Nat) (q : Nat → Int32) (n : Nat) (rm : Nat → Int32) (sl : Nat → Int32) (sv : Nat → Int32) (tx : Nat → Int32) (ln : Nat) (x : Int32) (y : Int32) (ob : Nat) (o : Nat → Int64) (hC : CLS g xb lim q n rm sl sv tx ln H0) (hO : at_ g H0 ob (eL g 1 o)) (hx1 : isIx y 6 = false) (hlo : xb + 68 ≤ ob ∧ ob < lim) (hfl : l.stackTraces = false) : CtW l yL_lacks cL_lacks 5 (some .int) [(0, 10, 13, 24), (0, 10, 17, 13)] rm_w_lacks_t1 g xb [.ref xb, .int x, .int y, .ref ob] H0 (ftA (fun q9 => ((xb ≤ q9 ∧ q9 < xb + 68) ∨ lim ≤ q9) ∨ q9 = ob) H0.size) (fun v H1 => v = some (.int (nI 1)) ∧ CLS g xb lim q n rm sl sv tx ln H1 ∧ at_ g H1 ob (eL g 1 o)) := by
  refine CtW.of (by decide) (fun _ h => Or.inr h) (Nat.le_of_ble_eq_true rfl) ?_
  intro p e s m below meth c ls hB hZ9 hT9 hS hH hl
  have hx := hB.x
  have hb := hB.b
  have hl : lv_has ls 5 [(0, .ref xb), (1, .int x), (2, .int y), (3, .ref ob)] := hl
  refine lv_aload_n hx hb dL_lacks_0 rfl (lv_at hl 3 rfl) ?_
  refine lv_iconst (v := nI 0) hx hb dL_lacks_1 (by decide) ?_
  refine lv_aload_n hx hb dL_lacks_2 rfl (lv_at hl 0 rfl) ?_
  refine lv_iload_n hx hb dL_lacks_3 rfl (lv_at hl 1 rfl) ?_
  refine lv_iload_n hx hb dL_lacks_4 rfl (lv_at hl 2 rfl) ?_
  refine mx_runV (C := RX10) (n := 2) (As := [.int x, .int y]) (rest := [.int (nI 0), .ref ob]) rfl kw_852 kw_1 kw_849 kw_850 kw_851 (by decide +kernel) hB hZ9 (fx_X10_lacks_t1 l g H0 xb xb lim q n rm sl sv tx ln x y (hC) (hx1) hfl (by have := hC.lsz; omega)) hC.ob rfl hl.1 (Nat.le_of_ble_eq_true rfl) dL_lacks_5 ⟨Nat.le_of_ble_eq_true rfl, Nat.le_of_ble_eq_true rfl⟩ ⟨Nat.le_of_ble_eq_true rfl, Nat.le_of_ble_eq_true rfl⟩ hS (by have hz9 := hS.1; rintro q9 (h9 | h9) <;> first | exact h9.elim | exact Or.inr (by omega) | exact Or.inl (Or.inl h9)) (fun q9 H1 locs1 ce hp9 hfr9 hS hce hcv hcl => ?_)
  have hC := hC.keptX hfr9
  have hO := Fr.keep hfr9 hO (fun y9 => y9.elim)
  generalize H1 = H at hS hC hO hce
  refine vx_widen (k := 1) (n := 6) (Nat.le_of_ble_eq_true rfl) (Nat.le_of_ble_eq_true rfl) ?_
  refine vx_catch (name := XE3) hB.ow [] ⟨0, 10, 13, 24⟩ [⟨0, 10, 17, 13⟩] (by rw [hT9]; rfl) (fun z9 h9 => absurd h9 List.not_mem_nil) (by decide) (by decide) (hB.K.2 _ kw_550 _) hZ9.cast_XE3 hce hcv hcl ?_
  refine lv_astore (lv' := [(4, .ref q9), (0, .ref xb), (1, .int x), (2, .int y), (3, .ref ob)]) hx hb dL_lacks_13 hl (by decide) rfl (fun ls hl => ?_)
  refine lv_iconst (v := nI 1) hx hb dL_lacks_15 (by decide) ?_
  refine mh_iret hB ⟨Nat.le_of_ble_eq_true rfl, Nat.le_of_ble_eq_true rfl⟩ hS dL_lacks_16 ⟨?_, ?_, ?_⟩
  · rfl
  · exact hC
  · exact hO

def rm_w_lacks_t2 : Room := { frames := 9, cells := 1, slots := 6, locals := 145 }
set_option maxRecDepth 100000 in
set_option maxHeartbeats 400000 in
theorem w_lacks_t2 (l : Launch) (g : GG) (H0 : Heap) (xb : Nat) (lim : Nat) (q : Nat → Int32) (n : Nat) (rm : Nat → Int32) (sl : Nat → Int32) (sv : Nat → Int32) (tx : Nat → Int32) (ln : Nat) (x : Int32) (c0 : Nat) (ob : Nat) (o : Nat → Int64) (hC : CLS g xb lim q n rm sl sv tx ln H0) (hO : at_ g H0 ob (eL g 1 o)) (hx1 : isIx x 8 = false) (hc : c0 < 6) (hlo : xb + 68 ≤ ob ∧ ob < lim) (hfl : l.stackTraces = false) : CtW l yL_lacks cL_lacks 5 (some .int) [(0, 10, 13, 24), (0, 10, 17, 13)] rm_w_lacks_t2 g xb [.ref xb, .int x, .int (nI c0), .ref ob] H0 (ftA (fun q9 => ((xb ≤ q9 ∧ q9 < xb + 68) ∨ lim ≤ q9) ∨ q9 = ob) H0.size) (fun v H1 => v = some (.int (nI 2)) ∧ CLS g xb lim q n rm sl sv tx ln H1 ∧ at_ g H1 ob (eL g 1 o)) := by
  refine CtW.of (by decide) (fun _ h => Or.inr h) (Nat.le_of_ble_eq_true rfl) ?_
  intro p e s m below meth c ls hB hZ9 hT9 hS hH hl
  have hx := hB.x
  have hb := hB.b
  have hl : lv_has ls 5 [(0, .ref xb), (1, .int x), (2, .int (nI c0)), (3, .ref ob)] := hl
  refine lv_aload_n hx hb dL_lacks_0 rfl (lv_at hl 3 rfl) ?_
  refine lv_iconst (v := nI 0) hx hb dL_lacks_1 (by decide) ?_
  refine lv_aload_n hx hb dL_lacks_2 rfl (lv_at hl 0 rfl) ?_
  refine lv_iload_n hx hb dL_lacks_3 rfl (lv_at hl 1 rfl) ?_
  refine lv_iload_n hx hb dL_lacks_4 rfl (lv_at hl 2 rfl) ?_
  refine mx_runV (C := RX10) (n := 2) (As := [.int x, .int (nI c0)]) (rest := [.int (nI 0), .ref ob]) rfl kw_852 kw_1 kw_849 kw_850 kw_851 (by decide +kernel) hB hZ9 (fx_X10_lacks_t2 l g H0 xb xb lim q n rm sl sv tx ln x c0 (hC) (hx1) (hc) hfl (by have := hC.lsz; omega)) hC.ob rfl hl.1 (Nat.le_of_ble_eq_true rfl) dL_lacks_5 ⟨Nat.le_of_ble_eq_true rfl, Nat.le_of_ble_eq_true rfl⟩ ⟨Nat.le_of_ble_eq_true rfl, Nat.le_of_ble_eq_true rfl⟩ hS (by have hz9 := hS.1; rintro q9 (h9 | h9) <;> first | exact h9.elim | exact Or.inr (by omega) | exact Or.inl (Or.inl h9)) (fun q9 H1 locs1 ce hp9 hfr9 hS hce hcv hcl => ?_)
  have hC := hC.keptX hfr9
  have hO := Fr.keep hfr9 hO (fun y9 => y9.elim)
  generalize H1 = H at hS hC hO hce
  refine vx_widen (k := 1) (n := 6) (Nat.le_of_ble_eq_true rfl) (Nat.le_of_ble_eq_true rfl) ?_
  refine vx_catch (name := XE1) hB.ow [⟨0, 10, 13, 24⟩] ⟨0, 10, 17, 13⟩ [] (by rw [hT9]; rfl) (List.forall_mem_cons.mpr ⟨Or.inr ⟨by decide, XE3, hB.K.2 _ kw_550 _, hZ9.nc_13⟩, fun z9 h9 => absurd h9 List.not_mem_nil⟩) (by decide) (by decide) (hB.K.2 _ kw_434 _) hZ9.cast_XE1 hce hcv hcl ?_
  refine lv_astore (lv' := [(4, .ref q9), (0, .ref xb), (1, .int x), (2, .int (nI c0)), (3, .ref ob)]) hx hb dL_lacks_17 hl (by decide) rfl (fun ls hl => ?_)
  refine lv_iconst (v := nI 2) hx hb dL_lacks_19 (by decide) ?_
  refine mh_iret hB ⟨Nat.le_of_ble_eq_true rfl, Nat.le_of_ble_eq_true rfl⟩ hS dL_lacks_20 ⟨?_, ?_, ?_⟩
  · rfl
  · exact hC
  · exact hO

def rm_w_lacks_ok : Room := { frames := 5, cells := 0, slots := 0, locals := 117 }
set_option maxRecDepth 100000 in
set_option maxHeartbeats 400000 in
theorem w_lacks_ok (l : Launch) (g : GG) (H0 : Heap) (xb : Nat) (lim : Nat) (q : Nat → Int32) (n : Nat) (rm : Nat → Int32) (sl : Nat → Int32) (sv : Nat → Int32) (tx : Nat → Int32) (ln : Nat) (s0 : Nat) (c0 : Nat) (ob : Nat) (o : Nat → Int64) (hC : CLS g xb lim q n rm sl sv tx ln H0) (hO : at_ g H0 ob (eL g 1 o)) (hs : s0 < 8) (hc : c0 < 6) (hlo : xb + 68 ≤ ob ∧ ob < lim) (hfl : l.stackTraces = false) : CtW l yL_lacks cL_lacks 5 (some .int) [(0, 10, 13, 24), (0, 10, 17, 13)] rm_w_lacks_ok g xb [.ref xb, .int (nI s0), .int (nI c0), .ref ob] H0 (ftA (fun q9 => ((xb ≤ q9 ∧ q9 < xb + 68) ∨ lim ≤ q9) ∨ q9 = ob) H0.size) (fun v H1 => v = some (.int (nI 0)) ∧ CLS g xb lim q n rm sl sv tx ln H1 ∧ at_ g H1 ob (eL g 1 (vp_updL o 0 ((misR q s0 c0).toInt64)))) := by
  refine CtW.of (by decide) (fun _ h => Or.inr h) (Nat.le_of_ble_eq_true rfl) ?_
  intro p e s m below meth c ls hB hZ9 hT9 hS hH hl
  have hx := hB.x
  have hb := hB.b
  have hl : lv_has ls 5 [(0, .ref xb), (1, .int (nI s0)), (2, .int (nI c0)), (3, .ref ob)] := hl
  refine lv_aload_n hx hb dL_lacks_0 rfl (lv_at hl 3 rfl) ?_
  refine lv_iconst (v := nI 0) hx hb dL_lacks_1 (by decide) ?_
  refine lv_aload_n hx hb dL_lacks_2 rfl (lv_at hl 0 rfl) ?_
  refine lv_iload_n hx hb dL_lacks_3 rfl (lv_at hl 1 rfl) ?_
  refine lv_iload_n hx hb dL_lacks_4 rfl (lv_at hl 2 rfl) ?_
  refine cl_L_69 (As := [.int (nI s0), .int (nI c0)]) (rest := [.int (nI 0), .ref ob]) hB (f_X10_lacks l g H0 xb lim q n rm sl sv tx ln s0 c0 (hC) (hs) (hc)) hC.ob rfl hl.1 (Nat.le_of_ble_eq_true rfl) dL_lacks_5 ⟨Nat.le_of_ble_eq_true rfl, Nat.le_of_ble_eq_true rfl⟩ ⟨Nat.le_of_ble_eq_true rfl, Nat.le_of_ble_eq_true rfl⟩ hS (by have hz9 := hS.1; rintro q (h | h) <;> first | exact Or.inr (by omega) | exact h.elim | exact Or.inl h | (simp only [ftA] at h ⊢; omega)) (fun v H1 locs hpo hfr hS => ?_)
  obtain ⟨rfl, rfl⟩ := hpo
  refine W.widen (k := 0) (n := 0) (Nat.le_of_ble_eq_true rfl) (Nat.le_of_ble_eq_true rfl) ?_
  refine lv_i2l (v := (misR q s0 c0).toInt64) hx hb dL_lacks_8 rfl ?_
  refine mn_last hB hO (Or.inl (Or.inr rfl)) hS (by omega) (by omega) dL_lacks_9 (fun H locs hwr => ?_)
  obtain ⟨hO, ho, hz, hS⟩ := hwr
  have hC := hC.keptO ho hz (by omega)
  refine lv_goto (tgt := 21) hx hb dL_lacks_10 (by decide) ?_
  refine lv_iconst (v := nI 0) hx hb dL_lacks_21 (by decide) ?_
  refine mh_iret hB ⟨Nat.le_of_ble_eq_true rfl, Nat.le_of_ble_eq_true rfl⟩ hS dL_lacks_22 ⟨?_, ?_, ?_⟩
  · rfl
  · exact hC
  · exact hO

def rm_w_wouldGet_t1 : Room := { frames := 8, cells := 1, slots := 6, locals := 127 }
set_option maxRecDepth 100000 in
set_option maxHeartbeats 400000 in
theorem w_wouldGet_t1 (l : Launch) (g : GG) (H0 : Heap) (xb : Nat) (lim : Nat) (q : Nat → Int32) (n : Nat) (rm : Nat → Int32) (sl : Nat → Int32) (sv : Nat → Int32) (tx : Nat → Int32) (ln : Nat) (x : Int32) (y : Int32) (z : Int32) (ob : Nat) (o : Nat → Int64) (hC : CLS g xb lim q n rm sl sv tx ln H0) (hO : at_ g H0 ob (eL g 1 o)) (hx1 : isIx x 3 = false) (hlo : xb + 68 ≤ ob ∧ ob < lim) (hfl : l.stackTraces = false) : CtW l yL_wouldGet cL_wouldGet 6 (some .int) [(0, 12, 15, 24), (0, 12, 19, 13)] rm_w_wouldGet_t1 g xb [.ref xb, .int x, .int y, .int z, .ref ob] H0 (ftA (fun q9 => ((xb ≤ q9 ∧ q9 < xb + 68) ∨ lim ≤ q9) ∨ q9 = ob) H0.size) (fun v H1 => v = some (.int (nI 1)) ∧ CLS g xb lim q n rm sl sv tx ln H1 ∧ at_ g H1 ob (eL g 1 o)) := by
  refine CtW.of (by decide) (fun _ h => Or.inr h) (Nat.le_of_ble_eq_true rfl) ?_
  intro p e s m below meth c ls hB hZ9 hT9 hS hH hl
  have hx := hB.x
  have hb := hB.b
  have hl : lv_has ls 6 [(0, .ref xb), (1, .int x), (2, .int y), (3, .int z), (4, .ref ob)] := hl
  refine lv_aload hx hb dL_wouldGet_0 (lv_at hl 4 rfl) ?_
  refine lv_iconst (v := nI 0) hx hb dL_wouldGet_2 (by decide) ?_
  refine lv_aload_n hx hb dL_wouldGet_3 rfl (lv_at hl 0 rfl) ?_
  refine lv_iload_n hx hb dL_wouldGet_4 rfl (lv_at hl 1 rfl) ?_
  refine lv_iload_n hx hb dL_wouldGet_5 rfl (lv_at hl 2 rfl) ?_
  refine lv_iload_n hx hb dL_wouldGet_6 rfl (lv_at hl 3 rfl) ?_
  refine mx_runV (C := RX10) (n := 3) (As := [.int x, .int y, .int z]) (rest := [.int (nI 0), .ref ob]) rfl kw_860 kw_1 kw_857 kw_858 kw_859 (by decide +kernel) hB hZ9 (fx_X10_wouldGet_t1 l g H0 xb xb lim q n rm sl sv tx ln x y z (hC) (hx1) hfl (by have := hC.lsz; omega)) hC.ob rfl hl.1 (Nat.le_of_ble_eq_true rfl) dL_wouldGet_7 ⟨Nat.le_of_ble_eq_true rfl, Nat.le_of_ble_eq_true rfl⟩ ⟨Nat.le_of_ble_eq_true rfl, Nat.le_of_ble_eq_true rfl⟩ hS (by have hz9 := hS.1; rintro q9 (h9 | h9) <;> first | exact h9.elim | exact Or.inr (by omega) | exact Or.inl (Or.inl h9)) (fun q9 H1 locs1 ce hp9 hfr9 hS hce hcv hcl => ?_)
  have hC := hC.keptX hfr9
  have hO := Fr.keep hfr9 hO (fun y9 => y9.elim)
  generalize H1 = H at hS hC hO hce
  refine vx_widen (k := 1) (n := 6) (Nat.le_of_ble_eq_true rfl) (Nat.le_of_ble_eq_true rfl) ?_
  refine vx_catch (name := XE3) hB.ow [] ⟨0, 12, 15, 24⟩ [⟨0, 12, 19, 13⟩] (by rw [hT9]; rfl) (fun z9 h9 => absurd h9 List.not_mem_nil) (by decide) (by decide) (hB.K.2 _ kw_550 _) hZ9.cast_XE3 hce hcv hcl ?_
  refine lv_astore (lv' := [(5, .ref q9), (0, .ref xb), (1, .int x), (2, .int y), (3, .int z), (4, .ref ob)]) hx hb dL_wouldGet_15 hl (by decide) rfl (fun ls hl => ?_)
  refine lv_iconst (v := nI 1) hx hb dL_wouldGet_17 (by decide) ?_
  refine mh_iret hB ⟨Nat.le_of_ble_eq_true rfl, Nat.le_of_ble_eq_true rfl⟩ hS dL_wouldGet_18 ⟨?_, ?_, ?_⟩
  · rfl
  · exact hC
  · exact hO

def rm_w_wouldGet_t1b : Room := { frames := 8, cells := 1, slots := 6, locals := 127 }
set_option maxRecDepth 100000 in
set_option maxHeartbeats 400000 in
theorem w_wouldGet_t1b (l : Launch) (g : GG) (H0 : Heap) (xb : Nat) (lim : Nat) (q : Nat → Int32) (n : Nat) (rm : Nat → Int32) (sl : Nat → Int32) (sv : Nat → Int32) (tx : Nat → Int32) (ln : Nat) (f : Nat) (y : Int32) (z : Int32) (ob : Nat) (o : Nat → Int64) (hC : CLS g xb lim q n rm sl sv tx ln H0) (hO : at_ g H0 ob (eL g 1 o)) (hf : f < 3) (hx1 : isIx y (nmQ q) = false) (hlo : xb + 68 ≤ ob ∧ ob < lim) (hfl : l.stackTraces = false) : CtW l yL_wouldGet cL_wouldGet 6 (some .int) [(0, 12, 15, 24), (0, 12, 19, 13)] rm_w_wouldGet_t1b g xb [.ref xb, .int (nI f), .int y, .int z, .ref ob] H0 (ftA (fun q9 => ((xb ≤ q9 ∧ q9 < xb + 68) ∨ lim ≤ q9) ∨ q9 = ob) H0.size) (fun v H1 => v = some (.int (nI 1)) ∧ CLS g xb lim q n rm sl sv tx ln H1 ∧ at_ g H1 ob (eL g 1 o)) := by
  refine CtW.of (by decide) (fun _ h => Or.inr h) (Nat.le_of_ble_eq_true rfl) ?_
  intro p e s m below meth c ls hB hZ9 hT9 hS hH hl
  have hx := hB.x
  have hb := hB.b
  have hl : lv_has ls 6 [(0, .ref xb), (1, .int (nI f)), (2, .int y), (3, .int z), (4, .ref ob)] := hl
  refine lv_aload hx hb dL_wouldGet_0 (lv_at hl 4 rfl) ?_
  refine lv_iconst (v := nI 0) hx hb dL_wouldGet_2 (by decide) ?_
  refine lv_aload_n hx hb dL_wouldGet_3 rfl (lv_at hl 0 rfl) ?_
  refine lv_iload_n hx hb dL_wouldGet_4 rfl (lv_at hl 1 rfl) ?_
  refine lv_iload_n hx hb dL_wouldGet_5 rfl (lv_at hl 2 rfl) ?_
  refine lv_iload_n hx hb dL_wouldGet_6 rfl (lv_at hl 3 rfl) ?_
  refine mx_runV (C := RX10) (n := 3) (As := [.int (nI f), .int y, .int z]) (rest := [.int (nI 0), .ref ob]) rfl kw_860 kw_1 kw_857 kw_858 kw_859 (by decide +kernel) hB hZ9 (fx_X10_wouldGet_t1b l g H0 xb xb lim q n rm sl sv tx ln f y z (hC) (hf) (hx1) hfl (by have := hC.lsz; omega)) hC.ob rfl hl.1 (Nat.le_of_ble_eq_true rfl) dL_wouldGet_7 ⟨Nat.le_of_ble_eq_true rfl, Nat.le_of_ble_eq_true rfl⟩ ⟨Nat.le_of_ble_eq_true rfl, Nat.le_of_ble_eq_true rfl⟩ hS (by have hz9 := hS.1; rintro q9 (h9 | h9) <;> first | exact h9.elim | exact Or.inr (by omega) | exact Or.inl (Or.inl h9)) (fun q9 H1 locs1 ce hp9 hfr9 hS hce hcv hcl => ?_)
  have hC := hC.keptX hfr9
  have hO := Fr.keep hfr9 hO (fun y9 => y9.elim)
  generalize H1 = H at hS hC hO hce
  refine vx_widen (k := 1) (n := 6) (Nat.le_of_ble_eq_true rfl) (Nat.le_of_ble_eq_true rfl) ?_
  refine vx_catch (name := XE3) hB.ow [] ⟨0, 12, 15, 24⟩ [⟨0, 12, 19, 13⟩] (by rw [hT9]; rfl) (fun z9 h9 => absurd h9 List.not_mem_nil) (by decide) (by decide) (hB.K.2 _ kw_550 _) hZ9.cast_XE3 hce hcv hcl ?_
  refine lv_astore (lv' := [(5, .ref q9), (0, .ref xb), (1, .int (nI f)), (2, .int y), (3, .int z), (4, .ref ob)]) hx hb dL_wouldGet_15 hl (by decide) rfl (fun ls hl => ?_)
  refine lv_iconst (v := nI 1) hx hb dL_wouldGet_17 (by decide) ?_
  refine mh_iret hB ⟨Nat.le_of_ble_eq_true rfl, Nat.le_of_ble_eq_true rfl⟩ hS dL_wouldGet_18 ⟨?_, ?_, ?_⟩
  · rfl
  · exact hC
  · exact hO

def rm_w_wouldGet_t2 : Room := { frames := 9, cells := 1, slots := 6, locals := 147 }
set_option maxRecDepth 100000 in
set_option maxHeartbeats 400000 in
theorem w_wouldGet_t2 (l : Launch) (g : GG) (H0 : Heap) (xb : Nat) (lim : Nat) (q : Nat → Int32) (n : Nat) (rm : Nat → Int32) (sl : Nat → Int32) (sv : Nat → Int32) (tx : Nat → Int32) (ln : Nat) (f : Nat) (m0 : Nat) (z : Int32) (ob : Nat) (o : Nat → Int64) (hC : CLS g xb lim q n rm sl sv tx ln H0) (hO : at_ g H0 ob (eL g 1 o)) (hf : f < 3) (hm : m0 < nmQ q) (hx1 : isIx z 10000 = false) (hlo : xb + 68 ≤ ob ∧ ob < lim) (hfl : l.stackTraces = false) : CtW l yL_wouldGet cL_wouldGet 6 (some .int) [(0, 12, 15, 24), (0, 12, 19, 13)] rm_w_wouldGet_t2 g xb [.ref xb, .int (nI f), .int (nI m0), .int z, .ref ob] H0 (ftA (fun q9 => ((xb ≤ q9 ∧ q9 < xb + 68) ∨ lim ≤ q9) ∨ q9 = ob) H0.size) (fun v H1 => v = some (.int (nI 2)) ∧ CLS g xb lim q n rm sl sv tx ln H1 ∧ at_ g H1 ob (eL g 1 o)) := by
  refine CtW.of (by decide) (fun _ h => Or.inr h) (Nat.le_of_ble_eq_true rfl) ?_
  intro p e s m below meth c ls hB hZ9 hT9 hS hH hl
  have hx := hB.x
  have hb := hB.b
  have hl : lv_has ls 6 [(0, .ref xb), (1, .int (nI f)), (2, .int (nI m0)), (3, .int z), (4, .ref ob)] := hl
  refine lv_aload hx hb dL_wouldGet_0 (lv_at hl 4 rfl) ?_
  refine lv_iconst (v := nI 0) hx hb dL_wouldGet_2 (by decide) ?_
  refine lv_aload_n hx hb dL_wouldGet_3 rfl (lv_at hl 0 rfl) ?_
  refine lv_iload_n hx hb dL_wouldGet_4 rfl (lv_at hl 1 rfl) ?_
  refine lv_iload_n hx hb dL_wouldGet_5 rfl (lv_at hl 2 rfl) ?_
  refine lv_iload_n hx hb dL_wouldGet_6 rfl (lv_at hl 3 rfl) ?_
  refine mx_runV (C := RX10) (n := 3) (As := [.int (nI f), .int (nI m0), .int z]) (rest := [.int (nI 0), .ref ob]) rfl kw_860 kw_1 kw_857 kw_858 kw_859 (by decide +kernel) hB hZ9 (fx_X10_wouldGet_t2 l g H0 xb xb lim q n rm sl sv tx ln f m0 z (hC) (hf) (hm) (hx1) hfl (by have := hC.lsz; omega)) hC.ob rfl hl.1 (Nat.le_of_ble_eq_true rfl) dL_wouldGet_7 ⟨Nat.le_of_ble_eq_true rfl, Nat.le_of_ble_eq_true rfl⟩ ⟨Nat.le_of_ble_eq_true rfl, Nat.le_of_ble_eq_true rfl⟩ hS (by have hz9 := hS.1; rintro q9 (h9 | h9) <;> first | exact h9.elim | exact Or.inr (by omega) | exact Or.inl (Or.inl h9)) (fun q9 H1 locs1 ce hp9 hfr9 hS hce hcv hcl => ?_)
  have hC := hC.keptX hfr9
  have hO := Fr.keep hfr9 hO (fun y9 => y9.elim)
  generalize H1 = H at hS hC hO hce
  refine vx_widen (k := 1) (n := 6) (Nat.le_of_ble_eq_true rfl) (Nat.le_of_ble_eq_true rfl) ?_
  refine vx_catch (name := XE1) hB.ow [⟨0, 12, 15, 24⟩] ⟨0, 12, 19, 13⟩ [] (by rw [hT9]; rfl) (List.forall_mem_cons.mpr ⟨Or.inr ⟨by decide, XE3, hB.K.2 _ kw_550 _, hZ9.nc_13⟩, fun z9 h9 => absurd h9 List.not_mem_nil⟩) (by decide) (by decide) (hB.K.2 _ kw_434 _) hZ9.cast_XE1 hce hcv hcl ?_
  refine lv_astore (lv' := [(5, .ref q9), (0, .ref xb), (1, .int (nI f)), (2, .int (nI m0)), (3, .int z), (4, .ref ob)]) hx hb dL_wouldGet_19 hl (by decide) rfl (fun ls hl => ?_)
  refine lv_iconst (v := nI 2) hx hb dL_wouldGet_21 (by decide) ?_
  refine mh_iret hB ⟨Nat.le_of_ble_eq_true rfl, Nat.le_of_ble_eq_true rfl⟩ hS dL_wouldGet_22 ⟨?_, ?_, ?_⟩
  · rfl
  · exact hC
  · exact hO

def rm_w_wouldGet_no : Room := { frames := 4, cells := 0, slots := 0, locals := 84 }
set_option maxRecDepth 100000 in
set_option maxHeartbeats 400000 in
theorem w_wouldGet_no (l : Launch) (g : GG) (H0 : Heap) (xb : Nat) (lim : Nat) (q : Nat → Int32) (n : Nat) (rm : Nat → Int32) (sl : Nat → Int32) (sv : Nat → Int32) (tx : Nat → Int32) (ln : Nat) (f : Nat) (m0 : Nat) (p0 : Nat) (ob : Nat) (o : Nat → Int64) (hC : CLS g xb lim q n rm sl sv tx ln H0) (hO : at_ g H0 ob (eL g 1 o)) (hf : f < 3) (hm : m0 < nmQ q) (hp : p0 < 10000) (hs0 : ¬ (0 < szF q f ∧ swF q f = szF q f)) (hlo : xb + 68 ≤ ob ∧ ob < lim) (hfl : l.stackTraces = false) : CtW l yL_wouldGet cL_wouldGet 6 (some .int) [(0, 12, 15, 24), (0, 12, 19, 13)] rm_w_wouldGet_no g xb [.ref xb, .int (nI f), .int (nI m0), .int (nI p0), .ref ob] H0 (ftA (fun q9 => ((xb ≤ q9 ∧ q9 < xb + 68) ∨ lim ≤ q9) ∨ q9 = ob) H0.size) (fun v H1 => v = some (.int (nI 0)) ∧ CLS g xb lim q n rm sl sv tx ln H1 ∧ at_ g H1 ob (eL g 1 (vp_updL o 0 (((-9)).toInt64)))) := by
  refine CtW.of (by decide) (fun _ h => Or.inr h) (Nat.le_of_ble_eq_true rfl) ?_
  intro p e s m below meth c ls hB hZ9 hT9 hS hH hl
  have hx := hB.x
  have hb := hB.b
  have hl : lv_has ls 6 [(0, .ref xb), (1, .int (nI f)), (2, .int (nI m0)), (3, .int (nI p0)), (4, .ref ob)] := hl
  refine lv_aload hx hb dL_wouldGet_0 (lv_at hl 4 rfl) ?_
  refine lv_iconst (v := nI 0) hx hb dL_wouldGet_2 (by decide) ?_
  refine lv_aload_n hx hb dL_wouldGet_3 rfl (lv_at hl 0 rfl) ?_
  refine lv_iload_n hx hb dL_wouldGet_4 rfl (lv_at hl 1 rfl) ?_
  refine lv_iload_n hx hb dL_wouldGet_5 rfl (lv_at hl 2 rfl) ?_
  refine lv_iload_n hx hb dL_wouldGet_6 rfl (lv_at hl 3 rfl) ?_
  refine cl_L_72 (As := [.int (nI f), .int (nI m0), .int (nI p0)]) (rest := [.int (nI 0), .ref ob]) hB (f_X10_wouldGet_no l g H0 xb lim q n rm sl sv tx ln f m0 p0 (hC) (hf) (hm) (hp) (hs0)) hC.ob rfl hl.1 (Nat.le_of_ble_eq_true rfl) dL_wouldGet_7 ⟨Nat.le_of_ble_eq_true rfl, Nat.le_of_ble_eq_true rfl⟩ ⟨Nat.le_of_ble_eq_true rfl, Nat.le_of_ble_eq_true rfl⟩ hS (by have hz9 := hS.1; rintro q (h | h) <;> first | exact Or.inr (by omega) | exact h.elim | exact Or.inl h | (simp only [ftA] at h ⊢; omega)) (fun v H1 locs hpo hfr hS => ?_)
  obtain ⟨rfl, rfl⟩ := hpo
  refine W.widen (k := 0) (n := 0) (Nat.le_of_ble_eq_true rfl) (Nat.le_of_ble_eq_true rfl) ?_
  refine lv_i2l (v := ((-9)).toInt64) hx hb dL_wouldGet_10 rfl ?_
  refine mn_last hB hO (Or.inl (Or.inr rfl)) hS (by omega) (by omega) dL_wouldGet_11 (fun H locs hwr => ?_)
  obtain ⟨hO, ho, hz, hS⟩ := hwr
  have hC := hC.keptO ho hz (by omega)
  refine lv_goto (tgt := 23) hx hb dL_wouldGet_12 (by decide) ?_
  refine lv_iconst (v := nI 0) hx hb dL_wouldGet_23 (by decide) ?_
  refine mh_iret hB ⟨Nat.le_of_ble_eq_true rfl, Nat.le_of_ble_eq_true rfl⟩ hS dL_wouldGet_24 ⟨?_, ?_, ?_⟩
  · rfl
  · exact hC
  · exact hO

def rm_w_wouldGet_ok : Room := { frames := 4, cells := 0, slots := 0, locals := 93 }
set_option maxRecDepth 100000 in
set_option maxHeartbeats 400000 in
theorem w_wouldGet_ok (l : Launch) (g : GG) (H0 : Heap) (xb : Nat) (lim : Nat) (q : Nat → Int32) (n : Nat) (rm : Nat → Int32) (sl : Nat → Int32) (sv : Nat → Int32) (tx : Nat → Int32) (ln : Nat) (f : Nat) (m0 : Nat) (p0 : Nat) (ob : Nat) (o : Nat → Int64) (hC : CLS g xb lim q n rm sl sv tx ln H0) (hO : at_ g H0 ob (eL g 1 o)) (hf : f < 3) (hm : m0 < nmQ q) (hp : p0 < 10000) (hs0 : 0 < szF q f) (hs1 : swF q f = szF q f) (hlo : xb + 68 ≤ ob ∧ ob < lim) (hfl : l.stackTraces = false) : CtW l yL_wouldGet cL_wouldGet 6 (some .int) [(0, 12, 15, 24), (0, 12, 19, 13)] rm_w_wouldGet_ok g xb [.ref xb, .int (nI f), .int (nI m0), .int (nI p0), .ref ob] H0 (ftA (fun q9 => ((xb ≤ q9 ∧ q9 < xb + 68) ∨ lim ≤ q9) ∨ q9 = ob) H0.size) (fun v H1 => v = some (.int (nI 0)) ∧ CLS g xb lim q n rm sl sv tx ln H1 ∧ at_ g H1 ob (eL g 1 (vp_updL o 0 ((shrQ q f p0 m0).toInt64)))) := by
  refine CtW.of (by decide) (fun _ h => Or.inr h) (Nat.le_of_ble_eq_true rfl) ?_
  intro p e s m below meth c ls hB hZ9 hT9 hS hH hl
  have hx := hB.x
  have hb := hB.b
  have hl : lv_has ls 6 [(0, .ref xb), (1, .int (nI f)), (2, .int (nI m0)), (3, .int (nI p0)), (4, .ref ob)] := hl
  refine lv_aload hx hb dL_wouldGet_0 (lv_at hl 4 rfl) ?_
  refine lv_iconst (v := nI 0) hx hb dL_wouldGet_2 (by decide) ?_
  refine lv_aload_n hx hb dL_wouldGet_3 rfl (lv_at hl 0 rfl) ?_
  refine lv_iload_n hx hb dL_wouldGet_4 rfl (lv_at hl 1 rfl) ?_
  refine lv_iload_n hx hb dL_wouldGet_5 rfl (lv_at hl 2 rfl) ?_
  refine lv_iload_n hx hb dL_wouldGet_6 rfl (lv_at hl 3 rfl) ?_
  refine cl_L_72 (As := [.int (nI f), .int (nI m0), .int (nI p0)]) (rest := [.int (nI 0), .ref ob]) hB (f_X10_wouldGet l g H0 xb lim q n rm sl sv tx ln f m0 p0 (hC) (hf) (hm) (hp) (hs0) (hs1)) hC.ob rfl hl.1 (Nat.le_of_ble_eq_true rfl) dL_wouldGet_7 ⟨Nat.le_of_ble_eq_true rfl, Nat.le_of_ble_eq_true rfl⟩ ⟨Nat.le_of_ble_eq_true rfl, Nat.le_of_ble_eq_true rfl⟩ hS (by have hz9 := hS.1; rintro q (h | h) <;> first | exact Or.inr (by omega) | exact h.elim | exact Or.inl h | (simp only [ftA] at h ⊢; omega)) (fun v H1 locs hpo hfr hS => ?_)
  obtain ⟨rfl, rfl⟩ := hpo
  refine W.widen (k := 0) (n := 0) (Nat.le_of_ble_eq_true rfl) (Nat.le_of_ble_eq_true rfl) ?_
  refine lv_i2l (v := (shrQ q f p0 m0).toInt64) hx hb dL_wouldGet_10 rfl ?_
  refine mn_last hB hO (Or.inl (Or.inr rfl)) hS (by omega) (by omega) dL_wouldGet_11 (fun H locs hwr => ?_)
  obtain ⟨hO, ho, hz, hS⟩ := hwr
  have hC := hC.keptO ho hz (by omega)
  refine lv_goto (tgt := 23) hx hb dL_wouldGet_12 (by decide) ?_
  refine lv_iconst (v := nI 0) hx hb dL_wouldGet_23 (by decide) ?_
  refine mh_iret hB ⟨Nat.le_of_ble_eq_true rfl, Nat.le_of_ble_eq_true rfl⟩ hS dL_wouldGet_24 ⟨?_, ?_, ?_⟩
  · rfl
  · exact hC
  · exact hO

def rm_w_becomes_t1 : Room := { frames := 8, cells := 1, slots := 6, locals := 128 }
set_option maxRecDepth 100000 in
set_option maxHeartbeats 400000 in
theorem w_becomes_t1 (l : Launch) (g : GG) (H0 : Heap) (xb : Nat) (lim : Nat) (q : Nat → Int32) (n : Nat) (rm : Nat → Int32) (sl : Nat → Int32) (sv : Nat → Int32) (tx : Nat → Int32) (ln : Nat) (x : Int32) (y : Int32) (ob : Nat) (o : Nat → Int64) (hC : CLS g xb lim q n rm sl sv tx ln H0) (hO : at_ g H0 ob (eL g 1 o)) (hx1 : isIx x 3 = false) (hlo : xb + 68 ≤ ob ∧ ob < lim) (hfl : l.stackTraces = false) : CtW l yL_becomes cL_becomes 5 (some .int) [(0, 10, 13, 24)] rm_w_becomes_t1 g xb [.ref xb, .int x, .int y, .ref ob] H0 (ftA (fun q9 => ((xb ≤ q9 ∧ q9 < xb + 68) ∨ lim ≤ q9) ∨ q9 = ob) H0.size) (fun v H1 => v = some (.int (nI 1)) ∧ CLS g xb lim q n rm sl sv tx ln H1 ∧ at_ g H1 ob (eL g 1 o)) := by
  refine CtW.of (by decide) (fun _ h => Or.inr h) (Nat.le_of_ble_eq_true rfl) ?_
  intro p e s m below meth c ls hB hZ9 hT9 hS hH hl
  have hx := hB.x
  have hb := hB.b
  have hl : lv_has ls 5 [(0, .ref xb), (1, .int x), (2, .int y), (3, .ref ob)] := hl
  refine lv_aload_n hx hb dL_becomes_0 rfl (lv_at hl 3 rfl) ?_
  refine lv_iconst (v := nI 0) hx hb dL_becomes_1 (by decide) ?_
  refine lv_aload_n hx hb dL_becomes_2 rfl (lv_at hl 0 rfl) ?_
  refine lv_iload_n hx hb dL_becomes_3 rfl (lv_at hl 1 rfl) ?_
  refine lv_iload_n hx hb dL_becomes_4 rfl (lv_at hl 2 rfl) ?_
  refine mx_runV (C := RX10) (n := 2) (As := [.int x, .int y]) (rest := [.int (nI 0), .ref ob]) rfl kw_868 kw_1 kw_865 kw_866 kw_867 (by decide +kernel) hB hZ9 (fx_X10_becomes_t1 l g H0 xb xb lim q n rm sl sv tx ln x y (hC) (hx1) hfl (by have := hC.lsz; omega)) hC.ob rfl hl.1 (Nat.le_of_ble_eq_true rfl) dL_becomes_5 ⟨Nat.le_of_ble_eq_true rfl, Nat.le_of_ble_eq_true rfl⟩ ⟨Nat.le_of_ble_eq_true rfl, Nat.le_of_ble_eq_true rfl⟩ hS (by have hz9 := hS.1; rintro q9 (h9 | h9) <;> first | exact h9.elim | exact Or.inr (by omega) | exact Or.inl (Or.inl h9)) (fun q9 H1 locs1 ce hp9 hfr9 hS hce hcv hcl => ?_)
  have hC := hC.keptX hfr9
  have hO := Fr.keep hfr9 hO (fun y9 => y9.elim)
  generalize H1 = H at hS hC hO hce
  refine vx_widen (k := 1) (n := 6) (Nat.le_of_ble_eq_true rfl) (Nat.le_of_ble_eq_true rfl) ?_
  refine vx_catch (name := XE3) hB.ow [] ⟨0, 10, 13, 24⟩ [] (by rw [hT9]; rfl) (fun z9 h9 => absurd h9 List.not_mem_nil) (by decide) (by decide) (hB.K.2 _ kw_550 _) hZ9.cast_XE3 hce hcv hcl ?_
  refine lv_astore (lv' := [(4, .ref q9), (0, .ref xb), (1, .int x), (2, .int y), (3, .ref ob)]) hx hb dL_becomes_13 hl (by decide) rfl (fun ls hl => ?_)
  refine lv_iconst (v := nI 1) hx hb dL_becomes_15 (by decide) ?_
  refine mh_iret hB ⟨Nat.le_of_ble_eq_true rfl, Nat.le_of_ble_eq_true rfl⟩ hS dL_becomes_16 ⟨?_, ?_, ?_⟩
  · rfl
  · exact hC
  · exact hO

def rm_w_becomes_t1b : Room := { frames := 8, cells := 1, slots := 6, locals := 128 }
set_option maxRecDepth 100000 in
set_option maxHeartbeats 400000 in
theorem w_becomes_t1b (l : Launch) (g : GG) (H0 : Heap) (xb : Nat) (lim : Nat) (q : Nat → Int32) (n : Nat) (rm : Nat → Int32) (sl : Nat → Int32) (sv : Nat → Int32) (tx : Nat → Int32) (ln : Nat) (f : Nat) (y : Int32) (ob : Nat) (o : Nat → Int64) (hC : CLS g xb lim q n rm sl sv tx ln H0) (hO : at_ g H0 ob (eL g 1 o)) (hf : f < 3) (hx1 : isIx y 3 = false) (hlo : xb + 68 ≤ ob ∧ ob < lim) (hfl : l.stackTraces = false) : CtW l yL_becomes cL_becomes 5 (some .int) [(0, 10, 13, 24)] rm_w_becomes_t1b g xb [.ref xb, .int (nI f), .int y, .ref ob] H0 (ftA (fun q9 => ((xb ≤ q9 ∧ q9 < xb + 68) ∨ lim ≤ q9) ∨ q9 = ob) H0.size) (fun v H1 => v = some (.int (nI 1)) ∧ CLS g xb lim q n rm sl sv tx ln H1 ∧ at_ g H1 ob (eL g 1 o)) := by
  refine CtW.of (by decide) (fun _ h => Or.inr h) (Nat.le_of_ble_eq_true rfl) ?_
  intro p e s m below meth c ls hB hZ9 hT9 hS hH hl
  have hx := hB.x
  have hb := hB.b
  have hl : lv_has ls 5 [(0, .ref xb), (1, .int (nI f)), (2, .int y), (3, .ref ob)] := hl
  refine lv_aload_n hx hb dL_becomes_0 rfl (lv_at hl 3 rfl) ?_
  refine lv_iconst (v := nI 0) hx hb dL_becomes_1 (by decide) ?_
  refine lv_aload_n hx hb dL_becomes_2 rfl (lv_at hl 0 rfl) ?_
  refine lv_iload_n hx hb dL_becomes_3 rfl (lv_at hl 1 rfl) ?_
  refine lv_iload_n hx hb dL_becomes_4 rfl (lv_at hl 2 rfl) ?_
  refine mx_runV (C := RX10) (n := 2) (As := [.int (nI f), .int y]) (rest := [.int (nI 0), .ref ob]) rfl kw_868 kw_1 kw_865 kw_866 kw_867 (by decide +kernel) hB hZ9 (fx_X10_becomes_t1b l g H0 xb xb lim q n rm sl sv tx ln f y (hC) (hf) (hx1) hfl (by have := hC.lsz; omega)) hC.ob rfl hl.1 (Nat.le_of_ble_eq_true rfl) dL_becomes_5 ⟨Nat.le_of_ble_eq_true rfl, Nat.le_of_ble_eq_true rfl⟩ ⟨Nat.le_of_ble_eq_true rfl, Nat.le_of_ble_eq_true rfl⟩ hS (by have hz9 := hS.1; rintro q9 (h9 | h9) <;> first | exact h9.elim | exact Or.inr (by omega) | exact Or.inl (Or.inl h9)) (fun q9 H1 locs1 ce hp9 hfr9 hS hce hcv hcl => ?_)
  have hC := hC.keptX hfr9
  have hO := Fr.keep hfr9 hO (fun y9 => y9.elim)
  generalize H1 = H at hS hC hO hce
  refine vx_widen (k := 1) (n := 6) (Nat.le_of_ble_eq_true rfl) (Nat.le_of_ble_eq_true rfl) ?_
  refine vx_catch (name := XE3) hB.ow [] ⟨0, 10, 13, 24⟩ [] (by rw [hT9]; rfl) (fun z9 h9 => absurd h9 List.not_mem_nil) (by decide) (by decide) (hB.K.2 _ kw_550 _) hZ9.cast_XE3 hce hcv hcl ?_
  refine lv_astore (lv' := [(4, .ref q9), (0, .ref xb), (1, .int (nI f)), (2, .int y), (3, .ref ob)]) hx hb dL_becomes_13 hl (by decide) rfl (fun ls hl => ?_)
  refine lv_iconst (v := nI 1) hx hb dL_becomes_15 (by decide) ?_
  refine mh_iret hB ⟨Nat.le_of_ble_eq_true rfl, Nat.le_of_ble_eq_true rfl⟩ hS dL_becomes_16 ⟨?_, ?_, ?_⟩
  · rfl
  · exact hC
  · exact hO

def rm_w_becomes_ok : Room := { frames := 5, cells := 0, slots := 0, locals := 121 }
set_option maxRecDepth 100000 in
set_option maxHeartbeats 400000 in
theorem w_becomes_ok (l : Launch) (g : GG) (H0 : Heap) (xb : Nat) (lim : Nat) (q : Nat → Int32) (n : Nat) (rm : Nat → Int32) (sl : Nat → Int32) (sv : Nat → Int32) (tx : Nat → Int32) (ln : Nat) (f : Nat) (g0 : Nat) (ob : Nat) (o : Nat → Int64) (hC : CLS g xb lim q n rm sl sv tx ln H0) (hO : at_ g H0 ob (eL g 1 o)) (hf : f < 3) (hg : g0 < 3) (hlo : xb + 68 ≤ ob ∧ ob < lim) (hfl : l.stackTraces = false) : CtW l yL_becomes cL_becomes 5 (some .int) [(0, 10, 13, 24)] rm_w_becomes_ok g xb [.ref xb, .int (nI f), .int (nI g0), .ref ob] H0 (ftA (fun q9 => ((xb ≤ q9 ∧ q9 < xb + 68) ∨ lim ≤ q9) ∨ q9 = ob) H0.size) (fun v H1 => v = some (.int (nI 0)) ∧ CLS g xb lim q n rm sl sv tx ln H1 ∧ at_ g H1 ob (eL g 1 (vp_updL o 0 ((becV q f g0).toInt64)))) := by
  refine CtW.of (by decide) (fun _ h => Or.inr h) (Nat.le_of_ble_eq_true rfl) ?_
  intro p e s m below meth c ls hB hZ9 hT9 hS hH hl
  have hx := hB.x
  have hb := hB.b
  have hl : lv_has ls 5 [(0, .ref xb), (1, .int (nI f)), (2, .int (nI g0)), (3, .ref ob)] := hl
  refine lv_aload_n hx hb dL_becomes_0 rfl (lv_at hl 3 rfl) ?_
  refine lv_iconst (v := nI 0) hx hb dL_becomes_1 (by decide) ?_
  refine lv_aload_n hx hb dL_becomes_2 rfl (lv_at hl 0 rfl) ?_
  refine lv_iload_n hx hb dL_becomes_3 rfl (lv_at hl 1 rfl) ?_
  refine lv_iload_n hx hb dL_becomes_4 rfl (lv_at hl 2 rfl) ?_
  refine cl_L_75 (As := [.int (nI f), .int (nI g0)]) (rest := [.int (nI 0), .ref ob]) hB (f_X10_becomes l g H0 xb lim q n rm sl sv tx ln f g0 (hC) (hf) (hg)) hC.ob rfl hl.1 (Nat.le_of_ble_eq_true rfl) dL_becomes_5 ⟨Nat.le_of_ble_eq_true rfl, Nat.le_of_ble_eq_true rfl⟩ ⟨Nat.le_of_ble_eq_true rfl, Nat.le_of_ble_eq_true rfl⟩ hS (by have hz9 := hS.1; rintro q (h | h) <;> first | exact Or.inr (by omega) | exact h.elim | exact Or.inl h | (simp only [ftA] at h ⊢; omega)) (fun v H1 locs hpo hfr hS => ?_)
  obtain ⟨rfl, rfl⟩ := hpo
  refine W.widen (k := 0) (n := 0) (Nat.le_of_ble_eq_true rfl) (Nat.le_of_ble_eq_true rfl) ?_
  refine lv_i2l (v := (becV q f g0).toInt64) hx hb dL_becomes_8 rfl ?_
  refine mn_last hB hO (Or.inl (Or.inr rfl)) hS (by omega) (by omega) dL_becomes_9 (fun H locs hwr => ?_)
  obtain ⟨hO, ho, hz, hS⟩ := hwr
  have hC := hC.keptO ho hz (by omega)
  refine lv_goto (tgt := 17) hx hb dL_becomes_10 (by decide) ?_
  refine lv_iconst (v := nI 0) hx hb dL_becomes_17 (by decide) ?_
  refine mh_iret hB ⟨Nat.le_of_ble_eq_true rfl, Nat.le_of_ble_eq_true rfl⟩ hS dL_becomes_18 ⟨?_, ?_, ?_⟩
  · rfl
  · exact hC
  · exact hO

def rm_w_runScript_t1 : Room := { frames := 9, cells := 1, slots := 6, locals := 148 }
set_option maxRecDepth 100000 in
set_option maxHeartbeats 400000 in
theorem w_runScript_t1 (l : Launch) (g : GG) (H0 : Heap) (xb : Nat) (lim : Nat) (q : Nat → Int32) (n : Nat) (rm : Nat → Int32) (sl : Nat → Int32) (sv : Nat → Int32) (tx : Nat → Int32) (ln : Nat) (x : Int32) (y : Int64) (ob : Nat) (o : Nat → Int64) (hC : CLS g xb lim q n rm sl sv tx ln H0) (hO : at_ g H0 ob (eL g 1 o)) (hx1 : inL x.toInt64 1 4 = false) (hlo : xb + 68 ≤ ob ∧ ob < lim) (hfl : l.stackTraces = false) : CtW l yL_runScript cL_runScript 6 (some .int) [(0, 11, 14, 13)] rm_w_runScript_t1 g xb [.ref xb, .int x, .long y, .ref ob] H0 (ftA (fun q9 => ((xb ≤ q9 ∧ q9 < xb + 68) ∨ lim ≤ q9) ∨ q9 = ob) H0.size) (fun v H1 => v = some (.int (nI 1)) ∧ CLS g xb lim q n rm sl sv tx ln H1 ∧ at_ g H1 ob (eL g 1 o)) := by
  refine CtW.of (by decide) (fun _ h => Or.inr h) (Nat.le_of_ble_eq_true rfl) ?_
  intro p e s m below meth c ls hB hZ9 hT9 hS hH hl
  have hx := hB.x
  have hb := hB.b
  have hl : lv_has ls 6 [(0, .ref xb), (1, .int x), (2, .long y), (4, .ref ob)] := hl
  refine lv_aload hx hb dL_runScript_0 (lv_at hl 3 rfl) ?_
  refine lv_iconst (v := nI 0) hx hb dL_runScript_2 (by decide) ?_
  refine lv_aload_n hx hb dL_runScript_3 rfl (lv_at hl 0 rfl) ?_
  refine lv_iload_n hx hb dL_runScript_4 rfl (lv_at hl 1 rfl) ?_
  refine lv_lload_n hx hb dL_runScript_5 rfl (lv_at hl 2 rfl) ?_
  refine mx_runV (C := RX10) (n := 2) (As := [.int x, .long y]) (rest := [.int (nI 0), .ref ob]) rfl kw_875 kw_1 kw_872 kw_873 kw_874 (by decide +kernel) hB hZ9 (fx_X10_runScript_t1 l g H0 xb xb lim q n rm sl sv tx ln x y (hC) (hx1) hfl (by have := hC.lsz; omega)) hC.ob rfl hl.1 (Nat.le_of_ble_eq_true rfl) dL_runScript_6 ⟨Nat.le_of_ble_eq_true rfl, Nat.le_of_ble_eq_true rfl⟩ ⟨Nat.le_of_ble_eq_true rfl, Nat.le_of_ble_eq_true rfl⟩ hS (by have hz9 := hS.1; rintro q9 (h9 | h9) <;> first | exact h9.elim | exact Or.inr (by omega) | exact Or.inl (Or.inl h9)) (fun q9 H1 locs1 ce hp9 hfr9 hS hce hcv hcl => ?_)
  have hC := hC.keptX hfr9
  have hO := Fr.keep hfr9 hO (fun y9 => y9.elim)
  generalize H1 = H at hS hC hO hce
  refine vx_widen (k := 1) (n := 6) (Nat.le_of_ble_eq_true rfl) (Nat.le_of_ble_eq_true rfl) ?_
  refine vx_catch (name := XE1) hB.ow [] ⟨0, 11, 14, 13⟩ [] (by rw [hT9]; rfl) (fun z9 h9 => absurd h9 List.not_mem_nil) (by decide) (by decide) (hB.K.2 _ kw_434 _) hZ9.cast_XE1 hce hcv hcl ?_
  refine lv_astore (lv' := [(5, .ref q9), (0, .ref xb), (1, .int x), (2, .long y), (4, .ref ob)]) hx hb dL_runScript_14 hl (by decide) rfl (fun ls hl => ?_)
  refine lv_iconst (v := nI 1) hx hb dL_runScript_16 (by decide) ?_
  refine mh_iret hB ⟨Nat.le_of_ble_eq_true rfl, Nat.le_of_ble_eq_true rfl⟩ hS dL_runScript_17 ⟨?_, ?_, ?_⟩
  · rfl
  · exact hC
  · exact hO

def rm_w_runScript_t1b : Room := { frames := 8, cells := 1, slots := 6, locals := 126 }
set_option maxRecDepth 100000 in
set_option maxHeartbeats 400000 in
theorem w_runScript_t1b (l : Launch) (g : GG) (H0 : Heap) (xb : Nat) (lim : Nat) (q : Nat → Int32) (n : Nat) (rm : Nat → Int32) (sl : Nat → Int32) (sv : Nat → Int32) (tx : Nat → Int32) (ln : Nat) (n0 : Nat) (y : Int64) (ob : Nat) (o : Nat → Int64) (hC : CLS g xb lim q n rm sl sv tx ln H0) (hO : at_ g H0 ob (eL g 1 o)) (hn1 : 0 < n0) (hn4 : n0 ≤ 4) (hy1 : y.toInt < 0 ∨ (p10k n0 : Int) ≤ y.toInt) (hlo : xb + 68 ≤ ob ∧ ob < lim) (hfl : l.stackTraces = false) : CtW l yL_runScript cL_runScript 6 (some .int) [(0, 11, 14, 13)] rm_w_runScript_t1b g xb [.ref xb, .int (nI n0), .long y, .ref ob] H0 (ftA (fun q9 => ((xb ≤ q9 ∧ q9 < xb + 68) ∨ lim ≤ q9) ∨ q9 = ob) H0.size) (fun v H1 => v = some (.int (nI 1)) ∧ CLS g xb lim q n rm sl sv tx ln H1 ∧ at_ g H1 ob (eL g 1 o)) := by
  refine CtW.of (by decide) (fun _ h => Or.inr h) (Nat.le_of_ble_eq_true rfl) ?_
  intro p e s m below meth c ls hB hZ9 hT9 hS hH hl
  have hx := hB.x
  have hb := hB.b
  have hl : lv_has ls 6 [(0, .ref xb), (1, .int (nI n0)), (2, .long y), (4, .ref ob)] := hl
  refine lv_aload hx hb dL_runScript_0 (lv_at hl 3 rfl) ?_
  refine lv_iconst (v := nI 0) hx hb dL_runScript_2 (by decide) ?_
  refine lv_aload_n hx hb dL_runScript_3 rfl (lv_at hl 0 rfl) ?_
  refine lv_iload_n hx hb dL_runScript_4 rfl (lv_at hl 1 rfl) ?_
  refine lv_lload_n hx hb dL_runScript_5 rfl (lv_at hl 2 rfl) ?_
  refine mx_runV (C := RX10) (n := 2) (As := [.int (nI n0), .long y]) (rest := [.int (nI 0), .ref ob]) rfl kw_875 kw_1 kw_872 kw_873 kw_874 (by decide +kernel) hB hZ9 (fx_X10_runScript_t1b l g H0 xb xb lim q n rm sl sv tx ln n0 y (hC) (hn1) (hn4) (hy1) hfl (by have := hC.lsz; omega)) hC.ob rfl hl.1 (Nat.le_of_ble_eq_true rfl) dL_runScript_6 ⟨Nat.le_of_ble_eq_true rfl, Nat.le_of_ble_eq_true rfl⟩ ⟨Nat.le_of_ble_eq_true rfl, Nat.le_of_ble_eq_true rfl⟩ hS (by have hz9 := hS.1; rintro q9 (h9 | h9) <;> first | exact h9.elim | exact Or.inr (by omega) | exact Or.inl (Or.inl h9)) (fun q9 H1 locs1 ce hp9 hfr9 hS hce hcv hcl => ?_)
  have hC := hC.keptX hfr9
  have hO := Fr.keep hfr9 hO (fun y9 => y9.elim)
  generalize H1 = H at hS hC hO hce
  refine vx_widen (k := 1) (n := 6) (Nat.le_of_ble_eq_true rfl) (Nat.le_of_ble_eq_true rfl) ?_
  refine vx_catch (name := XE1) hB.ow [] ⟨0, 11, 14, 13⟩ [] (by rw [hT9]; rfl) (fun z9 h9 => absurd h9 List.not_mem_nil) (by decide) (by decide) (hB.K.2 _ kw_434 _) hZ9.cast_XE1 hce hcv hcl ?_
  refine lv_astore (lv' := [(5, .ref q9), (0, .ref xb), (1, .int (nI n0)), (2, .long y), (4, .ref ob)]) hx hb dL_runScript_14 hl (by decide) rfl (fun ls hl => ?_)
  refine lv_iconst (v := nI 1) hx hb dL_runScript_16 (by decide) ?_
  refine mh_iret hB ⟨Nat.le_of_ble_eq_true rfl, Nat.le_of_ble_eq_true rfl⟩ hS dL_runScript_17 ⟨?_, ?_, ?_⟩
  · rfl
  · exact hC
  · exact hO

def rm_w_runScript_ok : Room := { frames := 7, cells := 8, slots := 1036, locals := 166 }
set_option maxRecDepth 100000 in
set_option maxHeartbeats 400000 in
theorem w_runScript_ok (l : Launch) (g : GG) (H0 : Heap) (xb : Nat) (lim : Nat) (q : Nat → Int32) (n : Nat) (rm : Nat → Int32) (sl : Nat → Int32) (sv : Nat → Int32) (tx : Nat → Int32) (ln : Nat) (n0 : Nat) (sn : Nat) (ob : Nat) (o : Nat → Int64) (hC : CLS g xb lim q n rm sl sv tx ln H0) (hO : at_ g H0 ob (eL g 1 o)) (hn1 : 0 < n0) (hn4 : n0 ≤ 4) (hsn : sn < p10k n0) (hlo : xb + 68 ≤ ob ∧ ob < lim) (hfl : l.stackTraces = false) : CtW l yL_runScript cL_runScript 6 (some .int) [(0, 11, 14, 13)] rm_w_runScript_ok g xb [.ref xb, .int (nI n0), .long (lN sn), .ref ob] H0 (ftA (fun q9 => ((xb ≤ q9 ∧ q9 < xb + 68) ∨ lim ≤ q9) ∨ q9 = ob) H0.size) (fun v H1 => v = some (.int (nI 0)) ∧ CLS g xb lim q n rm sl sv tx ln H1 ∧ at_ g H1 ob (eL g 1 (vp_updL o 0 ((scG sn n0 n0 q).toInt64)))) := by
  refine CtW.of (by decide) (fun _ h => Or.inr h) (Nat.le_of_ble_eq_true rfl) ?_
  intro p e s m below meth c ls hB hZ9 hT9 hS hH hl
  have hx := hB.x
  have hb := hB.b
  have hl : lv_has ls 6 [(0, .ref xb), (1, .int (nI n0)), (2, .long (lN sn)), (4, .ref ob)] := hl
  refine lv_aload hx hb dL_runScript_0 (lv_at hl 3 rfl) ?_
  refine lv_iconst (v := nI 0) hx hb dL_runScript_2 (by decide) ?_
  refine lv_aload_n hx hb dL_runScript_3 rfl (lv_at hl 0 rfl) ?_
  refine lv_iload_n hx hb dL_runScript_4 rfl (lv_at hl 1 rfl) ?_
  refine lv_lload_n hx hb dL_runScript_5 rfl (lv_at hl 2 rfl) ?_
  refine cl_L_78 (As := [.int (nI n0), .long (lN sn)]) (rest := [.int (nI 0), .ref ob]) hB (f_X10_runScript l g H0 xb lim q n rm sl sv tx ln n0 sn (hC) (hn1) (hn4) (hsn)) hC.ob rfl hl.1 (Nat.le_of_ble_eq_true rfl) dL_runScript_6 ⟨Nat.le_of_ble_eq_true rfl, Nat.le_of_ble_eq_true rfl⟩ ⟨Nat.le_of_ble_eq_true rfl, Nat.le_of_ble_eq_true rfl⟩ hS (by have hz9 := hS.1; rintro q9 (h9 | h9); exact Or.inl (Or.inl h9); exact Or.inr (by omega)) (fun v H1 locs hpo hfr hS => ?_)
  obtain ⟨rfl, hC⟩ := hpo
  have hO := Fr.keep hfr hO (fun y9 => by have y8 : (xb ≤ ob ∧ ob < xb + 68) ∨ lim ≤ ob := y9; omega)
  generalize H1 = H at hfr hS hO hC ⊢
  refine W.widen (k := 8) (n := 1036) (Nat.le_of_ble_eq_true rfl) (Nat.le_of_ble_eq_true rfl) ?_
  refine lv_i2l (v := (scG sn n0 n0 q).toInt64) hx hb dL_runScript_9 rfl ?_
  refine mn_last hB hO (Or.inl (Or.inr rfl)) hS (by omega) (by omega) dL_runScript_10 (fun H locs hwr => ?_)
  obtain ⟨hO, ho, hz, hS⟩ := hwr
  have hC := hC.keptO ho hz (by omega)
  refine lv_goto (tgt := 18) hx hb dL_runScript_11 (by decide) ?_
  refine lv_iconst (v := nI 0) hx hb dL_runScript_18 (by decide) ?_
  refine mh_iret hB ⟨Nat.le_of_ble_eq_true rfl, Nat.le_of_ble_eq_true rfl⟩ hS dL_runScript_19 ⟨?_, ?_, ?_⟩
  · rfl
  · exact hC
  · exact hO

def rm_w_simulate_t1 : Room := { frames := 9, cells := 1, slots := 6, locals := 150 }
set_option maxRecDepth 100000 in
set_option maxHeartbeats 400000 in
theorem w_simulate_t1 (l : Launch) (g : GG) (H0 : Heap) (xb : Nat) (lim : Nat) (q : Nat → Int32) (n : Nat) (rm : Nat → Int32) (sl : Nat → Int32) (sv : Nat → Int32) (tx : Nat → Int32) (ln : Nat) (y : Int64) (x : Int32) (ob : Nat) (o : Nat → Int64) (hC : CLS g xb lim q n rm sl sv tx ln H0) (hO : at_ g H0 ob (eL g 1 o)) (hx1 : inL x.toInt64 1 99 = false) (hlo : xb + 68 ≤ ob ∧ ob < lim) (hfl : l.stackTraces = false) : CtW l yL_simulate cL_simulate 6 (some .int) [(0, 11, 14, 13)] rm_w_simulate_t1 g xb [.ref xb, .long y, .int x, .ref ob] H0 (ftA (fun q9 => ((xb ≤ q9 ∧ q9 < xb + 68) ∨ lim ≤ q9) ∨ q9 = ob) H0.size) (fun v H1 => v = some (.int (nI 1)) ∧ CLS g xb lim q n rm sl sv tx ln H1 ∧ at_ g H1 ob (eL g 1 o)) := by
  refine CtW.of (by decide) (fun _ h => Or.inr h) (Nat.le_of_ble_eq_true rfl) ?_
  intro p e s m below meth c ls hB hZ9 hT9 hS hH hl
  have hx := hB.x
  have hb := hB.b
  have hl : lv_has ls 6 [(0, .ref xb), (1, .long y), (3, .int x), (4, .ref ob)] := hl
  refine lv_aload hx hb dL_simulate_0 (lv_at hl 3 rfl) ?_
  refine lv_iconst (v := nI 0) hx hb dL_simulate_2 (by decide) ?_
  refine lv_aload_n hx hb dL_simulate_3 rfl (lv_at hl 0 rfl) ?_
  refine lv_lload_n hx hb dL_simulate_4 rfl (lv_at hl 1 rfl) ?_
  refine lv_iload_n hx hb dL_simulate_5 rfl (lv_at hl 2 rfl) ?_
  refine mx_runV (C := RX10) (n := 2) (As := [.long y, .int x]) (rest := [.int (nI 0), .ref ob]) rfl kw_930 kw_1 kw_927 kw_928 kw_929 (by decide +kernel) hB hZ9 (fx_X10_simulate_t1 l g H0 xb xb lim q n rm sl sv tx ln y x (hC) (hx1) hfl (by have := hC.lsz; omega)) hC.ob rfl hl.1 (Nat.le_of_ble_eq_true rfl) dL_simulate_6 ⟨Nat.le_of_ble_eq_true rfl, Nat.le_of_ble_eq_true rfl⟩ ⟨Nat.le_of_ble_eq_true rfl, Nat.le_of_ble_eq_true rfl⟩ hS (by have hz9 := hS.1; rintro q9 (h9 | h9) <;> first | exact h9.elim | exact Or.inr (by omega) | exact Or.inl (Or.inl h9)) (fun q9 H1 locs1 ce hp9 hfr9 hS hce hcv hcl => ?_)
  have hC := hC.keptX hfr9
  have hO := Fr.keep hfr9 hO (fun y9 => y9.elim)
  generalize H1 = H at hS hC hO hce
  refine vx_widen (k := 1) (n := 6) (Nat.le_of_ble_eq_true rfl) (Nat.le_of_ble_eq_true rfl) ?_
  refine vx_catch (name := XE1) hB.ow [] ⟨0, 11, 14, 13⟩ [] (by rw [hT9]; rfl) (fun z9 h9 => absurd h9 List.not_mem_nil) (by decide) (by decide) (hB.K.2 _ kw_434 _) hZ9.cast_XE1 hce hcv hcl ?_
  refine lv_astore (lv' := [(5, .ref q9), (0, .ref xb), (1, .long y), (3, .int x), (4, .ref ob)]) hx hb dL_simulate_14 hl (by decide) rfl (fun ls hl => ?_)
  refine lv_iconst (v := nI 1) hx hb dL_simulate_16 (by decide) ?_
  refine mh_iret hB ⟨Nat.le_of_ble_eq_true rfl, Nat.le_of_ble_eq_true rfl⟩ hS dL_simulate_17 ⟨?_, ?_, ?_⟩
  · rfl
  · exact hC
  · exact hO

def rm_w_simulate_ok : Room := { frames := 6, cells := 0, slots := 0, locals := 144 }
set_option maxRecDepth 100000 in
set_option maxHeartbeats 400000 in
theorem w_simulate_ok (l : Launch) (g : GG) (H0 : Heap) (xb : Nat) (lim : Nat) (q : Nat → Int32) (n : Nat) (rm : Nat → Int32) (sl : Nat → Int32) (sv : Nat → Int32) (tx : Nat → Int32) (ln : Nat) (y : Int64) (n0 : Nat) (ob : Nat) (o : Nat → Int64) (hC : CLS g xb lim q n rm sl sv tx ln H0) (hO : at_ g H0 ob (eL g 1 o)) (hn1 : 0 < n0) (hn2 : n0 < 100) (hlo : xb + 68 ≤ ob ∧ ob < lim) (hfl : l.stackTraces = false) : CtW l yL_simulate cL_simulate 6 (some .int) [(0, 11, 14, 13)] rm_w_simulate_ok g xb [.ref xb, .long y, .int (nI n0), .ref ob] H0 (ftA (fun q9 => ((xb ≤ q9 ∧ q9 < xb + 68) ∨ lim ≤ q9) ∨ q9 = ob) H0.size) (fun v H1 => v = some (.int (nI 0)) ∧ CLS g xb lim q n rm sl sv tx ln H1 ∧ at_ g H1 ob (eL g 1 (vp_updL o 0 ((nI (simV q y n0)).toInt64)))) := by
  refine CtW.of (by decide) (fun _ h => Or.inr h) (Nat.le_of_ble_eq_true rfl) ?_
  intro p e s m below meth c ls hB hZ9 hT9 hS hH hl
  have hx := hB.x
  have hb := hB.b
  have hl : lv_has ls 6 [(0, .ref xb), (1, .long y), (3, .int (nI n0)), (4, .ref ob)] := hl
  refine lv_aload hx hb dL_simulate_0 (lv_at hl 3 rfl) ?_
  refine lv_iconst (v := nI 0) hx hb dL_simulate_2 (by decide) ?_
  refine lv_aload_n hx hb dL_simulate_3 rfl (lv_at hl 0 rfl) ?_
  refine lv_lload_n hx hb dL_simulate_4 rfl (lv_at hl 1 rfl) ?_
  refine lv_iload_n hx hb dL_simulate_5 rfl (lv_at hl 2 rfl) ?_
  refine cl_L_82 (As := [.long y, .int (nI n0)]) (rest := [.int (nI 0), .ref ob]) hB (f_X10_simulate l g H0 xb lim q n rm sl sv tx ln y n0 (hC) (hn1) (hn2)) hC.ob rfl hl.1 (Nat.le_of_ble_eq_true rfl) dL_simulate_6 ⟨Nat.le_of_ble_eq_true rfl, Nat.le_of_ble_eq_true rfl⟩ ⟨Nat.le_of_ble_eq_true rfl, Nat.le_of_ble_eq_true rfl⟩ hS (by have hz9 := hS.1; rintro q9 (h9 | h9); exact Or.inl (Or.inl h9); exact Or.inr (by omega)) (fun v H1 locs hpo hfr hS => ?_)
  obtain ⟨rfl, hC⟩ := hpo
  have hO := Fr.keep hfr hO (fun y9 => by have y8 : (xb ≤ ob ∧ ob < xb + 68) ∨ lim ≤ ob := y9; omega)
  generalize H1 = H at hfr hS hO hC ⊢
  refine W.widen (k := 0) (n := 0) (Nat.le_of_ble_eq_true rfl) (Nat.le_of_ble_eq_true rfl) ?_
  refine lv_i2l (v := (nI (simV q y n0)).toInt64) hx hb dL_simulate_9 rfl ?_
  refine mn_last hB hO (Or.inl (Or.inr rfl)) hS (by omega) (by omega) dL_simulate_10 (fun H locs hwr => ?_)
  obtain ⟨hO, ho, hz, hS⟩ := hwr
  have hC := hC.keptO ho hz (by omega)
  refine lv_goto (tgt := 18) hx hb dL_simulate_11 (by decide) ?_
  refine lv_iconst (v := nI 0) hx hb dL_simulate_18 (by decide) ?_
  refine mh_iret hB ⟨Nat.le_of_ble_eq_true rfl, Nat.le_of_ble_eq_true rfl⟩ hS dL_simulate_19 ⟨?_, ?_, ?_⟩
  · rfl
  · exact hC
  · exact hO

def rm_w_save_t1 : Room := { frames := 8, cells := 1, slots := 6, locals := 122 }
set_option maxRecDepth 100000 in
set_option maxHeartbeats 400000 in
theorem w_save_t1 (l : Launch) (g : GG) (H0 : Heap) (xb : Nat) (lim : Nat) (q : Nat → Int32) (n : Nat) (rm : Nat → Int32) (sl : Nat → Int32) (sv : Nat → Int32) (tx : Nat → Int32) (ln : Nat) (x : Int32) (ob : Nat) (o : Nat → Int64) (hC : CLS g xb lim q n rm sl sv tx ln H0) (hO : at_ g H0 ob (eL g 1 o)) (hx1 : isIx x 2 = false) (hlo : xb + 68 ≤ ob ∧ ob < lim) (hfl : l.stackTraces = false) : CtW l yL_save cL_save 4 (some .int) [(0, 9, 12, 24)] rm_w_save_t1 g xb [.ref xb, .int x, .ref ob] H0 (ftA (fun q9 => ((xb ≤ q9 ∧ q9 < xb + 68) ∨ lim ≤ q9) ∨ q9 = ob) H0.size) (fun v H1 => v = some (.int (nI 1)) ∧ CLS g xb lim q n rm sl sv tx ln H1 ∧ at_ g H1 ob (eL g 1 o)) := by
  refine CtW.of (by decide) (fun _ h => Or.inr h) (Nat.le_of_ble_eq_true rfl) ?_
  intro p e s m below meth c ls hB hZ9 hT9 hS hH hl
  have hx := hB.x
  have hb := hB.b
  have hl : lv_has ls 4 [(0, .ref xb), (1, .int x), (2, .ref ob)] := hl
  refine lv_aload_n hx hb dL_save_0 rfl (lv_at hl 2 rfl) ?_
  refine lv_iconst (v := nI 0) hx hb dL_save_1 (by decide) ?_
  refine lv_aload_n hx hb dL_save_2 rfl (lv_at hl 0 rfl) ?_
  refine lv_iload_n hx hb dL_save_3 rfl (lv_at hl 1 rfl) ?_
  refine mx_runV (C := RX10) (n := 1) (As := [.int x]) (rest := [.int (nI 0), .ref ob]) rfl kw_948 kw_1 kw_945 kw_946 kw_947 (by decide +kernel) hB hZ9 (fx_X10_save_t1 l g H0 xb xb lim q n rm sl sv tx ln x (hC) (hx1) hfl (by have := hC.lsz; omega)) hC.ob rfl hl.1 (Nat.le_of_ble_eq_true rfl) dL_save_4 ⟨Nat.le_of_ble_eq_true rfl, Nat.le_of_ble_eq_true rfl⟩ ⟨Nat.le_of_ble_eq_true rfl, Nat.le_of_ble_eq_true rfl⟩ hS (by have hz9 := hS.1; rintro q9 (h9 | h9) <;> first | exact h9.elim | exact Or.inr (by omega) | exact Or.inl (Or.inl h9)) (fun q9 H1 locs1 ce hp9 hfr9 hS hce hcv hcl => ?_)
  have hC := hC.keptX hfr9
  have hO := Fr.keep hfr9 hO (fun y9 => y9.elim)
  generalize H1 = H at hS hC hO hce
  refine vx_widen (k := 1) (n := 6) (Nat.le_of_ble_eq_true rfl) (Nat.le_of_ble_eq_true rfl) ?_
  refine vx_catch (name := XE3) hB.ow [] ⟨0, 9, 12, 24⟩ [] (by rw [hT9]; rfl) (fun z9 h9 => absurd h9 List.not_mem_nil) (by decide) (by decide) (hB.K.2 _ kw_550 _) hZ9.cast_XE3 hce hcv hcl ?_
  refine lv_astore_n (lv' := [(3, .ref q9), (0, .ref xb), (1, .int x), (2, .ref ob)]) hx hb dL_save_12 rfl hl (by decide) rfl (fun ls hl => ?_)
  refine lv_iconst (v := nI 1) hx hb dL_save_13 (by decide) ?_
  refine mh_iret hB ⟨Nat.le_of_ble_eq_true rfl, Nat.le_of_ble_eq_true rfl⟩ hS dL_save_14 ⟨?_, ?_, ?_⟩
  · rfl
  · exact hC
  · exact hO

def rm_w_save_ok : Room := { frames := 6, cells := 26, slots := 126, locals := 132 }
set_option maxRecDepth 100000 in
set_option maxHeartbeats 400000 in
theorem w_save_ok (l : Launch) (g : GG) (H0 : Heap) (xb : Nat) (lim : Nat) (q : Nat → Int32) (n : Nat) (rm : Nat → Int32) (sl : Nat → Int32) (sv : Nat → Int32) (tx : Nat → Int32) (ln : Nat) (k0 : Nat) (ob : Nat) (o : Nat → Int64) (hC : CLS g xb lim q n rm sl sv tx ln H0) (hO : at_ g H0 ob (eL g 1 o)) (hk : k0 < 2) (hlo : xb + 68 ≤ ob ∧ ob < lim) (hfl : l.stackTraces = false) : CtW l yL_save cL_save 4 (some .int) [(0, 9, 12, 24)] rm_w_save_ok g xb [.ref xb, .int (nI k0), .ref ob] H0 (ftA (fun q9 => ((xb ≤ q9 ∧ q9 < xb + 68) ∨ lim ≤ q9) ∨ q9 = ob) H0.size) (fun v H1 => v = some (.int (nI 0)) ∧ CLS g xb lim q n rm (remU sl k0 q 866) (upd sv k0 (vp_nar .boolean (nI 1))) tx ln H1 ∧ at_ g H1 ob (eL g 1 (vp_updL o 0 ((q 0).toInt64)))) := by
  refine CtW.of (by decide) (fun _ h => Or.inr h) (Nat.le_of_ble_eq_true rfl) ?_
  intro p e s m below meth c ls hB hZ9 hT9 hS hH hl
  have hx := hB.x
  have hb := hB.b
  have hl : lv_has ls 4 [(0, .ref xb), (1, .int (nI k0)), (2, .ref ob)] := hl
  refine lv_aload_n hx hb dL_save_0 rfl (lv_at hl 2 rfl) ?_
  refine lv_iconst (v := nI 0) hx hb dL_save_1 (by decide) ?_
  refine lv_aload_n hx hb dL_save_2 rfl (lv_at hl 0 rfl) ?_
  refine lv_iload_n hx hb dL_save_3 rfl (lv_at hl 1 rfl) ?_
  refine cl_L_86 (As := [.int (nI k0)]) (rest := [.int (nI 0), .ref ob]) hB (f_X10_save l g H0 xb lim q n rm sl sv tx ln k0 (hC) (hk)) hC.ob rfl hl.1 (Nat.le_of_ble_eq_true rfl) dL_save_4 ⟨Nat.le_of_ble_eq_true rfl, Nat.le_of_ble_eq_true rfl⟩ ⟨Nat.le_of_ble_eq_true rfl, Nat.le_of_ble_eq_true rfl⟩ hS (by have hz9 := hS.1; rintro q9 (h9 | h9); exact Or.inl (Or.inl h9); exact Or.inr (by omega)) (fun v H1 locs hpo hfr hS => ?_)
  obtain ⟨rfl, hC⟩ := hpo
  have hO := Fr.keep hfr hO (fun y9 => by have y8 : (xb ≤ ob ∧ ob < xb + 68) ∨ lim ≤ ob := y9; omega)
  generalize H1 = H at hfr hS hO hC ⊢
  refine W.widen (k := 26) (n := 126) (Nat.le_of_ble_eq_true rfl) (Nat.le_of_ble_eq_true rfl) ?_
  refine lv_i2l (v := (q 0).toInt64) hx hb dL_save_7 rfl ?_
  refine mn_last hB hO (Or.inl (Or.inr rfl)) hS (by omega) (by omega) dL_save_8 (fun H locs hwr => ?_)
  obtain ⟨hO, ho, hz, hS⟩ := hwr
  have hC := hC.keptO ho hz (by omega)
  refine lv_goto (tgt := 15) hx hb dL_save_9 (by decide) ?_
  refine lv_iconst (v := nI 0) hx hb dL_save_15 (by decide) ?_
  refine mh_iret hB ⟨Nat.le_of_ble_eq_true rfl, Nat.le_of_ble_eq_true rfl⟩ hS dL_save_16 ⟨?_, ?_, ?_⟩
  · rfl
  · exact hC
  · exact hO

def rm_w_restore_t1 : Room := { frames := 8, cells := 1, slots := 6, locals := 123 }
set_option maxRecDepth 100000 in
set_option maxHeartbeats 400000 in
theorem w_restore_t1 (l : Launch) (g : GG) (H0 : Heap) (xb : Nat) (lim : Nat) (q : Nat → Int32) (n : Nat) (rm : Nat → Int32) (sl : Nat → Int32) (sv : Nat → Int32) (tx : Nat → Int32) (ln : Nat) (x : Int32) (ob : Nat) (o : Nat → Int64) (hC : CLS g xb lim q n rm sl sv tx ln H0) (hO : at_ g H0 ob (eL g 1 o)) (hx1 : isIx x 2 = false) (hlo : xb + 68 ≤ ob ∧ ob < lim) (hfl : l.stackTraces = false) : CtW l yL_restore cL_restore 4 (some .int) [(0, 9, 12, 24), (0, 9, 15, 15)] rm_w_restore_t1 g xb [.ref xb, .int x, .ref ob] H0 (ftA (fun q9 => ((xb ≤ q9 ∧ q9 < xb + 68) ∨ lim ≤ q9) ∨ q9 = ob) H0.size) (fun v H1 => v = some (.int (nI 1)) ∧ CLS g xb lim q n rm sl sv tx ln H1 ∧ at_ g H1 ob (eL g 1 o)) := by
  refine CtW.of (by decide) (fun _ h => Or.inr h) (Nat.le_of_ble_eq_true rfl) ?_
  intro p e s m below meth c ls hB hZ9 hT9 hS hH hl
  have hx := hB.x
  have hb := hB.b
  have hl : lv_has ls 4 [(0, .ref xb), (1, .int x), (2, .ref ob)] := hl
  refine lv_aload_n hx hb dL_restore_0 rfl (lv_at hl 2 rfl) ?_
  refine lv_iconst (v := nI 0) hx hb dL_restore_1 (by decide) ?_
  refine lv_aload_n hx hb dL_restore_2 rfl (lv_at hl 0 rfl) ?_
  refine lv_iload_n hx hb dL_restore_3 rfl (lv_at hl 1 rfl) ?_
  refine mx_runV (C := RX10) (n := 1) (As := [.int x]) (rest := [.int (nI 0), .ref ob]) rfl kw_959 kw_1 kw_956 kw_957 kw_958 (by decide +kernel) hB hZ9 (fx_X10_restore_t1 l g H0 xb xb lim q n rm sl sv tx ln x (hC) (hx1) hfl (by have := hC.lsz; omega)) hC.ob rfl hl.1 (Nat.le_of_ble_eq_true rfl) dL_restore_4 ⟨Nat.le_of_ble_eq_true rfl, Nat.le_of_ble_eq_true rfl⟩ ⟨Nat.le_of_ble_eq_true rfl, Nat.le_of_ble_eq_true rfl⟩ hS (by have hz9 := hS.1; rintro q9 (h9 | h9) <;> first | exact h9.elim | exact Or.inr (by omega) | exact Or.inl (Or.inl h9)) (fun q9 H1 locs1 ce hp9 hfr9 hS hce hcv hcl => ?_)
  have hC := hC.keptX hfr9
  have hO := Fr.keep hfr9 hO (fun y9 => y9.elim)
  generalize H1 = H at hS hC hO hce
  refine vx_widen (k := 1) (n := 6) (Nat.le_of_ble_eq_true rfl) (Nat.le_of_ble_eq_true rfl) ?_
  refine vx_catch (name := XE3) hB.ow [] ⟨0, 9, 12, 24⟩ [⟨0, 9, 15, 15⟩] (by rw [hT9]; rfl) (fun z9 h9 => absurd h9 List.not_mem_nil) (by decide) (by decide) (hB.K.2 _ kw_550 _) hZ9.cast_XE3 hce hcv hcl ?_
  refine lv_astore_n (lv' := [(3, .ref q9), (0, .ref xb), (1, .int x), (2, .ref ob)]) hx hb dL_restore_12 rfl hl (by decide) rfl (fun ls hl => ?_)
  refine lv_iconst (v := nI 1) hx hb dL_restore_13 (by decide) ?_
  refine mh_iret hB ⟨Nat.le_of_ble_eq_true rfl, Nat.le_of_ble_eq_true rfl⟩ hS dL_restore_14 ⟨?_, ?_, ?_⟩
  · rfl
  · exact hC
  · exact hO

def rm_w_restore_t2 : Room := { frames := 8, cells := 1, slots := 6, locals := 123 }
set_option maxRecDepth 100000 in
set_option maxHeartbeats 400000 in
theorem w_restore_t2 (l : Launch) (g : GG) (H0 : Heap) (xb : Nat) (lim : Nat) (q : Nat → Int32) (n : Nat) (rm : Nat → Int32) (sl : Nat → Int32) (sv : Nat → Int32) (tx : Nat → Int32) (ln : Nat) (k0 : Nat) (ob : Nat) (o : Nat → Int64) (hC : CLS g xb lim q n rm sl sv tx ln H0) (hO : at_ g H0 ob (eL g 1 o)) (hk : k0 < 2) (hsv : sv k0 = nI 0) (hlo : xb + 68 ≤ ob ∧ ob < lim) (hfl : l.stackTraces = false) : CtW l yL_restore cL_restore 4 (some .int) [(0, 9, 12, 24), (0, 9, 15, 15)] rm_w_restore_t2 g xb [.ref xb, .int (nI k0), .ref ob] H0 (ftA (fun q9 => ((xb ≤ q9 ∧ q9 < xb + 68) ∨ lim ≤ q9) ∨ q9 = ob) H0.size) (fun v H1 => v = some (.int (nI 2)) ∧ CLS g xb lim q n rm sl sv tx ln H1 ∧ at_ g H1 ob (eL g 1 o)) := by
  refine CtW.of (by decide) (fun _ h => Or.inr h) (Nat.le_of_ble_eq_true rfl) ?_
  intro p e s m below meth c ls hB hZ9 hT9 hS hH hl
  have hx := hB.x
  have hb := hB.b
  have hl : lv_has ls 4 [(0, .ref xb), (1, .int (nI k0)), (2, .ref ob)] := hl
  refine lv_aload_n hx hb dL_restore_0 rfl (lv_at hl 2 rfl) ?_
  refine lv_iconst (v := nI 0) hx hb dL_restore_1 (by decide) ?_
  refine lv_aload_n hx hb dL_restore_2 rfl (lv_at hl 0 rfl) ?_
  refine lv_iload_n hx hb dL_restore_3 rfl (lv_at hl 1 rfl) ?_
  refine mx_runV (C := RX10) (n := 1) (As := [.int (nI k0)]) (rest := [.int (nI 0), .ref ob]) rfl kw_959 kw_1 kw_956 kw_957 kw_958 (by decide +kernel) hB hZ9 (fx_X10_restore_t2 l g H0 xb xb lim q n rm sl sv tx ln k0 (hC) (hk) (hsv) hfl (by have := hC.lsz; omega)) hC.ob rfl hl.1 (Nat.le_of_ble_eq_true rfl) dL_restore_4 ⟨Nat.le_of_ble_eq_true rfl, Nat.le_of_ble_eq_true rfl⟩ ⟨Nat.le_of_ble_eq_true rfl, Nat.le_of_ble_eq_true rfl⟩ hS (by have hz9 := hS.1; rintro q9 (h9 | h9) <;> first | exact h9.elim | exact Or.inr (by omega) | exact Or.inl (Or.inl h9)) (fun q9 H1 locs1 ce hp9 hfr9 hS hce hcv hcl => ?_)
  have hC := hC.keptX hfr9
  have hO := Fr.keep hfr9 hO (fun y9 => y9.elim)
  generalize H1 = H at hS hC hO hce
  refine vx_widen (k := 1) (n := 6) (Nat.le_of_ble_eq_true rfl) (Nat.le_of_ble_eq_true rfl) ?_
  refine vx_catch (name := XE2) hB.ow [⟨0, 9, 12, 24⟩] ⟨0, 9, 15, 15⟩ [] (by rw [hT9]; rfl) (List.forall_mem_cons.mpr ⟨Or.inr ⟨by decide, XE3, hB.K.2 _ kw_550 _, hZ9.nc_23⟩, fun z9 h9 => absurd h9 List.not_mem_nil⟩) (by decide) (by decide) (hB.K.2 _ kw_435 _) hZ9.cast_XE2 hce hcv hcl ?_
  refine lv_astore_n (lv' := [(3, .ref q9), (0, .ref xb), (1, .int (nI k0)), (2, .ref ob)]) hx hb dL_restore_15 rfl hl (by decide) rfl (fun ls hl => ?_)
  refine lv_iconst (v := nI 2) hx hb dL_restore_16 (by decide) ?_
  refine mh_iret hB ⟨Nat.le_of_ble_eq_true rfl, Nat.le_of_ble_eq_true rfl⟩ hS dL_restore_17 ⟨?_, ?_, ?_⟩
  · rfl
  · exact hC
  · exact hO

def rm_w_restore_ok : Room := { frames := 5, cells := 0, slots := 0, locals := 110 }
set_option maxRecDepth 100000 in
set_option maxHeartbeats 400000 in
theorem w_restore_ok (l : Launch) (g : GG) (H0 : Heap) (xb : Nat) (lim : Nat) (q : Nat → Int32) (n : Nat) (rm : Nat → Int32) (sl : Nat → Int32) (sv : Nat → Int32) (tx : Nat → Int32) (ln : Nat) (k0 : Nat) (ob : Nat) (o : Nat → Int64) (hC : CLS g xb lim q n rm sl sv tx ln H0) (hO : at_ g H0 ob (eL g 1 o)) (hk : k0 < 2) (hsv : sv k0 = nI 1) (hlo : xb + 68 ≤ ob ∧ ob < lim) (hfl : l.stackTraces = false) : CtW l yL_restore cL_restore 4 (some .int) [(0, 9, 12, 24), (0, 9, 15, 15)] rm_w_restore_ok g xb [.ref xb, .int (nI k0), .ref ob] H0 (ftA (fun q9 => ((xb ≤ q9 ∧ q9 < xb + 68) ∨ lim ≤ q9) ∨ q9 = ob) H0.size) (fun v H1 => v = some (.int (nI 0)) ∧ CLS g xb lim (row9 sl k0) 0 rm sl sv tx ln H1 ∧ at_ g H1 ob (eL g 1 (vp_updL o 0 ((sl (866 * k0 + 0)).toInt64)))) := by
  refine CtW.of (by decide) (fun _ h => Or.inr h) (Nat.le_of_ble_eq_true rfl) ?_
  intro p e s m below meth c ls hB hZ9 hT9 hS hH hl
  have hx := hB.x
  have hb := hB.b
  have hl : lv_has ls 4 [(0, .ref xb), (1, .int (nI k0)), (2, .ref ob)] := hl
  refine lv_aload_n hx hb dL_restore_0 rfl (lv_at hl 2 rfl) ?_
  refine lv_iconst (v := nI 0) hx hb dL_restore_1 (by decide) ?_
  refine lv_aload_n hx hb dL_restore_2 rfl (lv_at hl 0 rfl) ?_
  refine lv_iload_n hx hb dL_restore_3 rfl (lv_at hl 1 rfl) ?_
  refine cl_L_89 (As := [.int (nI k0)]) (rest := [.int (nI 0), .ref ob]) hB (f_X10_restore l g H0 xb lim q n rm sl sv tx ln k0 (hC) (hk) (hsv)) hC.ob rfl hl.1 (Nat.le_of_ble_eq_true rfl) dL_restore_4 ⟨Nat.le_of_ble_eq_true rfl, Nat.le_of_ble_eq_true rfl⟩ ⟨Nat.le_of_ble_eq_true rfl, Nat.le_of_ble_eq_true rfl⟩ hS (by have hz9 := hS.1; rintro q9 (h9 | h9); exact Or.inl (Or.inl h9); exact Or.inr (by omega)) (fun v H1 locs hpo hfr hS => ?_)
  obtain ⟨rfl, hC⟩ := hpo
  have hO := Fr.keep hfr hO (fun y9 => by have y8 : (xb ≤ ob ∧ ob < xb + 68) ∨ lim ≤ ob := y9; omega)
  generalize H1 = H at hfr hS hO hC ⊢
  refine W.widen (k := 0) (n := 0) (Nat.le_of_ble_eq_true rfl) (Nat.le_of_ble_eq_true rfl) ?_
  refine lv_i2l (v := (sl (866 * k0 + 0)).toInt64) hx hb dL_restore_7 rfl ?_
  refine mn_last hB hO (Or.inl (Or.inr rfl)) hS (by omega) (by omega) dL_restore_8 (fun H locs hwr => ?_)
  obtain ⟨hO, ho, hz, hS⟩ := hwr
  have hC := hC.keptO ho hz (by omega)
  refine lv_goto (tgt := 18) hx hb dL_restore_9 (by decide) ?_
  refine lv_iconst (v := nI 0) hx hb dL_restore_18 (by decide) ?_
  refine mh_iret hB ⟨Nat.le_of_ble_eq_true rfl, Nat.le_of_ble_eq_true rfl⟩ hS dL_restore_19 ⟨?_, ?_, ?_⟩
  · rfl
  · exact hC
  · exact hO
