def rm_c_L_frame_p : Room := { frames := 6, cells := 0, slots := 0, locals := 145 }
set_option maxRecDepth 100000 in
set_option maxHeartbeats 400000 in
theorem c_L_frame_p (l : Launch) (g : GG) (H0 : Heap) (xb : Nat) (lim : Nat) (q : Nat → Int32) (n : Nat) (rm : Nat → Int32) (sl : Nat → Int32) (sv : Nat → Int32) (tx : Nat → Int32) (ln : Nat) (f : Nat) (hC : CLS g xb lim q n rm sl sv tx ln H0) (hf : f < 3) (hs0 : 0 < szF q f) : Ct l yL_frame cL_frame 11 (some .boolean) rm_c_L_frame_p g [.ref xb, .int (nI f)] H0 (ftA (CF xb lim) H0.size) (fun v H1 => v = some (.int (nI 1)) ∧ CLS g xb lim q n rm sl sv tx ln H1) := by
  refine Ct.of (by decide) (fun _ h => Or.inr h) (Nat.le_of_ble_eq_true rfl) ?_
  intro p e s m below meth c ls hB hin hS hH hl
  have hx := hB.x
  have hb := hB.b
  have hl : lv_has ls 11 [(0, .ref xb), (1, .int (nI f))] := hl
  have hW := hC.wf
  have hZw := hC.wz
  have hF := hW.fr hf
  have hz6 := WF.sz hF
  have hsw := WF.sw hF
  have hszd : szF q f = wdF q f * htF q f := rfl
  have hw16 := hF.w16
  have hh16 := hF.h16
  have hall := cntS_6 hF hz6
  have hswn := cntS_6 hF (show swF q f ≤ 256 by omega)
  have hcl6 := cntR_le (fun j9 => decide (0 < cntC q f j9 0 (szF q f))) 0 6
  have hsl := seamN_le (wdF q f) (szF q f) (clF q f) (szF q f)
  have hpc := pcN_ge (w := wdF q f) (n := szF q f) (col := clF q f) (fun k8 hk8 => hF.c6 (by omega))
  have hpl := pcN_le (labC (wdF q f) (szF q f) (clF q f)) (szF q f) (szF q f)
  have hgl := grN_le (labC (wdF q f) (szF q f) (clF q f)) (szF q f) (szF q f)
  have hpc : cntR (fun j9 => decide (0 < cntC q f j9 0 (szF q f))) 0 6 ≤ pcN (labC (wdF q f) (szF q f) (clF q f)) (szF q f) (szF q f) := hpc
  have hgp := grN_pos (w := wdF q f) (col := clF q f) hs0
  refine lv_aload_n hx hb dL_frame_0 rfl (lv_at hl 0 rfl) ?_
  refine lv_iload_n hx hb dL_frame_1 rfl (lv_at hl 1 rfl) ?_
  refine lv_iconst (v := nI 0) hx hb dL_frame_2 (by decide) ?_
  refine cl_L_26 (As := [.int (nI f), .int (nI 0)]) (rest := []) hB (f_X10_frame_0 l g H0 xb lim q n rm sl sv tx ln f (hC) (by first | assumption | omega)) hC.ob rfl hl.1 (Nat.le_of_ble_eq_true rfl) dL_frame_3 ⟨Nat.le_of_ble_eq_true rfl, Nat.le_of_ble_eq_true rfl⟩ ⟨Nat.le_of_ble_eq_true rfl, Nat.le_of_ble_eq_true rfl⟩ hS (by have hz9 := hS.1; rintro q (h | h) <;> first | exact Or.inr (by omega) | exact h.elim | exact Or.inl h | (simp only [ftA] at h ⊢; omega)) (fun v H1 locs hpo hfr hS => ?_)
  obtain ⟨rfl, rfl⟩ := hpo
  refine W.widen (k := 0) (n := 0) (Nat.le_of_ble_eq_true rfl) (Nat.le_of_ble_eq_true rfl) ?_
  refine mh_top (y := .int (nI (wdF q f))) (by rw [hF.w]) ?_
  refine lv_istore_n (lv' := [(2, .int (nI (wdF q f))), (0, .ref xb), (1, .int (nI f))]) hx hb dL_frame_6 rfl hl (by decide) rfl (fun ls hl => ?_)
  refine lv_aload_n hx hb dL_frame_7 rfl (lv_at hl 1 rfl) ?_
  refine lv_iload_n hx hb dL_frame_8 rfl (lv_at hl 2 rfl) ?_
  refine lv_iconst (v := nI 1) hx hb dL_frame_9 (by decide) ?_
  refine cl_L_26 (As := [.int (nI f), .int (nI 1)]) (rest := []) hB (f_X10_frame_1 l g H0 xb lim q n rm sl sv tx ln f (hC) (by first | assumption | omega)) hC.ob rfl hl.1 (Nat.le_of_ble_eq_true rfl) dL_frame_10 ⟨Nat.le_of_ble_eq_true rfl, Nat.le_of_ble_eq_true rfl⟩ ⟨Nat.le_of_ble_eq_true rfl, Nat.le_of_ble_eq_true rfl⟩ hS (by have hz9 := hS.1; rintro q (h | h) <;> first | exact Or.inr (by omega) | exact h.elim | exact Or.inl h | (simp only [ftA] at h ⊢; omega)) (fun v H1 locs hpo hfr hS => ?_)
  obtain ⟨rfl, rfl⟩ := hpo
  refine W.widen (k := 0) (n := 0) (Nat.le_of_ble_eq_true rfl) (Nat.le_of_ble_eq_true rfl) ?_
  refine mh_top (y := .int (nI (htF q f))) (by rw [hF.h]) ?_
  refine lv_istore_n (lv' := [(3, .int (nI (htF q f))), (2, .int (nI (wdF q f))), (0, .ref xb), (1, .int (nI f))]) hx hb dL_frame_13 rfl hl (by decide) rfl (fun ls hl => ?_)
  refine lv_iconst (v := nI 0) hx hb dL_frame_14 (by decide) ?_
  refine lv_istore (lv' := [(4, .int (nI 0)), (3, .int (nI (htF q f))), (2, .int (nI (wdF q f))), (0, .ref xb), (1, .int (nI f))]) hx hb dL_frame_15 hl (by decide) rfl (fun ls hl => ?_)
  refine lv_iconst (v := nI 0) hx hb dL_frame_17 (by decide) ?_
  refine lv_istore (lv' := [(5, .int (nI 0)), (4, .int (nI 0)), (3, .int (nI (htF q f))), (2, .int (nI (wdF q f))), (0, .ref xb), (1, .int (nI f))]) hx hb dL_frame_18 hl (by decide) rfl (fun ls hl => ?_)
  refine lv_iconst (v := nI 0) hx hb dL_frame_20 (by decide) ?_
  refine lv_istore (lv' := [(6, .int (nI 0)), (5, .int (nI 0)), (4, .int (nI 0)), (3, .int (nI (htF q f))), (2, .int (nI (wdF q f))), (0, .ref xb), (1, .int (nI f))]) hx hb dL_frame_21 hl (by decide) rfl (fun ls hl => ?_)
  refine lv_iconst (v := nI 0) hx hb dL_frame_23 (by decide) ?_
  refine lv_istore (lv' := [(7, .int (nI 0)), (6, .int (nI 0)), (5, .int (nI 0)), (4, .int (nI 0)), (3, .int (nI (htF q f))), (2, .int (nI (wdF q f))), (0, .ref xb), (1, .int (nI f))]) hx hb dL_frame_24 hl (by decide) rfl (fun ls hl => ?_)
  refine lv_iconst (v := nI 0) hx hb dL_frame_26 (by decide) ?_
  refine lv_istore (lv' := [(8, .int (nI 0)), (7, .int (nI 0)), (6, .int (nI 0)), (5, .int (nI 0)), (4, .int (nI 0)), (3, .int (nI (htF q f))), (2, .int (nI (wdF q f))), (0, .ref xb), (1, .int (nI f))]) hx hb dL_frame_27 hl (by decide) rfl (fun ls hl => ?_)
  refine mh_loop (σ := Nat) (fun xx9 H locs ls => match xx9 with | c9 => c9 ≤ 6 ∧ CLS g xb lim q n rm sl sv tx ln H ∧ va_S (ftA (CF xb lim) H0.size) H0 H locs ∧ lv_has ls 11 [(0, .ref xb), (1, .int (nI f)), (2, .int (nI (wdF q f))), (3, .int (nI (htF q f))), (4, .int (nI (cntS q f (szF q f) c9))), (5, .int (nI (cntS q f (swF q f) c9))), (6, .int (nI (cntR (fun j9 => decide (0 < cntC q f j9 0 (szF q f))) 0 c9))), (7, .int (nI 0)), (8, .int (nI c9))]) (fun xx9 => match xx9 with | c9 => 6 - c9) ?_ 0 ⟨(by omega), hC, hS, lv_sub hl [7, 8, 6, 5, 4, 3, 2, 1, 0] rfl⟩
  rintro c9 H locs ls ⟨hc9, hC, hS, hl⟩ ih
  have ih29 := ih
  have hcl1 := cntS_le (q := q) (f := f) (n := szF q f) (i := c9) (by omega) hz6
  have hcl2 := cntS_le (q := q) (f := f) (n := swF q f) (i := c9) (by omega) (by omega)
  refine lv_iload hx hb dL_frame_29 (lv_at hl 8 rfl) ?_
  refine lv_bipush (v := nI 6) hx hb dL_frame_31 (by decide) ?_
  refine mn_icmp_ge (tgt := 89) hB dL_frame_33 (by decide) (by omega) (by omega) (fun h_33 => ?_) (fun h_33 => ?_)
  · skip
    have hin9 : c9 = 6 := by omega
    subst hin9
    refine lv_iconst (v := nI 0) hx hb dL_frame_89 (by decide) ?_
    refine lv_istore (lv' := [(8, .int (nI 0)), (0, .ref xb), (1, .int (nI f)), (2, .int (nI (wdF q f))), (3, .int (nI (htF q f))), (4, .int (nI (cntS q f (szF q f) 6))), (5, .int (nI (cntS q f (swF q f) 6))), (6, .int (nI (cntR (fun j9 => decide (0 < cntC q f j9 0 (szF q f))) 0 6))), (7, .int (nI 0))]) hx hb dL_frame_90 hl (by decide) rfl (fun ls hl => ?_)
    refine mh_loop (σ := Nat) (fun xx9 H locs ls => match xx9 with | k9 => k9 ≤ szF q f ∧ CLS g xb lim q n rm sl sv tx ln H ∧ va_S (ftA (CF xb lim) H0.size) H0 H locs ∧ lv_has ls 11 [(0, .ref xb), (1, .int (nI f)), (2, .int (nI (wdF q f))), (3, .int (nI (htF q f))), (4, .int (nI (cntS q f (szF q f) 6))), (5, .int (nI (cntS q f (swF q f) 6))), (6, .int (nI (cntR (fun j9 => decide (0 < cntC q f j9 0 (szF q f))) 0 6))), (7, .int (nI (seamN (wdF q f) (szF q f) (clF q f) k9))), (8, .int (nI k9))]) (fun xx9 => match xx9 with | k9 => szF q f - k9) ?_ 0 ⟨(by omega), hC, hS, lv_sub hl [1, 2, 3, 4, 5, 6, 7, 8, 0] rfl⟩
    rintro k9 H locs ls ⟨hk9, hC, hS, hl⟩ ih
    have ih92 := ih
    refine lv_iload hx hb dL_frame_92 (lv_at hl 8 rfl) ?_
    refine lv_iload_n hx hb dL_frame_94 rfl (lv_at hl 2 rfl) ?_
    refine lv_iload_n hx hb dL_frame_95 rfl (lv_at hl 3 rfl) ?_
    refine mn_imul hB dL_frame_96 ?_
    refine mn_icmp_ge (tgt := 200) hB dL_frame_97 (by decide) (by omega) (by omega) (fun h_97 => ?_) (fun h_97 => ?_)
    · skip
      have hin9 : k9 = szF q f := by omega
      subst hin9
      refine lv_iload hx hb dL_frame_200 (lv_at hl 4 rfl) ?_
      refine lv_iload_n hx hb dL_frame_202 rfl (lv_at hl 2 rfl) ?_
      refine lv_iload_n hx hb dL_frame_203 rfl (lv_at hl 3 rfl) ?_
      refine mn_imul hB dL_frame_204 ?_
      refine mn_icmp_ne (tgt := 252) hB dL_frame_205 (by decide) (by omega) (by omega) (fun h => by exfalso; omega) (fun h_205 => ?_)
      refine lv_iload hx hb dL_frame_208 (lv_at hl 5 rfl) ?_
      refine lv_aload_n hx hb dL_frame_210 rfl (lv_at hl 0 rfl) ?_
      refine lv_iload_n hx hb dL_frame_211 rfl (lv_at hl 1 rfl) ?_
      refine lv_iconst (v := nI 2) hx hb dL_frame_212 (by decide) ?_
      refine cl_L_26 (As := [.int (nI f), .int (nI 2)]) (rest := [.int (nI (cntS q f (swF q f) 6))]) hB (f_X10_frame_2 l g H xb lim q n rm sl sv tx ln f (hC) (by first | assumption | omega)) hC.ob rfl hl.1 (Nat.le_of_ble_eq_true rfl) dL_frame_213 ⟨Nat.le_of_ble_eq_true rfl, Nat.le_of_ble_eq_true rfl⟩ ⟨Nat.le_of_ble_eq_true rfl, Nat.le_of_ble_eq_true rfl⟩ hS (by have hz9 := hS.1; rintro q (h | h) <;> first | exact Or.inr (by omega) | exact h.elim | exact Or.inl h | (simp only [ftA] at h ⊢; omega)) (fun v H1 locs hpo hfr hS => ?_)
      obtain ⟨rfl, rfl⟩ := hpo
      refine W.widen (k := 0) (n := 0) (Nat.le_of_ble_eq_true rfl) (Nat.le_of_ble_eq_true rfl) ?_
      refine mh_top (y := .int (nI (swF q f))) (by rw [hF.s]) ?_
      refine mn_icmp_ne (tgt := 252) hB dL_frame_216 (by decide) (by omega) (by omega) (fun h => by exfalso; omega) (fun h_216 => ?_)
      refine lv_iload hx hb dL_frame_219 (lv_at hl 5 rfl) ?_
      refine lv_iload hx hb dL_frame_221 (lv_at hl 4 rfl) ?_
      refine mn_icmp_gt (tgt := 252) hB dL_frame_223 (by decide) (by omega) (by omega) (fun h => by exfalso; omega) (fun h_223 => ?_)
      refine lv_iload hx hb dL_frame_226 (lv_at hl 6 rfl) ?_
      refine lv_aload_n hx hb dL_frame_228 rfl (lv_at hl 0 rfl) ?_
      refine lv_iload_n hx hb dL_frame_229 rfl (lv_at hl 1 rfl) ?_
      refine lv_iconst (v := nI 3) hx hb dL_frame_230 (by decide) ?_
      refine cl_L_26 (As := [.int (nI f), .int (nI 3)]) (rest := [.int (nI (cntR (fun j9 => decide (0 < cntC q f j9 0 (szF q f))) 0 6))]) hB (f_X10_frame_3 l g H xb lim q n rm sl sv tx ln f (hC) (by first | assumption | omega)) hC.ob rfl hl.1 (Nat.le_of_ble_eq_true rfl) dL_frame_231 ⟨Nat.le_of_ble_eq_true rfl, Nat.le_of_ble_eq_true rfl⟩ ⟨Nat.le_of_ble_eq_true rfl, Nat.le_of_ble_eq_true rfl⟩ hS (by have hz9 := hS.1; rintro q (h | h) <;> first | exact Or.inr (by omega) | exact h.elim | exact Or.inl h | (simp only [ftA] at h ⊢; omega)) (fun v H1 locs hpo hfr hS => ?_)
      obtain ⟨rfl, rfl⟩ := hpo
      refine W.widen (k := 0) (n := 0) (Nat.le_of_ble_eq_true rfl) (Nat.le_of_ble_eq_true rfl) ?_
      refine mn_icmp_ne (tgt := 252) hB dL_frame_234 (by decide) (by omega) (by omega) (fun h => by exfalso; omega) (fun h_234 => ?_)
      refine lv_iload hx hb dL_frame_237 (lv_at hl 7 rfl) ?_
      refine lv_aload_n hx hb dL_frame_239 rfl (lv_at hl 0 rfl) ?_
      refine lv_iload_n hx hb dL_frame_240 rfl (lv_at hl 1 rfl) ?_
      refine lv_iconst (v := nI 4) hx hb dL_frame_241 (by decide) ?_
      refine cl_L_26 (As := [.int (nI f), .int (nI 4)]) (rest := [.int (nI (seamN (wdF q f) (szF q f) (clF q f) (szF q f)))]) hB (f_X10_frame_4 l g H xb lim q n rm sl sv tx ln f (hC) (by first | assumption | omega)) hC.ob rfl hl.1 (Nat.le_of_ble_eq_true rfl) dL_frame_242 ⟨Nat.le_of_ble_eq_true rfl, Nat.le_of_ble_eq_true rfl⟩ ⟨Nat.le_of_ble_eq_true rfl, Nat.le_of_ble_eq_true rfl⟩ hS (by have hz9 := hS.1; rintro q (h | h) <;> first | exact Or.inr (by omega) | exact h.elim | exact Or.inl h | (simp only [ftA] at h ⊢; omega)) (fun v H1 locs hpo hfr hS => ?_)
      obtain ⟨rfl, rfl⟩ := hpo
      refine W.widen (k := 0) (n := 0) (Nat.le_of_ble_eq_true rfl) (Nat.le_of_ble_eq_true rfl) ?_
      refine mn_icmp_ne (tgt := 252) hB dL_frame_245 (by decide) (by omega) (by omega) (fun h => by exfalso; omega) (fun h_245 => ?_)
      refine lv_iconst (v := nI 1) hx hb dL_frame_248 (by decide) ?_
      refine lv_goto (tgt := 253) hx hb dL_frame_249 (by decide) ?_
      refine lv_istore (lv' := [(8, .int (nI 1)), (0, .ref xb), (1, .int (nI f)), (2, .int (nI (wdF q f))), (3, .int (nI (htF q f))), (4, .int (nI (cntS q f (szF q f) 6))), (5, .int (nI (cntS q f (swF q f) 6))), (6, .int (nI (cntR (fun j9 => decide (0 < cntC q f j9 0 (szF q f))) 0 6))), (7, .int (nI (seamN (wdF q f) (szF q f) (clF q f) (szF q f))))]) hx hb dL_frame_253 hl (by decide) rfl (fun ls hl => ?_)
      refine lv_iload hx hb dL_frame_255 (lv_at hl 0 rfl) ?_
      refine mn_if_eq (tgt := 327) hB dL_frame_257 (by decide) (by omega) (fun h => by exfalso; omega) (fun h_257 => ?_)
      refine lv_aload_n hx hb dL_frame_260 rfl (lv_at hl 1 rfl) ?_
      refine lv_iload_n hx hb dL_frame_261 rfl (lv_at hl 2 rfl) ?_
      refine lv_iconst (v := nI 5) hx hb dL_frame_262 (by decide) ?_
      refine cl_L_26 (As := [.int (nI f), .int (nI 5)]) (rest := []) hB (f_X10_frame_5 l g H xb lim q n rm sl sv tx ln f (hC) (by first | assumption | omega)) hC.ob rfl hl.1 (Nat.le_of_ble_eq_true rfl) dL_frame_263 ⟨Nat.le_of_ble_eq_true rfl, Nat.le_of_ble_eq_true rfl⟩ ⟨Nat.le_of_ble_eq_true rfl, Nat.le_of_ble_eq_true rfl⟩ hS (by have hz9 := hS.1; rintro q9 (h9 | h9); exact Or.inl h9; exact Or.inr (by omega)) (fun v H1 locs hpo hfr hS => ?_)
      obtain ⟨rfl, hC⟩ := hpo
      generalize H1 = H at hfr hS hC ⊢
      refine W.widen (k := 0) (n := 0) (Nat.le_of_ble_eq_true rfl) (Nat.le_of_ble_eq_true rfl) ?_
      refine lv_iload hx hb dL_frame_266 (lv_at hl 7 rfl) ?_
      refine mn_icmp_lt (tgt := 327) hB dL_frame_268 (by decide) (by omega) (by omega) (fun h => by exfalso; omega) (fun h_268 => ?_)
      refine lv_aload_n hx hb dL_frame_271 rfl (lv_at hl 1 rfl) ?_
      refine lv_iload_n hx hb dL_frame_272 rfl (lv_at hl 2 rfl) ?_
      refine lv_bipush (v := nI 6) hx hb dL_frame_273 (by decide) ?_
      refine cl_L_26 (As := [.int (nI f), .int (nI 6)]) (rest := []) hB (f_X10_frame_6 l g H xb lim q n rm sl sv tx ln f (hC) (by first | assumption | omega)) hC.ob rfl hl.1 (Nat.le_of_ble_eq_true rfl) dL_frame_275 ⟨Nat.le_of_ble_eq_true rfl, Nat.le_of_ble_eq_true rfl⟩ ⟨Nat.le_of_ble_eq_true rfl, Nat.le_of_ble_eq_true rfl⟩ hS (by have hz9 := hS.1; rintro q9 (h9 | h9); exact Or.inl h9; exact Or.inr (by omega)) (fun v H1 locs hpo hfr hS => ?_)
      obtain ⟨rfl, hC⟩ := hpo
      generalize H1 = H at hfr hS hC ⊢
      refine W.widen (k := 0) (n := 0) (Nat.le_of_ble_eq_true rfl) (Nat.le_of_ble_eq_true rfl) ?_
      refine lv_iload hx hb dL_frame_278 (lv_at hl 5 rfl) ?_
      refine mn_icmp_gt (tgt := 327) hB dL_frame_280 (by decide) (by omega) (by omega) (fun h => by exfalso; omega) (fun h_280 => ?_)
      refine lv_iload hx hb dL_frame_283 (lv_at hl 5 rfl) ?_
      refine mn_if_ne (tgt := 292) hB dL_frame_285 (by decide) (by omega) (fun h_285 => ?_) (fun h => by exfalso; omega)
      refine lv_iconst (v := nI 0) hx hb dL_frame_292 (by decide) ?_
      refine lv_aload_n hx hb dL_frame_293 rfl (lv_at hl 1 rfl) ?_
      refine lv_iload_n hx hb dL_frame_294 rfl (lv_at hl 2 rfl) ?_
      refine lv_bipush (v := nI 6) hx hb dL_frame_295 (by decide) ?_
      refine cl_L_26 (As := [.int (nI f), .int (nI 6)]) (rest := [.int (nI 0)]) hB (f_X10_frame_6 l g H xb lim q n rm sl sv tx ln f (hC) (by first | assumption | omega)) hC.ob rfl hl.1 (Nat.le_of_ble_eq_true rfl) dL_frame_297 ⟨Nat.le_of_ble_eq_true rfl, Nat.le_of_ble_eq_true rfl⟩ ⟨Nat.le_of_ble_eq_true rfl, Nat.le_of_ble_eq_true rfl⟩ hS (by have hz9 := hS.1; rintro q9 (h9 | h9); exact Or.inl h9; exact Or.inr (by omega)) (fun v H1 locs hpo hfr hS => ?_)
      obtain ⟨rfl, hC⟩ := hpo
      generalize H1 = H at hfr hS hC ⊢
      refine W.widen (k := 0) (n := 0) (Nat.le_of_ble_eq_true rfl) (Nat.le_of_ble_eq_true rfl) ?_
      refine mn_if_ne (tgt := 307) hB dL_frame_300 (by decide) (by omega) (fun h_300 => ?_) (fun h => by exfalso; omega)
      refine lv_iconst (v := nI 0) hx hb dL_frame_307 (by decide) ?_
      refine mn_icmp_ne (tgt := 327) hB dL_frame_308 (by decide) (by omega) (by omega) (fun h => by exfalso; omega) (fun h_308 => ?_)
      refine lv_aload_n hx hb dL_frame_311 rfl (lv_at hl 1 rfl) ?_
      refine lv_iload_n hx hb dL_frame_312 rfl (lv_at hl 2 rfl) ?_
      refine lv_iload_n hx hb dL_frame_313 rfl (lv_at hl 3 rfl) ?_
      refine lv_iconst (v := nI 0) hx hb dL_frame_314 (by decide) ?_
      refine cl_L_29 (As := [.int (nI f), .int (nI (wdF q f)), .int (nI 0)]) (rest := []) hB (f_X10_patch l g H xb lim q n rm sl sv tx ln f (wdF q f) 0 (hC) (by first | assumption | omega) (by first | assumption | omega) (by first | assumption | omega)) hC.ob rfl hl.1 (Nat.le_of_ble_eq_true rfl) dL_frame_315 ⟨Nat.le_of_ble_eq_true rfl, Nat.le_of_ble_eq_true rfl⟩ ⟨Nat.le_of_ble_eq_true rfl, Nat.le_of_ble_eq_true rfl⟩ hS (by have hz9 := hS.1; rintro q (h | h) <;> first | exact Or.inr (by omega) | exact h.elim | exact Or.inl h | (simp only [ftA] at h ⊢; omega)) (fun v H1 locs hpo hfr hS => ?_)
      obtain ⟨rfl, rfl⟩ := hpo
      refine W.widen (k := 0) (n := 0) (Nat.le_of_ble_eq_true rfl) (Nat.le_of_ble_eq_true rfl) ?_
      refine mh_top (y := .int (-9)) (by rw [pat_w]) ?_
      refine lv_bipush (v := (-9)) hx hb dL_frame_318 (by decide) ?_
      refine lv_icmp_ne (tgt := 327) hx hb dL_frame_320 (by decide) (fun h => absurd rfl h) (fun h_320 => ?_)
      refine lv_iconst (v := nI 1) hx hb dL_frame_323 (by decide) ?_
      refine lv_goto (tgt := 328) hx hb dL_frame_324 (by decide) ?_
      refine lv_istore (lv' := [(8, .int (nI 1)), (0, .ref xb), (1, .int (nI f)), (2, .int (nI (wdF q f))), (3, .int (nI (htF q f))), (4, .int (nI (cntS q f (szF q f) 6))), (5, .int (nI (cntS q f (swF q f) 6))), (6, .int (nI (cntR (fun j9 => decide (0 < cntC q f j9 0 (szF q f))) 0 6))), (7, .int (nI (seamN (wdF q f) (szF q f) (clF q f) (szF q f))))]) hx hb dL_frame_328 hl (by decide) rfl (fun ls hl => ?_)
      refine lv_iload hx hb dL_frame_330 (lv_at hl 0 rfl) ?_
      refine mn_if_eq (tgt := 380) hB dL_frame_332 (by decide) (by omega) (fun h => by exfalso; omega) (fun h_332 => ?_)
      refine lv_aload_n hx hb dL_frame_335 rfl (lv_at hl 1 rfl) ?_
      refine lv_iload_n hx hb dL_frame_336 rfl (lv_at hl 2 rfl) ?_
      refine lv_iconst (v := nI 0) hx hb dL_frame_337 (by decide) ?_
      refine cl_L_33 (As := [.int (nI f), .int (nI 0)]) (rest := []) hB (f_X10_same_0 l g H xb lim q n rm sl sv tx ln f (hC) (by first | assumption | omega) (by first | assumption | omega)) hC.ob rfl hl.1 (Nat.le_of_ble_eq_true rfl) dL_frame_338 ⟨Nat.le_of_ble_eq_true rfl, Nat.le_of_ble_eq_true rfl⟩ ⟨Nat.le_of_ble_eq_true rfl, Nat.le_of_ble_eq_true rfl⟩ hS (by have hz9 := hS.1; rintro q (h | h) <;> first | exact Or.inr (by omega) | exact h.elim | exact Or.inl h | (simp only [ftA] at h ⊢; omega)) (fun v H1 locs hpo hfr hS => ?_)
      obtain ⟨rfl, rfl⟩ := hpo
      refine W.widen (k := 0) (n := 0) (Nat.le_of_ble_eq_true rfl) (Nat.le_of_ble_eq_true rfl) ?_
      refine mb_if_ne (tgt := 353) hB dL_frame_341 (by decide) (fun h_341 => ?_) (fun h_341 => ?_)
      · skip
        refine lv_aload_n hx hb dL_frame_353 rfl (lv_at hl 1 rfl) ?_
        refine lv_iload_n hx hb dL_frame_354 rfl (lv_at hl 2 rfl) ?_
        refine lv_iconst (v := nI 2) hx hb dL_frame_355 (by decide) ?_
        refine cl_L_33 (As := [.int (nI f), .int (nI 2)]) (rest := []) hB (f_X10_same_2 l g H xb lim q n rm sl sv tx ln f (hC) (by first | assumption | omega) (by first | assumption | omega)) hC.ob rfl hl.1 (Nat.le_of_ble_eq_true rfl) dL_frame_356 ⟨Nat.le_of_ble_eq_true rfl, Nat.le_of_ble_eq_true rfl⟩ ⟨Nat.le_of_ble_eq_true rfl, Nat.le_of_ble_eq_true rfl⟩ hS (by have hz9 := hS.1; rintro q (h | h) <;> first | exact Or.inr (by omega) | exact h.elim | exact Or.inl h | (simp only [ftA] at h ⊢; omega)) (fun v H1 locs hpo hfr hS => ?_)
        obtain ⟨rfl, rfl⟩ := hpo
        refine W.widen (k := 0) (n := 0) (Nat.le_of_ble_eq_true rfl) (Nat.le_of_ble_eq_true rfl) ?_
        refine mb_if_eq (tgt := 376) hB dL_frame_359 (by decide) (fun h_359 => ?_) (fun h_359 => ?_)
        · skip
          refine lv_iconst (v := nI 1) hx hb dL_frame_376 (by decide) ?_
          refine lv_goto (tgt := 381) hx hb dL_frame_377 (by decide) ?_
          refine lv_istore (lv' := [(8, .int (nI 1)), (0, .ref xb), (1, .int (nI f)), (2, .int (nI (wdF q f))), (3, .int (nI (htF q f))), (4, .int (nI (cntS q f (szF q f) 6))), (5, .int (nI (cntS q f (swF q f) 6))), (6, .int (nI (cntR (fun j9 => decide (0 < cntC q f j9 0 (szF q f))) 0 6))), (7, .int (nI (seamN (wdF q f) (szF q f) (clF q f) (szF q f))))]) hx hb dL_frame_381 hl (by decide) rfl (fun ls hl => ?_)
          refine lv_iload hx hb dL_frame_383 (lv_at hl 0 rfl) ?_
          refine mn_if_eq (tgt := 412) hB dL_frame_385 (by decide) (by omega) (fun h => by exfalso; omega) (fun h_385 => ?_)
          refine lv_aload_n hx hb dL_frame_388 rfl (lv_at hl 1 rfl) ?_
          refine lv_iload_n hx hb dL_frame_389 rfl (lv_at hl 2 rfl) ?_
          refine lv_iload_n hx hb dL_frame_390 rfl (lv_at hl 2 rfl) ?_
          refine cl_L_37 (As := [.int (nI f), .int (nI f)]) (rest := []) hB (f_X10_becomes l g H xb lim q n rm sl sv tx ln f f (hC) (by first | assumption | omega) (by first | assumption | omega)) hC.ob rfl hl.1 (Nat.le_of_ble_eq_true rfl) dL_frame_391 ⟨Nat.le_of_ble_eq_true rfl, Nat.le_of_ble_eq_true rfl⟩ ⟨Nat.le_of_ble_eq_true rfl, Nat.le_of_ble_eq_true rfl⟩ hS (by have hz9 := hS.1; rintro q (h | h) <;> first | exact Or.inr (by omega) | exact h.elim | exact Or.inl h | (simp only [ftA] at h ⊢; omega)) (fun v H1 locs hpo hfr hS => ?_)
          obtain ⟨rfl, rfl⟩ := hpo
          refine W.widen (k := 0) (n := 0) (Nat.le_of_ble_eq_true rfl) (Nat.le_of_ble_eq_true rfl) ?_
          refine mh_top (y := .int (nI 0)) (by rw [bec_self hs0]) ?_
          refine lv_iload hx hb dL_frame_394 (lv_at hl 5 rfl) ?_
          refine mn_if_ne (tgt := 404) hB dL_frame_396 (by decide) (by omega) (fun h_396 => ?_) (fun h => by exfalso; omega)
          refine lv_iconst (v := nI 0) hx hb dL_frame_404 (by decide) ?_
          refine mn_icmp_ne (tgt := 412) hB dL_frame_405 (by decide) (by omega) (by omega) (fun h => by exfalso; omega) (fun h_405 => ?_)
          refine lv_iconst (v := nI 1) hx hb dL_frame_408 (by decide) ?_
          refine lv_goto (tgt := 413) hx hb dL_frame_409 (by decide) ?_
          refine mh_zret hB ⟨Nat.le_of_ble_eq_true rfl, Nat.le_of_ble_eq_true rfl⟩ hS dL_frame_413 (by first | rfl | decide | (split <;> rfl)) ⟨?_, ?_⟩
          · rfl
          · exact hC
        · skip
          have h21 := sam21 (by first | assumption | (cases h9 : samB q f 2 with | true => rfl | false => simp_all))
          refine lv_aload_n hx hb dL_frame_362 rfl (lv_at hl 1 rfl) ?_
          refine lv_iload_n hx hb dL_frame_363 rfl (lv_at hl 2 rfl) ?_
          refine lv_iconst (v := nI 1) hx hb dL_frame_364 (by decide) ?_
          refine cl_L_33 (As := [.int (nI f), .int (nI 1)]) (rest := []) hB (f_X10_same_1 l g H xb lim q n rm sl sv tx ln f (hC) (by first | assumption | omega) (by first | assumption | omega)) hC.ob rfl hl.1 (Nat.le_of_ble_eq_true rfl) dL_frame_365 ⟨Nat.le_of_ble_eq_true rfl, Nat.le_of_ble_eq_true rfl⟩ ⟨Nat.le_of_ble_eq_true rfl, Nat.le_of_ble_eq_true rfl⟩ hS (by have hz9 := hS.1; rintro q (h | h) <;> first | exact Or.inr (by omega) | exact h.elim | exact Or.inl h | (simp only [ftA] at h ⊢; omega)) (fun v H1 locs hpo hfr hS => ?_)
          obtain ⟨rfl, rfl⟩ := hpo
          refine W.widen (k := 0) (n := 0) (Nat.le_of_ble_eq_true rfl) (Nat.le_of_ble_eq_true rfl) ?_
          refine mb_if_eq (tgt := 380) hB dL_frame_368 (by decide) (fun h => by rw [h21.1] at h; cases h) (fun h_368 => ?_)
          refine lv_iload_n hx hb dL_frame_371 rfl (lv_at hl 3 rfl) ?_
          refine lv_iload_n hx hb dL_frame_372 rfl (lv_at hl 4 rfl) ?_
          refine mn_icmp_ne (tgt := 380) hB dL_frame_373 (by decide) (by omega) (by omega) (fun h => by exfalso; omega) (fun h_373 => ?_)
          refine lv_iconst (v := nI 1) hx hb dL_frame_376 (by decide) ?_
          refine lv_goto (tgt := 381) hx hb dL_frame_377 (by decide) ?_
          refine lv_istore (lv' := [(8, .int (nI 1)), (0, .ref xb), (1, .int (nI f)), (2, .int (nI (wdF q f))), (3, .int (nI (htF q f))), (4, .int (nI (cntS q f (szF q f) 6))), (5, .int (nI (cntS q f (swF q f) 6))), (6, .int (nI (cntR (fun j9 => decide (0 < cntC q f j9 0 (szF q f))) 0 6))), (7, .int (nI (seamN (wdF q f) (szF q f) (clF q f) (szF q f))))]) hx hb dL_frame_381 hl (by decide) rfl (fun ls hl => ?_)
          refine lv_iload hx hb dL_frame_383 (lv_at hl 0 rfl) ?_
          refine mn_if_eq (tgt := 412) hB dL_frame_385 (by decide) (by omega) (fun h => by exfalso; omega) (fun h_385 => ?_)
          refine lv_aload_n hx hb dL_frame_388 rfl (lv_at hl 1 rfl) ?_
          refine lv_iload_n hx hb dL_frame_389 rfl (lv_at hl 2 rfl) ?_
          refine lv_iload_n hx hb dL_frame_390 rfl (lv_at hl 2 rfl) ?_
          refine cl_L_37 (As := [.int (nI f), .int (nI f)]) (rest := []) hB (f_X10_becomes l g H xb lim q n rm sl sv tx ln f f (hC) (by first | assumption | omega) (by first | assumption | omega)) hC.ob rfl hl.1 (Nat.le_of_ble_eq_true rfl) dL_frame_391 ⟨Nat.le_of_ble_eq_true rfl, Nat.le_of_ble_eq_true rfl⟩ ⟨Nat.le_of_ble_eq_true rfl, Nat.le_of_ble_eq_true rfl⟩ hS (by have hz9 := hS.1; rintro q (h | h) <;> first | exact Or.inr (by omega) | exact h.elim | exact Or.inl h | (simp only [ftA] at h ⊢; omega)) (fun v H1 locs hpo hfr hS => ?_)
          obtain ⟨rfl, rfl⟩ := hpo
          refine W.widen (k := 0) (n := 0) (Nat.le_of_ble_eq_true rfl) (Nat.le_of_ble_eq_true rfl) ?_
          refine mh_top (y := .int (nI 0)) (by rw [bec_self hs0]) ?_
          refine lv_iload hx hb dL_frame_394 (lv_at hl 5 rfl) ?_
          refine mn_if_ne (tgt := 404) hB dL_frame_396 (by decide) (by omega) (fun h_396 => ?_) (fun h => by exfalso; omega)
          refine lv_iconst (v := nI 0) hx hb dL_frame_404 (by decide) ?_
          refine mn_icmp_ne (tgt := 412) hB dL_frame_405 (by decide) (by omega) (by omega) (fun h => by exfalso; omega) (fun h_405 => ?_)
          refine lv_iconst (v := nI 1) hx hb dL_frame_408 (by decide) ?_
          refine lv_goto (tgt := 413) hx hb dL_frame_409 (by decide) ?_
          refine mh_zret hB ⟨Nat.le_of_ble_eq_true rfl, Nat.le_of_ble_eq_true rfl⟩ hS dL_frame_413 (by first | rfl | decide | (split <;> rfl)) ⟨?_, ?_⟩
          · rfl
          · exact hC
      · skip
        refine lv_aload_n hx hb dL_frame_344 rfl (lv_at hl 1 rfl) ?_
        refine lv_iload_n hx hb dL_frame_345 rfl (lv_at hl 2 rfl) ?_
        refine lv_iload_n hx hb dL_frame_346 rfl (lv_at hl 2 rfl) ?_
        refine cl_L_37 (As := [.int (nI f), .int (nI f)]) (rest := []) hB (f_X10_becomes l g H xb lim q n rm sl sv tx ln f f (hC) (by first | assumption | omega) (by first | assumption | omega)) hC.ob rfl hl.1 (Nat.le_of_ble_eq_true rfl) dL_frame_347 ⟨Nat.le_of_ble_eq_true rfl, Nat.le_of_ble_eq_true rfl⟩ ⟨Nat.le_of_ble_eq_true rfl, Nat.le_of_ble_eq_true rfl⟩ hS (by have hz9 := hS.1; rintro q (h | h) <;> first | exact Or.inr (by omega) | exact h.elim | exact Or.inl h | (simp only [ftA] at h ⊢; omega)) (fun v H1 locs hpo hfr hS => ?_)
        obtain ⟨rfl, rfl⟩ := hpo
        refine W.widen (k := 0) (n := 0) (Nat.le_of_ble_eq_true rfl) (Nat.le_of_ble_eq_true rfl) ?_
        refine mh_top (y := .int (nI 0)) (by rw [bec_self hs0]) ?_
        refine mn_if_ne (tgt := 380) hB dL_frame_350 (by decide) (by omega) (fun h => by exfalso; omega) (fun h_350 => ?_)
        refine lv_aload_n hx hb dL_frame_353 rfl (lv_at hl 1 rfl) ?_
        refine lv_iload_n hx hb dL_frame_354 rfl (lv_at hl 2 rfl) ?_
        refine lv_iconst (v := nI 2) hx hb dL_frame_355 (by decide) ?_
        refine cl_L_33 (As := [.int (nI f), .int (nI 2)]) (rest := []) hB (f_X10_same_2 l g H xb lim q n rm sl sv tx ln f (hC) (by first | assumption | omega) (by first | assumption | omega)) hC.ob rfl hl.1 (Nat.le_of_ble_eq_true rfl) dL_frame_356 ⟨Nat.le_of_ble_eq_true rfl, Nat.le_of_ble_eq_true rfl⟩ ⟨Nat.le_of_ble_eq_true rfl, Nat.le_of_ble_eq_true rfl⟩ hS (by have hz9 := hS.1; rintro q (h | h) <;> first | exact Or.inr (by omega) | exact h.elim | exact Or.inl h | (simp only [ftA] at h ⊢; omega)) (fun v H1 locs hpo hfr hS => ?_)
        obtain ⟨rfl, rfl⟩ := hpo
        refine W.widen (k := 0) (n := 0) (Nat.le_of_ble_eq_true rfl) (Nat.le_of_ble_eq_true rfl) ?_
        refine mb_if_eq (tgt := 376) hB dL_frame_359 (by decide) (fun h_359 => ?_) (fun h_359 => ?_)
        · skip
          refine lv_iconst (v := nI 1) hx hb dL_frame_376 (by decide) ?_
          refine lv_goto (tgt := 381) hx hb dL_frame_377 (by decide) ?_
          refine lv_istore (lv' := [(8, .int (nI 1)), (0, .ref xb), (1, .int (nI f)), (2, .int (nI (wdF q f))), (3, .int (nI (htF q f))), (4, .int (nI (cntS q f (szF q f) 6))), (5, .int (nI (cntS q f (swF q f) 6))), (6, .int (nI (cntR (fun j9 => decide (0 < cntC q f j9 0 (szF q f))) 0 6))), (7, .int (nI (seamN (wdF q f) (szF q f) (clF q f) (szF q f))))]) hx hb dL_frame_381 hl (by decide) rfl (fun ls hl => ?_)
          refine lv_iload hx hb dL_frame_383 (lv_at hl 0 rfl) ?_
          refine mn_if_eq (tgt := 412) hB dL_frame_385 (by decide) (by omega) (fun h => by exfalso; omega) (fun h_385 => ?_)
          refine lv_aload_n hx hb dL_frame_388 rfl (lv_at hl 1 rfl) ?_
          refine lv_iload_n hx hb dL_frame_389 rfl (lv_at hl 2 rfl) ?_
          refine lv_iload_n hx hb dL_frame_390 rfl (lv_at hl 2 rfl) ?_
          refine cl_L_37 (As := [.int (nI f), .int (nI f)]) (rest := []) hB (f_X10_becomes l g H xb lim q n rm sl sv tx ln f f (hC) (by first | assumption | omega) (by first | assumption | omega)) hC.ob rfl hl.1 (Nat.le_of_ble_eq_true rfl) dL_frame_391 ⟨Nat.le_of_ble_eq_true rfl, Nat.le_of_ble_eq_true rfl⟩ ⟨Nat.le_of_ble_eq_true rfl, Nat.le_of_ble_eq_true rfl⟩ hS (by have hz9 := hS.1; rintro q (h | h) <;> first | exact Or.inr (by omega) | exact h.elim | exact Or.inl h | (simp only [ftA] at h ⊢; omega)) (fun v H1 locs hpo hfr hS => ?_)
          obtain ⟨rfl, rfl⟩ := hpo
          refine W.widen (k := 0) (n := 0) (Nat.le_of_ble_eq_true rfl) (Nat.le_of_ble_eq_true rfl) ?_
          refine mh_top (y := .int (nI 0)) (by rw [bec_self hs0]) ?_
          refine lv_iload hx hb dL_frame_394 (lv_at hl 5 rfl) ?_
          refine mn_if_ne (tgt := 404) hB dL_frame_396 (by decide) (by omega) (fun h_396 => ?_) (fun h => by exfalso; omega)
          refine lv_iconst (v := nI 0) hx hb dL_frame_404 (by decide) ?_
          refine mn_icmp_ne (tgt := 412) hB dL_frame_405 (by decide) (by omega) (by omega) (fun h => by exfalso; omega) (fun h_405 => ?_)
          refine lv_iconst (v := nI 1) hx hb dL_frame_408 (by decide) ?_
          refine lv_goto (tgt := 413) hx hb dL_frame_409 (by decide) ?_
          refine mh_zret hB ⟨Nat.le_of_ble_eq_true rfl, Nat.le_of_ble_eq_true rfl⟩ hS dL_frame_413 (by first | rfl | decide | (split <;> rfl)) ⟨?_, ?_⟩
          · rfl
          · exact hC
        · skip
          have h21 := sam21 (by first | assumption | (cases h9 : samB q f 2 with | true => rfl | false => simp_all))
          refine lv_aload_n hx hb dL_frame_362 rfl (lv_at hl 1 rfl) ?_
          refine lv_iload_n hx hb dL_frame_363 rfl (lv_at hl 2 rfl) ?_
          refine lv_iconst (v := nI 1) hx hb dL_frame_364 (by decide) ?_
          refine cl_L_33 (As := [.int (nI f), .int (nI 1)]) (rest := []) hB (f_X10_same_1 l g H xb lim q n rm sl sv tx ln f (hC) (by first | assumption | omega) (by first | assumption | omega)) hC.ob rfl hl.1 (Nat.le_of_ble_eq_true rfl) dL_frame_365 ⟨Nat.le_of_ble_eq_true rfl, Nat.le_of_ble_eq_true rfl⟩ ⟨Nat.le_of_ble_eq_true rfl, Nat.le_of_ble_eq_true rfl⟩ hS (by have hz9 := hS.1; rintro q (h | h) <;> first | exact Or.inr (by omega) | exact h.elim | exact Or.inl h | (simp only [ftA] at h ⊢; omega)) (fun v H1 locs hpo hfr hS => ?_)
          obtain ⟨rfl, rfl⟩ := hpo
          refine W.widen (k := 0) (n := 0) (Nat.le_of_ble_eq_true rfl) (Nat.le_of_ble_eq_true rfl) ?_
          refine mb_if_eq (tgt := 380) hB dL_frame_368 (by decide) (fun h => by rw [h21.1] at h; cases h) (fun h_368 => ?_)
          refine lv_iload_n hx hb dL_frame_371 rfl (lv_at hl 3 rfl) ?_
          refine lv_iload_n hx hb dL_frame_372 rfl (lv_at hl 4 rfl) ?_
          refine mn_icmp_ne (tgt := 380) hB dL_frame_373 (by decide) (by omega) (by omega) (fun h => by exfalso; omega) (fun h_373 => ?_)
          refine lv_iconst (v := nI 1) hx hb dL_frame_376 (by decide) ?_
          refine lv_goto (tgt := 381) hx hb dL_frame_377 (by decide) ?_
          refine lv_istore (lv' := [(8, .int (nI 1)), (0, .ref xb), (1, .int (nI f)), (2, .int (nI (wdF q f))), (3, .int (nI (htF q f))), (4, .int (nI (cntS q f (szF q f) 6))), (5, .int (nI (cntS q f (swF q f) 6))), (6, .int (nI (cntR (fun j9 => decide (0 < cntC q f j9 0 (szF q f))) 0 6))), (7, .int (nI (seamN (wdF q f) (szF q f) (clF q f) (szF q f))))]) hx hb dL_frame_381 hl (by decide) rfl (fun ls hl => ?_)
          refine lv_iload hx hb dL_frame_383 (lv_at hl 0 rfl) ?_
          refine mn_if_eq (tgt := 412) hB dL_frame_385 (by decide) (by omega) (fun h => by exfalso; omega) (fun h_385 => ?_)
          refine lv_aload_n hx hb dL_frame_388 rfl (lv_at hl 1 rfl) ?_
          refine lv_iload_n hx hb dL_frame_389 rfl (lv_at hl 2 rfl) ?_
          refine lv_iload_n hx hb dL_frame_390 rfl (lv_at hl 2 rfl) ?_
          refine cl_L_37 (As := [.int (nI f), .int (nI f)]) (rest := []) hB (f_X10_becomes l g H xb lim q n rm sl sv tx ln f f (hC) (by first | assumption | omega) (by first | assumption | omega)) hC.ob rfl hl.1 (Nat.le_of_ble_eq_true rfl) dL_frame_391 ⟨Nat.le_of_ble_eq_true rfl, Nat.le_of_ble_eq_true rfl⟩ ⟨Nat.le_of_ble_eq_true rfl, Nat.le_of_ble_eq_true rfl⟩ hS (by have hz9 := hS.1; rintro q (h | h) <;> first | exact Or.inr (by omega) | exact h.elim | exact Or.inl h | (simp only [ftA] at h ⊢; omega)) (fun v H1 locs hpo hfr hS => ?_)
          obtain ⟨rfl, rfl⟩ := hpo
          refine W.widen (k := 0) (n := 0) (Nat.le_of_ble_eq_true rfl) (Nat.le_of_ble_eq_true rfl) ?_
          refine mh_top (y := .int (nI 0)) (by rw [bec_self hs0]) ?_
          refine lv_iload hx hb dL_frame_394 (lv_at hl 5 rfl) ?_
          refine mn_if_ne (tgt := 404) hB dL_frame_396 (by decide) (by omega) (fun h_396 => ?_) (fun h => by exfalso; omega)
          refine lv_iconst (v := nI 0) hx hb dL_frame_404 (by decide) ?_
          refine mn_icmp_ne (tgt := 412) hB dL_frame_405 (by decide) (by omega) (by omega) (fun h => by exfalso; omega) (fun h_405 => ?_)
          refine lv_iconst (v := nI 1) hx hb dL_frame_408 (by decide) ?_
          refine lv_goto (tgt := 413) hx hb dL_frame_409 (by decide) ?_
          refine mh_zret hB ⟨Nat.le_of_ble_eq_true rfl, Nat.le_of_ble_eq_true rfl⟩ hS dL_frame_413 (by first | rfl | decide | (split <;> rfl)) ⟨?_, ?_⟩
          · rfl
          · exact hC
    · skip
      obtain ⟨hx1, hx2, hx3, hx4⟩ := se_x (w := wdF q f) (h := htF q f) (k := k9) (by omega)
      have hy1 := se_y (w := wdF q f) (h := htF q f) (k := k9) hx1
      have hc0 := clF_lt q f k9
      have hc1 := clF_lt q f (k9 + 1)
      have hc2 := clF_lt q f (k9 + wdF q f)
      refine lv_iload hx hb dL_frame_100 (lv_at hl 8 rfl) ?_
      refine lv_iload_n hx hb dL_frame_102 rfl (lv_at hl 2 rfl) ?_
      refine mn_irem hB dL_frame_103 (by omega) (by omega) (by omega) ?_
      refine lv_istore (lv' := [(9, .int (nI (k9 % (wdF q f)))), (0, .ref xb), (1, .int (nI f)), (2, .int (nI (wdF q f))), (3, .int (nI (htF q f))), (4, .int (nI (cntS q f (szF q f) 6))), (5, .int (nI (cntS q f (swF q f) 6))), (6, .int (nI (cntR (fun j9 => decide (0 < cntC q f j9 0 (szF q f))) 0 6))), (7, .int (nI (seamN (wdF q f) (szF q f) (clF q f) k9))), (8, .int (nI k9))]) hx hb dL_frame_104 hl (by decide) rfl (fun ls hl => ?_)
      refine lv_iload hx hb dL_frame_106 (lv_at hl 9 rfl) ?_
      refine lv_iload_n hx hb dL_frame_108 rfl (lv_at hl 3 rfl) ?_
      refine mn_idiv hB dL_frame_109 (by omega) (by omega) (by omega) ?_
      refine lv_istore (lv' := [(10, .int (nI (k9 / (wdF q f)))), (9, .int (nI (k9 % (wdF q f)))), (0, .ref xb), (1, .int (nI f)), (2, .int (nI (wdF q f))), (3, .int (nI (htF q f))), (4, .int (nI (cntS q f (szF q f) 6))), (5, .int (nI (cntS q f (swF q f) 6))), (6, .int (nI (cntR (fun j9 => decide (0 < cntC q f j9 0 (szF q f))) 0 6))), (7, .int (nI (seamN (wdF q f) (szF q f) (clF q f) k9))), (8, .int (nI k9))]) hx hb dL_frame_110 hl (by decide) rfl (fun ls hl => ?_)
      refine lv_iload hx hb dL_frame_112 (lv_at hl 9 rfl) ?_
      refine lv_iload hx hb dL_frame_114 (lv_at hl 1 rfl) ?_
      refine lv_iconst (v := nI 1) hx hb dL_frame_116 (by decide) ?_
      refine mn_iadd hB dL_frame_117 ?_
      refine lv_iload_n hx hb dL_frame_118 rfl (lv_at hl 4 rfl) ?_
      refine mn_icmp_ge (tgt := 149) hB dL_frame_119 (by decide) (by omega) (by omega) (fun h_119 => ?_) (fun h_119 => ?_)
      · skip
        refine lv_iconst (v := nI 0) hx hb dL_frame_149 (by decide) ?_
        refine mn_iadd hB dL_frame_150 ?_
        refine lv_istore (lv' := [(7, .int (nI ((seamN (wdF q f) (szF q f) (clF q f) k9) + 0))), (10, .int (nI (k9 / (wdF q f)))), (9, .int (nI (k9 % (wdF q f)))), (0, .ref xb), (1, .int (nI f)), (2, .int (nI (wdF q f))), (3, .int (nI (htF q f))), (4, .int (nI (cntS q f (szF q f) 6))), (5, .int (nI (cntS q f (swF q f) 6))), (6, .int (nI (cntR (fun j9 => decide (0 < cntC q f j9 0 (szF q f))) 0 6))), (8, .int (nI k9))]) hx hb dL_frame_151 hl (by decide) rfl (fun ls hl => ?_)
        refine lv_iload hx hb dL_frame_153 (lv_at hl 0 rfl) ?_
        refine lv_iload hx hb dL_frame_155 (lv_at hl 1 rfl) ?_
        refine lv_iconst (v := nI 1) hx hb dL_frame_157 (by decide) ?_
        refine mn_iadd hB dL_frame_158 ?_
        refine lv_iload_n hx hb dL_frame_159 rfl (lv_at hl 6 rfl) ?_
        refine mn_icmp_ge (tgt := 190) hB dL_frame_160 (by decide) (by omega) (by omega) (fun h_160 => ?_) (fun h_160 => ?_)
        · skip
          refine lv_iconst (v := nI 0) hx hb dL_frame_190 (by decide) ?_
          refine mn_iadd hB dL_frame_191 ?_
          refine mh_top (y := .int (nI (seamN (wdF q f) (szF q f) (clF q f) (k9 + 1)))) (congrArg (fun y9 => Value.int (nI y9)) (seam_s (by first | rw [if_pos (by omega)] | rw [if_neg (by omega)]) (by first | rw [if_pos (by omega)] | rw [if_neg (by omega)]))) ?_
          refine lv_istore (lv' := [(7, .int (nI (seamN (wdF q f) (szF q f) (clF q f) (k9 + 1)))), (10, .int (nI (k9 / (wdF q f)))), (9, .int (nI (k9 % (wdF q f)))), (0, .ref xb), (1, .int (nI f)), (2, .int (nI (wdF q f))), (3, .int (nI (htF q f))), (4, .int (nI (cntS q f (szF q f) 6))), (5, .int (nI (cntS q f (swF q f) 6))), (6, .int (nI (cntR (fun j9 => decide (0 < cntC q f j9 0 (szF q f))) 0 6))), (8, .int (nI k9))]) hx hb dL_frame_192 hl (by decide) rfl (fun ls hl => ?_)
          refine lv_iinc (v := nI (k9 + 1)) (lv' := [(8, .int (nI (k9 + 1))), (7, .int (nI (seamN (wdF q f) (szF q f) (clF q f) (k9 + 1)))), (10, .int (nI (k9 / (wdF q f)))), (9, .int (nI (k9 % (wdF q f)))), (0, .ref xb), (1, .int (nI f)), (2, .int (nI (wdF q f))), (3, .int (nI (htF q f))), (4, .int (nI (cntS q f (szF q f) 6))), (5, .int (nI (cntS q f (swF q f) 6))), (6, .int (nI (cntR (fun j9 => decide (0 < cntC q f j9 0 (szF q f))) 0 6)))]) hx hb dL_frame_194 hl (k := 10) rfl (nI_1 _) (by decide) rfl (fun ls hl => ?_)
          refine lv_goto (tgt := 92) hx hb dL_frame_197 (by decide) ?_
          refine ih92 (k9 + 1) _ _ _ ⟨(by omega), hC, hS, lv_sub hl [4, 5, 6, 7, 8, 9, 10, 1, 0] rfl⟩ (by dsimp only; omega)
        · skip
          refine lv_aload_n hx hb dL_frame_163 rfl (lv_at hl 3 rfl) ?_
          refine lv_iload_n hx hb dL_frame_164 rfl (lv_at hl 4 rfl) ?_
          refine lv_iload hx hb dL_frame_165 (lv_at hl 2 rfl) ?_
          refine lv_iload hx hb dL_frame_167 (lv_at hl 1 rfl) ?_
          refine cl_L_29 (As := [.int (nI f), .int (nI (k9 % (wdF q f))), .int (nI (k9 / (wdF q f)))]) (rest := [.int (nI ((seamN (wdF q f) (szF q f) (clF q f) k9) + 0))]) hB (f_X10_patch l g H xb lim q n rm sl sv tx ln f (k9 % (wdF q f)) (k9 / (wdF q f)) (hC) (by first | assumption | omega) (by first | assumption | omega) (by first | assumption | omega)) hC.ob rfl hl.1 (Nat.le_of_ble_eq_true rfl) dL_frame_169 ⟨Nat.le_of_ble_eq_true rfl, Nat.le_of_ble_eq_true rfl⟩ ⟨Nat.le_of_ble_eq_true rfl, Nat.le_of_ble_eq_true rfl⟩ hS (by have hz9 := hS.1; rintro q (h | h) <;> first | exact Or.inr (by omega) | exact h.elim | exact Or.inl h | (simp only [ftA] at h ⊢; omega)) (fun v H1 locs hpo hfr hS => ?_)
          obtain ⟨rfl, rfl⟩ := hpo
          refine W.widen (k := 0) (n := 0) (Nat.le_of_ble_eq_true rfl) (Nat.le_of_ble_eq_true rfl) ?_
          refine mh_top (y := .int (nI (clF q f k9))) (by rw [pat_0 (by omega)]) ?_
          refine lv_aload_n hx hb dL_frame_172 rfl (lv_at hl 3 rfl) ?_
          refine lv_iload_n hx hb dL_frame_173 rfl (lv_at hl 4 rfl) ?_
          refine lv_iload hx hb dL_frame_174 (lv_at hl 2 rfl) ?_
          refine lv_iload hx hb dL_frame_176 (lv_at hl 1 rfl) ?_
          refine lv_iconst (v := nI 1) hx hb dL_frame_178 (by decide) ?_
          refine mn_iadd hB dL_frame_179 ?_
          refine cl_L_29 (As := [.int (nI f), .int (nI (k9 % (wdF q f))), .int (nI ((k9 / (wdF q f)) + 1))]) (rest := [.int (nI (clF q f k9)), .int (nI ((seamN (wdF q f) (szF q f) (clF q f) k9) + 0))]) hB (f_X10_patch l g H xb lim q n rm sl sv tx ln f (k9 % (wdF q f)) ((k9 / (wdF q f)) + 1) (hC) (by first | assumption | omega) (by first | assumption | omega) (by first | assumption | omega)) hC.ob rfl hl.1 (Nat.le_of_ble_eq_true rfl) dL_frame_180 ⟨Nat.le_of_ble_eq_true rfl, Nat.le_of_ble_eq_true rfl⟩ ⟨Nat.le_of_ble_eq_true rfl, Nat.le_of_ble_eq_true rfl⟩ hS (by have hz9 := hS.1; rintro q (h | h) <;> first | exact Or.inr (by omega) | exact h.elim | exact Or.inl h | (simp only [ftA] at h ⊢; omega)) (fun v H1 locs hpo hfr hS => ?_)
          obtain ⟨rfl, rfl⟩ := hpo
          refine W.widen (k := 0) (n := 0) (Nat.le_of_ble_eq_true rfl) (Nat.le_of_ble_eq_true rfl) ?_
          refine mh_top (y := .int (nI (clF q f (k9 + wdF q f)))) (by rw [pat_2 (by omega) (by omega)]) ?_
          refine mn_icmp_eq (tgt := 190) hB dL_frame_183 (by decide) (by omega) (by omega) (fun h_183 => ?_) (fun h_183 => ?_)
          · skip
            refine lv_iconst (v := nI 0) hx hb dL_frame_190 (by decide) ?_
            refine mn_iadd hB dL_frame_191 ?_
            refine mh_top (y := .int (nI (seamN (wdF q f) (szF q f) (clF q f) (k9 + 1)))) (congrArg (fun y9 => Value.int (nI y9)) (seam_s (by first | rw [if_pos (by omega)] | rw [if_neg (by omega)]) (by first | rw [if_pos (by omega)] | rw [if_neg (by omega)]))) ?_
            refine lv_istore (lv' := [(7, .int (nI (seamN (wdF q f) (szF q f) (clF q f) (k9 + 1)))), (10, .int (nI (k9 / (wdF q f)))), (9, .int (nI (k9 % (wdF q f)))), (0, .ref xb), (1, .int (nI f)), (2, .int (nI (wdF q f))), (3, .int (nI (htF q f))), (4, .int (nI (cntS q f (szF q f) 6))), (5, .int (nI (cntS q f (swF q f) 6))), (6, .int (nI (cntR (fun j9 => decide (0 < cntC q f j9 0 (szF q f))) 0 6))), (8, .int (nI k9))]) hx hb dL_frame_192 hl (by decide) rfl (fun ls hl => ?_)
            refine lv_iinc (v := nI (k9 + 1)) (lv' := [(8, .int (nI (k9 + 1))), (7, .int (nI (seamN (wdF q f) (szF q f) (clF q f) (k9 + 1)))), (10, .int (nI (k9 / (wdF q f)))), (9, .int (nI (k9 % (wdF q f)))), (0, .ref xb), (1, .int (nI f)), (2, .int (nI (wdF q f))), (3, .int (nI (htF q f))), (4, .int (nI (cntS q f (szF q f) 6))), (5, .int (nI (cntS q f (swF q f) 6))), (6, .int (nI (cntR (fun j9 => decide (0 < cntC q f j9 0 (szF q f))) 0 6)))]) hx hb dL_frame_194 hl (k := 10) rfl (nI_1 _) (by decide) rfl (fun ls hl => ?_)
            refine lv_goto (tgt := 92) hx hb dL_frame_197 (by decide) ?_
            refine ih92 (k9 + 1) _ _ _ ⟨(by omega), hC, hS, lv_sub hl [4, 5, 6, 7, 8, 9, 10, 1, 0] rfl⟩ (by dsimp only; omega)
          · skip
            refine lv_iconst (v := nI 1) hx hb dL_frame_186 (by decide) ?_
            refine lv_goto (tgt := 191) hx hb dL_frame_187 (by decide) ?_
            refine mn_iadd hB dL_frame_191 ?_
            refine mh_top (y := .int (nI (seamN (wdF q f) (szF q f) (clF q f) (k9 + 1)))) (congrArg (fun y9 => Value.int (nI y9)) (seam_s (by first | rw [if_pos (by omega)] | rw [if_neg (by omega)]) (by first | rw [if_pos (by omega)] | rw [if_neg (by omega)]))) ?_
            refine lv_istore (lv' := [(7, .int (nI (seamN (wdF q f) (szF q f) (clF q f) (k9 + 1)))), (10, .int (nI (k9 / (wdF q f)))), (9, .int (nI (k9 % (wdF q f)))), (0, .ref xb), (1, .int (nI f)), (2, .int (nI (wdF q f))), (3, .int (nI (htF q f))), (4, .int (nI (cntS q f (szF q f) 6))), (5, .int (nI (cntS q f (swF q f) 6))), (6, .int (nI (cntR (fun j9 => decide (0 < cntC q f j9 0 (szF q f))) 0 6))), (8, .int (nI k9))]) hx hb dL_frame_192 hl (by decide) rfl (fun ls hl => ?_)
            refine lv_iinc (v := nI (k9 + 1)) (lv' := [(8, .int (nI (k9 + 1))), (7, .int (nI (seamN (wdF q f) (szF q f) (clF q f) (k9 + 1)))), (10, .int (nI (k9 / (wdF q f)))), (9, .int (nI (k9 % (wdF q f)))), (0, .ref xb), (1, .int (nI f)), (2, .int (nI (wdF q f))), (3, .int (nI (htF q f))), (4, .int (nI (cntS q f (szF q f) 6))), (5, .int (nI (cntS q f (swF q f) 6))), (6, .int (nI (cntR (fun j9 => decide (0 < cntC q f j9 0 (szF q f))) 0 6)))]) hx hb dL_frame_194 hl (k := 10) rfl (nI_1 _) (by decide) rfl (fun ls hl => ?_)
            refine lv_goto (tgt := 92) hx hb dL_frame_197 (by decide) ?_
            refine ih92 (k9 + 1) _ _ _ ⟨(by omega), hC, hS, lv_sub hl [4, 5, 6, 7, 8, 9, 10, 1, 0] rfl⟩ (by dsimp only; omega)
      · skip
        refine lv_aload_n hx hb dL_frame_122 rfl (lv_at hl 2 rfl) ?_
        refine lv_iload_n hx hb dL_frame_123 rfl (lv_at hl 3 rfl) ?_
        refine lv_iload hx hb dL_frame_124 (lv_at hl 1 rfl) ?_
        refine lv_iload hx hb dL_frame_126 (lv_at hl 0 rfl) ?_
        refine cl_L_29 (As := [.int (nI f), .int (nI (k9 % (wdF q f))), .int (nI (k9 / (wdF q f)))]) (rest := [.int (nI (seamN (wdF q f) (szF q f) (clF q f) k9))]) hB (f_X10_patch l g H xb lim q n rm sl sv tx ln f (k9 % (wdF q f)) (k9 / (wdF q f)) (hC) (by first | assumption | omega) (by first | assumption | omega) (by first | assumption | omega)) hC.ob rfl hl.1 (Nat.le_of_ble_eq_true rfl) dL_frame_128 ⟨Nat.le_of_ble_eq_true rfl, Nat.le_of_ble_eq_true rfl⟩ ⟨Nat.le_of_ble_eq_true rfl, Nat.le_of_ble_eq_true rfl⟩ hS (by have hz9 := hS.1; rintro q (h | h) <;> first | exact Or.inr (by omega) | exact h.elim | exact Or.inl h | (simp only [ftA] at h ⊢; omega)) (fun v H1 locs hpo hfr hS => ?_)
        obtain ⟨rfl, rfl⟩ := hpo
        refine W.widen (k := 0) (n := 0) (Nat.le_of_ble_eq_true rfl) (Nat.le_of_ble_eq_true rfl) ?_
        refine mh_top (y := .int (nI (clF q f k9))) (by rw [pat_0 (by omega)]) ?_
        refine lv_aload_n hx hb dL_frame_131 rfl (lv_at hl 2 rfl) ?_
        refine lv_iload_n hx hb dL_frame_132 rfl (lv_at hl 3 rfl) ?_
        refine lv_iload hx hb dL_frame_133 (lv_at hl 1 rfl) ?_
        refine lv_iconst (v := nI 1) hx hb dL_frame_135 (by decide) ?_
        refine mn_iadd hB dL_frame_136 ?_
        refine lv_iload hx hb dL_frame_137 (lv_at hl 0 rfl) ?_
        refine cl_L_29 (As := [.int (nI f), .int (nI ((k9 % (wdF q f)) + 1)), .int (nI (k9 / (wdF q f)))]) (rest := [.int (nI (clF q f k9)), .int (nI (seamN (wdF q f) (szF q f) (clF q f) k9))]) hB (f_X10_patch l g H xb lim q n rm sl sv tx ln f ((k9 % (wdF q f)) + 1) (k9 / (wdF q f)) (hC) (by first | assumption | omega) (by first | assumption | omega) (by first | assumption | omega)) hC.ob rfl hl.1 (Nat.le_of_ble_eq_true rfl) dL_frame_139 ⟨Nat.le_of_ble_eq_true rfl, Nat.le_of_ble_eq_true rfl⟩ ⟨Nat.le_of_ble_eq_true rfl, Nat.le_of_ble_eq_true rfl⟩ hS (by have hz9 := hS.1; rintro q (h | h) <;> first | exact Or.inr (by omega) | exact h.elim | exact Or.inl h | (simp only [ftA] at h ⊢; omega)) (fun v H1 locs hpo hfr hS => ?_)
        obtain ⟨rfl, rfl⟩ := hpo
        refine W.widen (k := 0) (n := 0) (Nat.le_of_ble_eq_true rfl) (Nat.le_of_ble_eq_true rfl) ?_
        refine mh_top (y := .int (nI (clF q f (k9 + 1)))) (by rw [pat_1 (by omega) (by omega)]) ?_
        refine mn_icmp_eq (tgt := 149) hB dL_frame_142 (by decide) (by omega) (by omega) (fun h_142 => ?_) (fun h_142 => ?_)
        · skip
          refine lv_iconst (v := nI 0) hx hb dL_frame_149 (by decide) ?_
          refine mn_iadd hB dL_frame_150 ?_
          refine lv_istore (lv' := [(7, .int (nI ((seamN (wdF q f) (szF q f) (clF q f) k9) + 0))), (10, .int (nI (k9 / (wdF q f)))), (9, .int (nI (k9 % (wdF q f)))), (0, .ref xb), (1, .int (nI f)), (2, .int (nI (wdF q f))), (3, .int (nI (htF q f))), (4, .int (nI (cntS q f (szF q f) 6))), (5, .int (nI (cntS q f (swF q f) 6))), (6, .int (nI (cntR (fun j9 => decide (0 < cntC q f j9 0 (szF q f))) 0 6))), (8, .int (nI k9))]) hx hb dL_frame_151 hl (by decide) rfl (fun ls hl => ?_)
          refine lv_iload hx hb dL_frame_153 (lv_at hl 0 rfl) ?_
          refine lv_iload hx hb dL_frame_155 (lv_at hl 1 rfl) ?_
          refine lv_iconst (v := nI 1) hx hb dL_frame_157 (by decide) ?_
          refine mn_iadd hB dL_frame_158 ?_
          refine lv_iload_n hx hb dL_frame_159 rfl (lv_at hl 6 rfl) ?_
          refine mn_icmp_ge (tgt := 190) hB dL_frame_160 (by decide) (by omega) (by omega) (fun h_160 => ?_) (fun h_160 => ?_)
          · skip
            refine lv_iconst (v := nI 0) hx hb dL_frame_190 (by decide) ?_
            refine mn_iadd hB dL_frame_191 ?_
            refine mh_top (y := .int (nI (seamN (wdF q f) (szF q f) (clF q f) (k9 + 1)))) (congrArg (fun y9 => Value.int (nI y9)) (seam_s (by first | rw [if_pos (by omega)] | rw [if_neg (by omega)]) (by first | rw [if_pos (by omega)] | rw [if_neg (by omega)]))) ?_
            refine lv_istore (lv' := [(7, .int (nI (seamN (wdF q f) (szF q f) (clF q f) (k9 + 1)))), (10, .int (nI (k9 / (wdF q f)))), (9, .int (nI (k9 % (wdF q f)))), (0, .ref xb), (1, .int (nI f)), (2, .int (nI (wdF q f))), (3, .int (nI (htF q f))), (4, .int (nI (cntS q f (szF q f) 6))), (5, .int (nI (cntS q f (swF q f) 6))), (6, .int (nI (cntR (fun j9 => decide (0 < cntC q f j9 0 (szF q f))) 0 6))), (8, .int (nI k9))]) hx hb dL_frame_192 hl (by decide) rfl (fun ls hl => ?_)
            refine lv_iinc (v := nI (k9 + 1)) (lv' := [(8, .int (nI (k9 + 1))), (7, .int (nI (seamN (wdF q f) (szF q f) (clF q f) (k9 + 1)))), (10, .int (nI (k9 / (wdF q f)))), (9, .int (nI (k9 % (wdF q f)))), (0, .ref xb), (1, .int (nI f)), (2, .int (nI (wdF q f))), (3, .int (nI (htF q f))), (4, .int (nI (cntS q f (szF q f) 6))), (5, .int (nI (cntS q f (swF q f) 6))), (6, .int (nI (cntR (fun j9 => decide (0 < cntC q f j9 0 (szF q f))) 0 6)))]) hx hb dL_frame_194 hl (k := 10) rfl (nI_1 _) (by decide) rfl (fun ls hl => ?_)
            refine lv_goto (tgt := 92) hx hb dL_frame_197 (by decide) ?_
            refine ih92 (k9 + 1) _ _ _ ⟨(by omega), hC, hS, lv_sub hl [4, 5, 6, 7, 8, 9, 10, 1, 0] rfl⟩ (by dsimp only; omega)
          · skip
            refine lv_aload_n hx hb dL_frame_163 rfl (lv_at hl 3 rfl) ?_
            refine lv_iload_n hx hb dL_frame_164 rfl (lv_at hl 4 rfl) ?_
            refine lv_iload hx hb dL_frame_165 (lv_at hl 2 rfl) ?_
            refine lv_iload hx hb dL_frame_167 (lv_at hl 1 rfl) ?_
            refine cl_L_29 (As := [.int (nI f), .int (nI (k9 % (wdF q f))), .int (nI (k9 / (wdF q f)))]) (rest := [.int (nI ((seamN (wdF q f) (szF q f) (clF q f) k9) + 0))]) hB (f_X10_patch l g H xb lim q n rm sl sv tx ln f (k9 % (wdF q f)) (k9 / (wdF q f)) (hC) (by first | assumption | omega) (by first | assumption | omega) (by first | assumption | omega)) hC.ob rfl hl.1 (Nat.le_of_ble_eq_true rfl) dL_frame_169 ⟨Nat.le_of_ble_eq_true rfl, Nat.le_of_ble_eq_true rfl⟩ ⟨Nat.le_of_ble_eq_true rfl, Nat.le_of_ble_eq_true rfl⟩ hS (by have hz9 := hS.1; rintro q (h | h) <;> first | exact Or.inr (by omega) | exact h.elim | exact Or.inl h | (simp only [ftA] at h ⊢; omega)) (fun v H1 locs hpo hfr hS => ?_)
            obtain ⟨rfl, rfl⟩ := hpo
            refine W.widen (k := 0) (n := 0) (Nat.le_of_ble_eq_true rfl) (Nat.le_of_ble_eq_true rfl) ?_
            refine mh_top (y := .int (nI (clF q f k9))) (by rw [pat_0 (by omega)]) ?_
            refine lv_aload_n hx hb dL_frame_172 rfl (lv_at hl 3 rfl) ?_
            refine lv_iload_n hx hb dL_frame_173 rfl (lv_at hl 4 rfl) ?_
            refine lv_iload hx hb dL_frame_174 (lv_at hl 2 rfl) ?_
            refine lv_iload hx hb dL_frame_176 (lv_at hl 1 rfl) ?_
            refine lv_iconst (v := nI 1) hx hb dL_frame_178 (by decide) ?_
            refine mn_iadd hB dL_frame_179 ?_
            refine cl_L_29 (As := [.int (nI f), .int (nI (k9 % (wdF q f))), .int (nI ((k9 / (wdF q f)) + 1))]) (rest := [.int (nI (clF q f k9)), .int (nI ((seamN (wdF q f) (szF q f) (clF q f) k9) + 0))]) hB (f_X10_patch l g H xb lim q n rm sl sv tx ln f (k9 % (wdF q f)) ((k9 / (wdF q f)) + 1) (hC) (by first | assumption | omega) (by first | assumption | omega) (by first | assumption | omega)) hC.ob rfl hl.1 (Nat.le_of_ble_eq_true rfl) dL_frame_180 ⟨Nat.le_of_ble_eq_true rfl, Nat.le_of_ble_eq_true rfl⟩ ⟨Nat.le_of_ble_eq_true rfl, Nat.le_of_ble_eq_true rfl⟩ hS (by have hz9 := hS.1; rintro q (h | h) <;> first | exact Or.inr (by omega) | exact h.elim | exact Or.inl h | (simp only [ftA] at h ⊢; omega)) (fun v H1 locs hpo hfr hS => ?_)
            obtain ⟨rfl, rfl⟩ := hpo
            refine W.widen (k := 0) (n := 0) (Nat.le_of_ble_eq_true rfl) (Nat.le_of_ble_eq_true rfl) ?_
            refine mh_top (y := .int (nI (clF q f (k9 + wdF q f)))) (by rw [pat_2 (by omega) (by omega)]) ?_
            refine mn_icmp_eq (tgt := 190) hB dL_frame_183 (by decide) (by omega) (by omega) (fun h_183 => ?_) (fun h_183 => ?_)
            · skip
              refine lv_iconst (v := nI 0) hx hb dL_frame_190 (by decide) ?_
              refine mn_iadd hB dL_frame_191 ?_
              refine mh_top (y := .int (nI (seamN (wdF q f) (szF q f) (clF q f) (k9 + 1)))) (congrArg (fun y9 => Value.int (nI y9)) (seam_s (by first | rw [if_pos (by omega)] | rw [if_neg (by omega)]) (by first | rw [if_pos (by omega)] | rw [if_neg (by omega)]))) ?_
              refine lv_istore (lv' := [(7, .int (nI (seamN (wdF q f) (szF q f) (clF q f) (k9 + 1)))), (10, .int (nI (k9 / (wdF q f)))), (9, .int (nI (k9 % (wdF q f)))), (0, .ref xb), (1, .int (nI f)), (2, .int (nI (wdF q f))), (3, .int (nI (htF q f))), (4, .int (nI (cntS q f (szF q f) 6))), (5, .int (nI (cntS q f (swF q f) 6))), (6, .int (nI (cntR (fun j9 => decide (0 < cntC q f j9 0 (szF q f))) 0 6))), (8, .int (nI k9))]) hx hb dL_frame_192 hl (by decide) rfl (fun ls hl => ?_)
              refine lv_iinc (v := nI (k9 + 1)) (lv' := [(8, .int (nI (k9 + 1))), (7, .int (nI (seamN (wdF q f) (szF q f) (clF q f) (k9 + 1)))), (10, .int (nI (k9 / (wdF q f)))), (9, .int (nI (k9 % (wdF q f)))), (0, .ref xb), (1, .int (nI f)), (2, .int (nI (wdF q f))), (3, .int (nI (htF q f))), (4, .int (nI (cntS q f (szF q f) 6))), (5, .int (nI (cntS q f (swF q f) 6))), (6, .int (nI (cntR (fun j9 => decide (0 < cntC q f j9 0 (szF q f))) 0 6)))]) hx hb dL_frame_194 hl (k := 10) rfl (nI_1 _) (by decide) rfl (fun ls hl => ?_)
              refine lv_goto (tgt := 92) hx hb dL_frame_197 (by decide) ?_
              refine ih92 (k9 + 1) _ _ _ ⟨(by omega), hC, hS, lv_sub hl [4, 5, 6, 7, 8, 9, 10, 1, 0] rfl⟩ (by dsimp only; omega)
            · skip
              refine lv_iconst (v := nI 1) hx hb dL_frame_186 (by decide) ?_
              refine lv_goto (tgt := 191) hx hb dL_frame_187 (by decide) ?_
              refine mn_iadd hB dL_frame_191 ?_
              refine mh_top (y := .int (nI (seamN (wdF q f) (szF q f) (clF q f) (k9 + 1)))) (congrArg (fun y9 => Value.int (nI y9)) (seam_s (by first | rw [if_pos (by omega)] | rw [if_neg (by omega)]) (by first | rw [if_pos (by omega)] | rw [if_neg (by omega)]))) ?_
              refine lv_istore (lv' := [(7, .int (nI (seamN (wdF q f) (szF q f) (clF q f) (k9 + 1)))), (10, .int (nI (k9 / (wdF q f)))), (9, .int (nI (k9 % (wdF q f)))), (0, .ref xb), (1, .int (nI f)), (2, .int (nI (wdF q f))), (3, .int (nI (htF q f))), (4, .int (nI (cntS q f (szF q f) 6))), (5, .int (nI (cntS q f (swF q f) 6))), (6, .int (nI (cntR (fun j9 => decide (0 < cntC q f j9 0 (szF q f))) 0 6))), (8, .int (nI k9))]) hx hb dL_frame_192 hl (by decide) rfl (fun ls hl => ?_)
              refine lv_iinc (v := nI (k9 + 1)) (lv' := [(8, .int (nI (k9 + 1))), (7, .int (nI (seamN (wdF q f) (szF q f) (clF q f) (k9 + 1)))), (10, .int (nI (k9 / (wdF q f)))), (9, .int (nI (k9 % (wdF q f)))), (0, .ref xb), (1, .int (nI f)), (2, .int (nI (wdF q f))), (3, .int (nI (htF q f))), (4, .int (nI (cntS q f (szF q f) 6))), (5, .int (nI (cntS q f (swF q f) 6))), (6, .int (nI (cntR (fun j9 => decide (0 < cntC q f j9 0 (szF q f))) 0 6)))]) hx hb dL_frame_194 hl (k := 10) rfl (nI_1 _) (by decide) rfl (fun ls hl => ?_)
              refine lv_goto (tgt := 92) hx hb dL_frame_197 (by decide) ?_
              refine ih92 (k9 + 1) _ _ _ ⟨(by omega), hC, hS, lv_sub hl [4, 5, 6, 7, 8, 9, 10, 1, 0] rfl⟩ (by dsimp only; omega)
        · skip
          refine lv_iconst (v := nI 1) hx hb dL_frame_145 (by decide) ?_
          refine lv_goto (tgt := 150) hx hb dL_frame_146 (by decide) ?_
          refine mn_iadd hB dL_frame_150 ?_
          refine lv_istore (lv' := [(7, .int (nI ((seamN (wdF q f) (szF q f) (clF q f) k9) + 1))), (10, .int (nI (k9 / (wdF q f)))), (9, .int (nI (k9 % (wdF q f)))), (0, .ref xb), (1, .int (nI f)), (2, .int (nI (wdF q f))), (3, .int (nI (htF q f))), (4, .int (nI (cntS q f (szF q f) 6))), (5, .int (nI (cntS q f (swF q f) 6))), (6, .int (nI (cntR (fun j9 => decide (0 < cntC q f j9 0 (szF q f))) 0 6))), (8, .int (nI k9))]) hx hb dL_frame_151 hl (by decide) rfl (fun ls hl => ?_)
          refine lv_iload hx hb dL_frame_153 (lv_at hl 0 rfl) ?_
          refine lv_iload hx hb dL_frame_155 (lv_at hl 1 rfl) ?_
          refine lv_iconst (v := nI 1) hx hb dL_frame_157 (by decide) ?_
          refine mn_iadd hB dL_frame_158 ?_
          refine lv_iload_n hx hb dL_frame_159 rfl (lv_at hl 6 rfl) ?_
          refine mn_icmp_ge (tgt := 190) hB dL_frame_160 (by decide) (by omega) (by omega) (fun h_160 => ?_) (fun h_160 => ?_)
          · skip
            refine lv_iconst (v := nI 0) hx hb dL_frame_190 (by decide) ?_
            refine mn_iadd hB dL_frame_191 ?_
            refine mh_top (y := .int (nI (seamN (wdF q f) (szF q f) (clF q f) (k9 + 1)))) (congrArg (fun y9 => Value.int (nI y9)) (seam_s (by first | rw [if_pos (by omega)] | rw [if_neg (by omega)]) (by first | rw [if_pos (by omega)] | rw [if_neg (by omega)]))) ?_
            refine lv_istore (lv' := [(7, .int (nI (seamN (wdF q f) (szF q f) (clF q f) (k9 + 1)))), (10, .int (nI (k9 / (wdF q f)))), (9, .int (nI (k9 % (wdF q f)))), (0, .ref xb), (1, .int (nI f)), (2, .int (nI (wdF q f))), (3, .int (nI (htF q f))), (4, .int (nI (cntS q f (szF q f) 6))), (5, .int (nI (cntS q f (swF q f) 6))), (6, .int (nI (cntR (fun j9 => decide (0 < cntC q f j9 0 (szF q f))) 0 6))), (8, .int (nI k9))]) hx hb dL_frame_192 hl (by decide) rfl (fun ls hl => ?_)
            refine lv_iinc (v := nI (k9 + 1)) (lv' := [(8, .int (nI (k9 + 1))), (7, .int (nI (seamN (wdF q f) (szF q f) (clF q f) (k9 + 1)))), (10, .int (nI (k9 / (wdF q f)))), (9, .int (nI (k9 % (wdF q f)))), (0, .ref xb), (1, .int (nI f)), (2, .int (nI (wdF q f))), (3, .int (nI (htF q f))), (4, .int (nI (cntS q f (szF q f) 6))), (5, .int (nI (cntS q f (swF q f) 6))), (6, .int (nI (cntR (fun j9 => decide (0 < cntC q f j9 0 (szF q f))) 0 6)))]) hx hb dL_frame_194 hl (k := 10) rfl (nI_1 _) (by decide) rfl (fun ls hl => ?_)
            refine lv_goto (tgt := 92) hx hb dL_frame_197 (by decide) ?_
            refine ih92 (k9 + 1) _ _ _ ⟨(by omega), hC, hS, lv_sub hl [4, 5, 6, 7, 8, 9, 10, 1, 0] rfl⟩ (by dsimp only; omega)
          · skip
            refine lv_aload_n hx hb dL_frame_163 rfl (lv_at hl 3 rfl) ?_
            refine lv_iload_n hx hb dL_frame_164 rfl (lv_at hl 4 rfl) ?_
            refine lv_iload hx hb dL_frame_165 (lv_at hl 2 rfl) ?_
            refine lv_iload hx hb dL_frame_167 (lv_at hl 1 rfl) ?_
            refine cl_L_29 (As := [.int (nI f), .int (nI (k9 % (wdF q f))), .int (nI (k9 / (wdF q f)))]) (rest := [.int (nI ((seamN (wdF q f) (szF q f) (clF q f) k9) + 1))]) hB (f_X10_patch l g H xb lim q n rm sl sv tx ln f (k9 % (wdF q f)) (k9 / (wdF q f)) (hC) (by first | assumption | omega) (by first | assumption | omega) (by first | assumption | omega)) hC.ob rfl hl.1 (Nat.le_of_ble_eq_true rfl) dL_frame_169 ⟨Nat.le_of_ble_eq_true rfl, Nat.le_of_ble_eq_true rfl⟩ ⟨Nat.le_of_ble_eq_true rfl, Nat.le_of_ble_eq_true rfl⟩ hS (by have hz9 := hS.1; rintro q (h | h) <;> first | exact Or.inr (by omega) | exact h.elim | exact Or.inl h | (simp only [ftA] at h ⊢; omega)) (fun v H1 locs hpo hfr hS => ?_)
            obtain ⟨rfl, rfl⟩ := hpo
            refine W.widen (k := 0) (n := 0) (Nat.le_of_ble_eq_true rfl) (Nat.le_of_ble_eq_true rfl) ?_
            refine mh_top (y := .int (nI (clF q f k9))) (by rw [pat_0 (by omega)]) ?_
            refine lv_aload_n hx hb dL_frame_172 rfl (lv_at hl 3 rfl) ?_
            refine lv_iload_n hx hb dL_frame_173 rfl (lv_at hl 4 rfl) ?_
            refine lv_iload hx hb dL_frame_174 (lv_at hl 2 rfl) ?_
            refine lv_iload hx hb dL_frame_176 (lv_at hl 1 rfl) ?_
            refine lv_iconst (v := nI 1) hx hb dL_frame_178 (by decide) ?_
            refine mn_iadd hB dL_frame_179 ?_
            refine cl_L_29 (As := [.int (nI f), .int (nI (k9 % (wdF q f))), .int (nI ((k9 / (wdF q f)) + 1))]) (rest := [.int (nI (clF q f k9)), .int (nI ((seamN (wdF q f) (szF q f) (clF q f) k9) + 1))]) hB (f_X10_patch l g H xb lim q n rm sl sv tx ln f (k9 % (wdF q f)) ((k9 / (wdF q f)) + 1) (hC) (by first | assumption | omega) (by first | assumption | omega) (by first | assumption | omega)) hC.ob rfl hl.1 (Nat.le_of_ble_eq_true rfl) dL_frame_180 ⟨Nat.le_of_ble_eq_true rfl, Nat.le_of_ble_eq_true rfl⟩ ⟨Nat.le_of_ble_eq_true rfl, Nat.le_of_ble_eq_true rfl⟩ hS (by have hz9 := hS.1; rintro q (h | h) <;> first | exact Or.inr (by omega) | exact h.elim | exact Or.inl h | (simp only [ftA] at h ⊢; omega)) (fun v H1 locs hpo hfr hS => ?_)
            obtain ⟨rfl, rfl⟩ := hpo
            refine W.widen (k := 0) (n := 0) (Nat.le_of_ble_eq_true rfl) (Nat.le_of_ble_eq_true rfl) ?_
            refine mh_top (y := .int (nI (clF q f (k9 + wdF q f)))) (by rw [pat_2 (by omega) (by omega)]) ?_
            refine mn_icmp_eq (tgt := 190) hB dL_frame_183 (by decide) (by omega) (by omega) (fun h_183 => ?_) (fun h_183 => ?_)
            · skip
              refine lv_iconst (v := nI 0) hx hb dL_frame_190 (by decide) ?_
              refine mn_iadd hB dL_frame_191 ?_
              refine mh_top (y := .int (nI (seamN (wdF q f) (szF q f) (clF q f) (k9 + 1)))) (congrArg (fun y9 => Value.int (nI y9)) (seam_s (by first | rw [if_pos (by omega)] | rw [if_neg (by omega)]) (by first | rw [if_pos (by omega)] | rw [if_neg (by omega)]))) ?_
              refine lv_istore (lv' := [(7, .int (nI (seamN (wdF q f) (szF q f) (clF q f) (k9 + 1)))), (10, .int (nI (k9 / (wdF q f)))), (9, .int (nI (k9 % (wdF q f)))), (0, .ref xb), (1, .int (nI f)), (2, .int (nI (wdF q f))), (3, .int (nI (htF q f))), (4, .int (nI (cntS q f (szF q f) 6))), (5, .int (nI (cntS q f (swF q f) 6))), (6, .int (nI (cntR (fun j9 => decide (0 < cntC q f j9 0 (szF q f))) 0 6))), (8, .int (nI k9))]) hx hb dL_frame_192 hl (by decide) rfl (fun ls hl => ?_)
              refine lv_iinc (v := nI (k9 + 1)) (lv' := [(8, .int (nI (k9 + 1))), (7, .int (nI (seamN (wdF q f) (szF q f) (clF q f) (k9 + 1)))), (10, .int (nI (k9 / (wdF q f)))), (9, .int (nI (k9 % (wdF q f)))), (0, .ref xb), (1, .int (nI f)), (2, .int (nI (wdF q f))), (3, .int (nI (htF q f))), (4, .int (nI (cntS q f (szF q f) 6))), (5, .int (nI (cntS q f (swF q f) 6))), (6, .int (nI (cntR (fun j9 => decide (0 < cntC q f j9 0 (szF q f))) 0 6)))]) hx hb dL_frame_194 hl (k := 10) rfl (nI_1 _) (by decide) rfl (fun ls hl => ?_)
              refine lv_goto (tgt := 92) hx hb dL_frame_197 (by decide) ?_
              refine ih92 (k9 + 1) _ _ _ ⟨(by omega), hC, hS, lv_sub hl [4, 5, 6, 7, 8, 9, 10, 1, 0] rfl⟩ (by dsimp only; omega)
            · skip
              refine lv_iconst (v := nI 1) hx hb dL_frame_186 (by decide) ?_
              refine lv_goto (tgt := 191) hx hb dL_frame_187 (by decide) ?_
              refine mn_iadd hB dL_frame_191 ?_
              refine mh_top (y := .int (nI (seamN (wdF q f) (szF q f) (clF q f) (k9 + 1)))) (congrArg (fun y9 => Value.int (nI y9)) (seam_s (by first | rw [if_pos (by omega)] | rw [if_neg (by omega)]) (by first | rw [if_pos (by omega)] | rw [if_neg (by omega)]))) ?_
              refine lv_istore (lv' := [(7, .int (nI (seamN (wdF q f) (szF q f) (clF q f) (k9 + 1)))), (10, .int (nI (k9 / (wdF q f)))), (9, .int (nI (k9 % (wdF q f)))), (0, .ref xb), (1, .int (nI f)), (2, .int (nI (wdF q f))), (3, .int (nI (htF q f))), (4, .int (nI (cntS q f (szF q f) 6))), (5, .int (nI (cntS q f (swF q f) 6))), (6, .int (nI (cntR (fun j9 => decide (0 < cntC q f j9 0 (szF q f))) 0 6))), (8, .int (nI k9))]) hx hb dL_frame_192 hl (by decide) rfl (fun ls hl => ?_)
              refine lv_iinc (v := nI (k9 + 1)) (lv' := [(8, .int (nI (k9 + 1))), (7, .int (nI (seamN (wdF q f) (szF q f) (clF q f) (k9 + 1)))), (10, .int (nI (k9 / (wdF q f)))), (9, .int (nI (k9 % (wdF q f)))), (0, .ref xb), (1, .int (nI f)), (2, .int (nI (wdF q f))), (3, .int (nI (htF q f))), (4, .int (nI (cntS q f (szF q f) 6))), (5, .int (nI (cntS q f (swF q f) 6))), (6, .int (nI (cntR (fun j9 => decide (0 < cntC q f j9 0 (szF q f))) 0 6)))]) hx hb dL_frame_194 hl (k := 10) rfl (nI_1 _) (by decide) rfl (fun ls hl => ?_)
              refine lv_goto (tgt := 92) hx hb dL_frame_197 (by decide) ?_
              refine ih92 (k9 + 1) _ _ _ ⟨(by omega), hC, hS, lv_sub hl [4, 5, 6, 7, 8, 9, 10, 1, 0] rfl⟩ (by dsimp only; omega)
  · skip
    refine lv_iload hx hb dL_frame_36 (lv_at hl 4 rfl) ?_
    refine lv_aload_n hx hb dL_frame_38 rfl (lv_at hl 0 rfl) ?_
    refine lv_iload_n hx hb dL_frame_39 rfl (lv_at hl 1 rfl) ?_
    refine lv_iload hx hb dL_frame_40 (lv_at hl 8 rfl) ?_
    refine lv_iconst (v := nI 0) hx hb dL_frame_42 (by decide) ?_
    refine cl_L_15 (As := [.int (nI f), .int (nI c9), .int (nI 0)]) (rest := [.int (nI (cntS q f (szF q f) c9))]) hB (f_X10_count_0 l g H xb lim q n rm sl sv tx ln f c9 (hC) (by first | assumption | omega) (by first | assumption | omega)) hC.ob rfl hl.1 (Nat.le_of_ble_eq_true rfl) dL_frame_43 ⟨Nat.le_of_ble_eq_true rfl, Nat.le_of_ble_eq_true rfl⟩ ⟨Nat.le_of_ble_eq_true rfl, Nat.le_of_ble_eq_true rfl⟩ hS (by have hz9 := hS.1; rintro q (h | h) <;> first | exact Or.inr (by omega) | exact h.elim | exact Or.inl h | (simp only [ftA] at h ⊢; omega)) (fun v H1 locs hpo hfr hS => ?_)
    obtain ⟨rfl, rfl⟩ := hpo
    refine W.widen (k := 0) (n := 0) (Nat.le_of_ble_eq_true rfl) (Nat.le_of_ble_eq_true rfl) ?_
    refine mn_iadd hB dL_frame_46 ?_
    refine mh_top (y := .int (nI (cntS q f (szF q f) (c9 + 1)))) (rfl) ?_
    refine lv_istore (lv' := [(4, .int (nI (cntS q f (szF q f) (c9 + 1)))), (0, .ref xb), (1, .int (nI f)), (2, .int (nI (wdF q f))), (3, .int (nI (htF q f))), (5, .int (nI (cntS q f (swF q f) c9))), (6, .int (nI (cntR (fun j9 => decide (0 < cntC q f j9 0 (szF q f))) 0 c9))), (7, .int (nI 0)), (8, .int (nI c9))]) hx hb dL_frame_47 hl (by decide) rfl (fun ls hl => ?_)
    refine lv_iload hx hb dL_frame_49 (lv_at hl 5 rfl) ?_
    refine lv_aload_n hx hb dL_frame_51 rfl (lv_at hl 1 rfl) ?_
    refine lv_iload_n hx hb dL_frame_52 rfl (lv_at hl 2 rfl) ?_
    refine lv_iload hx hb dL_frame_53 (lv_at hl 8 rfl) ?_
    refine lv_iconst (v := nI 1) hx hb dL_frame_55 (by decide) ?_
    refine cl_L_15 (As := [.int (nI f), .int (nI c9), .int (nI 1)]) (rest := [.int (nI (cntS q f (swF q f) c9))]) hB (f_X10_count_1 l g H xb lim q n rm sl sv tx ln f c9 (hC) (by first | assumption | omega) (by first | assumption | omega)) hC.ob rfl hl.1 (Nat.le_of_ble_eq_true rfl) dL_frame_56 ⟨Nat.le_of_ble_eq_true rfl, Nat.le_of_ble_eq_true rfl⟩ ⟨Nat.le_of_ble_eq_true rfl, Nat.le_of_ble_eq_true rfl⟩ hS (by have hz9 := hS.1; rintro q (h | h) <;> first | exact Or.inr (by omega) | exact h.elim | exact Or.inl h | (simp only [ftA] at h ⊢; omega)) (fun v H1 locs hpo hfr hS => ?_)
    obtain ⟨rfl, rfl⟩ := hpo
    refine W.widen (k := 0) (n := 0) (Nat.le_of_ble_eq_true rfl) (Nat.le_of_ble_eq_true rfl) ?_
    refine mn_iadd hB dL_frame_59 ?_
    refine mh_top (y := .int (nI (cntS q f (swF q f) (c9 + 1)))) (rfl) ?_
    refine lv_istore (lv' := [(5, .int (nI (cntS q f (swF q f) (c9 + 1)))), (4, .int (nI (cntS q f (szF q f) (c9 + 1)))), (0, .ref xb), (1, .int (nI f)), (2, .int (nI (wdF q f))), (3, .int (nI (htF q f))), (6, .int (nI (cntR (fun j9 => decide (0 < cntC q f j9 0 (szF q f))) 0 c9))), (7, .int (nI 0)), (8, .int (nI c9))]) hx hb dL_frame_60 hl (by decide) rfl (fun ls hl => ?_)
    refine lv_iload hx hb dL_frame_62 (lv_at hl 6 rfl) ?_
    refine lv_aload_n hx hb dL_frame_64 rfl (lv_at hl 2 rfl) ?_
    refine lv_iload_n hx hb dL_frame_65 rfl (lv_at hl 3 rfl) ?_
    refine lv_iload hx hb dL_frame_66 (lv_at hl 8 rfl) ?_
    refine lv_iconst (v := nI 0) hx hb dL_frame_68 (by decide) ?_
    refine cl_L_15 (As := [.int (nI f), .int (nI c9), .int (nI 0)]) (rest := [.int (nI (cntR (fun j9 => decide (0 < cntC q f j9 0 (szF q f))) 0 c9))]) hB (f_X10_count_0 l g H xb lim q n rm sl sv tx ln f c9 (hC) (by first | assumption | omega) (by first | assumption | omega)) hC.ob rfl hl.1 (Nat.le_of_ble_eq_true rfl) dL_frame_69 ⟨Nat.le_of_ble_eq_true rfl, Nat.le_of_ble_eq_true rfl⟩ ⟨Nat.le_of_ble_eq_true rfl, Nat.le_of_ble_eq_true rfl⟩ hS (by have hz9 := hS.1; rintro q (h | h) <;> first | exact Or.inr (by omega) | exact h.elim | exact Or.inl h | (simp only [ftA] at h ⊢; omega)) (fun v H1 locs hpo hfr hS => ?_)
    obtain ⟨rfl, rfl⟩ := hpo
    refine W.widen (k := 0) (n := 0) (Nat.le_of_ble_eq_true rfl) (Nat.le_of_ble_eq_true rfl) ?_
    refine mn_if_le (tgt := 79) hB dL_frame_72 (by decide) (by have : cntC q f c9 0 (szF q f) ≤ szF q f := cntR_le _ _ _; omega) (fun h_72 => ?_) (fun h_72 => ?_)
    · skip
      refine lv_iconst (v := nI 0) hx hb dL_frame_79 (by decide) ?_
      refine mn_iadd hB dL_frame_80 ?_
      refine mh_top (y := .int (nI (cntR (fun j9 => decide (0 < cntC q f j9 0 (szF q f))) 0 (c9 + 1)))) (congrArg (fun y9 => Value.int (nI y9)) (by first | exact col_t (decide_eq_true (by omega)) | exact col_f (decide_eq_false (by omega)))) ?_
      refine lv_istore (lv' := [(6, .int (nI (cntR (fun j9 => decide (0 < cntC q f j9 0 (szF q f))) 0 (c9 + 1)))), (5, .int (nI (cntS q f (swF q f) (c9 + 1)))), (4, .int (nI (cntS q f (szF q f) (c9 + 1)))), (0, .ref xb), (1, .int (nI f)), (2, .int (nI (wdF q f))), (3, .int (nI (htF q f))), (7, .int (nI 0)), (8, .int (nI c9))]) hx hb dL_frame_81 hl (by decide) rfl (fun ls hl => ?_)
      refine lv_iinc (v := nI (c9 + 1)) (lv' := [(8, .int (nI (c9 + 1))), (6, .int (nI (cntR (fun j9 => decide (0 < cntC q f j9 0 (szF q f))) 0 (c9 + 1)))), (5, .int (nI (cntS q f (swF q f) (c9 + 1)))), (4, .int (nI (cntS q f (szF q f) (c9 + 1)))), (0, .ref xb), (1, .int (nI f)), (2, .int (nI (wdF q f))), (3, .int (nI (htF q f))), (7, .int (nI 0))]) hx hb dL_frame_83 hl (k := 8) rfl (nI_1 _) (by decide) rfl (fun ls hl => ?_)
      refine lv_goto (tgt := 29) hx hb dL_frame_86 (by decide) ?_
      refine ih29 (c9 + 1) _ _ _ ⟨(by omega), hC, hS, lv_sub hl [4, 5, 6, 7, 3, 2, 1, 8, 0] rfl⟩ (by dsimp only; omega)
    · skip
      refine lv_iconst (v := nI 1) hx hb dL_frame_75 (by decide) ?_
      refine lv_goto (tgt := 80) hx hb dL_frame_76 (by decide) ?_
      refine mn_iadd hB dL_frame_80 ?_
      refine mh_top (y := .int (nI (cntR (fun j9 => decide (0 < cntC q f j9 0 (szF q f))) 0 (c9 + 1)))) (congrArg (fun y9 => Value.int (nI y9)) (by first | exact col_t (decide_eq_true (by omega)) | exact col_f (decide_eq_false (by omega)))) ?_
      refine lv_istore (lv' := [(6, .int (nI (cntR (fun j9 => decide (0 < cntC q f j9 0 (szF q f))) 0 (c9 + 1)))), (5, .int (nI (cntS q f (swF q f) (c9 + 1)))), (4, .int (nI (cntS q f (szF q f) (c9 + 1)))), (0, .ref xb), (1, .int (nI f)), (2, .int (nI (wdF q f))), (3, .int (nI (htF q f))), (7, .int (nI 0)), (8, .int (nI c9))]) hx hb dL_frame_81 hl (by decide) rfl (fun ls hl => ?_)
      refine lv_iinc (v := nI (c9 + 1)) (lv' := [(8, .int (nI (c9 + 1))), (6, .int (nI (cntR (fun j9 => decide (0 < cntC q f j9 0 (szF q f))) 0 (c9 + 1)))), (5, .int (nI (cntS q f (swF q f) (c9 + 1)))), (4, .int (nI (cntS q f (szF q f) (c9 + 1)))), (0, .ref xb), (1, .int (nI f)), (2, .int (nI (wdF q f))), (3, .int (nI (htF q f))), (7, .int (nI 0))]) hx hb dL_frame_83 hl (k := 8) rfl (nI_1 _) (by decide) rfl (fun ls hl => ?_)
      refine lv_goto (tgt := 29) hx hb dL_frame_86 (by decide) ?_
      refine ih29 (c9 + 1) _ _ _ ⟨(by omega), hC, hS, lv_sub hl [4, 5, 6, 7, 3, 2, 1, 8, 0] rfl⟩ (by dsimp only; omega)

def rm_c_L_frame_e : Room := { frames := 6, cells := 0, slots := 0, locals := 145 }
set_option maxRecDepth 100000 in
set_option maxHeartbeats 400000 in
theorem c_L_frame_e (l : Launch) (g : GG) (H0 : Heap) (xb : Nat) (lim : Nat) (q : Nat → Int32) (n : Nat) (rm : Nat → Int32) (sl : Nat → Int32) (sv : Nat → Int32) (tx : Nat → Int32) (ln : Nat) (f : Nat) (hC : CLS g xb lim q n rm sl sv tx ln H0) (hf : f < 3) (hs0 : szF q f = 0) : Ct l yL_frame cL_frame 11 (some .boolean) rm_c_L_frame_e g [.ref xb, .int (nI f)] H0 (ftA (CF xb lim) H0.size) (fun v H1 => v = some (.int (nI 1)) ∧ CLS g xb lim q n rm sl sv tx ln H1) := by
  refine Ct.of (by decide) (fun _ h => Or.inr h) (Nat.le_of_ble_eq_true rfl) ?_
  intro p e s m below meth c ls hB hin hS hH hl
  have hx := hB.x
  have hb := hB.b
  have hl : lv_has ls 11 [(0, .ref xb), (1, .int (nI f))] := hl
  have hW := hC.wf
  have hZw := hC.wz
  have hF := hW.fr hf
  have hz6 := WF.sz hF
  have hsw := WF.sw hF
  have hszd : szF q f = wdF q f * htF q f := rfl
  have hw16 := hF.w16
  have hh16 := hF.h16
  have hall := cntS_6 hF hz6
  have hswn := cntS_6 hF (show swF q f ≤ 256 by omega)
  have hcl6 := cntR_le (fun j9 => decide (0 < cntC q f j9 0 (szF q f))) 0 6
  have hsl := seamN_le (wdF q f) (szF q f) (clF q f) (szF q f)
  have hpc := pcN_ge (w := wdF q f) (n := szF q f) (col := clF q f) (fun k8 hk8 => hF.c6 (by omega))
  have hpl := pcN_le (labC (wdF q f) (szF q f) (clF q f)) (szF q f) (szF q f)
  have hgl := grN_le (labC (wdF q f) (szF q f) (clF q f)) (szF q f) (szF q f)
  have hpc : cntR (fun j9 => decide (0 < cntC q f j9 0 (szF q f))) 0 6 ≤ pcN (labC (wdF q f) (szF q f) (clF q f)) (szF q f) (szF q f) := hpc
  have he0 := sz0 hF hs0
  refine lv_aload_n hx hb dL_frame_0 rfl (lv_at hl 0 rfl) ?_
  refine lv_iload_n hx hb dL_frame_1 rfl (lv_at hl 1 rfl) ?_
  refine lv_iconst (v := nI 0) hx hb dL_frame_2 (by decide) ?_
  refine cl_L_26 (As := [.int (nI f), .int (nI 0)]) (rest := []) hB (f_X10_frame_0 l g H0 xb lim q n rm sl sv tx ln f (hC) (by first | assumption | omega)) hC.ob rfl hl.1 (Nat.le_of_ble_eq_true rfl) dL_frame_3 ⟨Nat.le_of_ble_eq_true rfl, Nat.le_of_ble_eq_true rfl⟩ ⟨Nat.le_of_ble_eq_true rfl, Nat.le_of_ble_eq_true rfl⟩ hS (by have hz9 := hS.1; rintro q (h | h) <;> first | exact Or.inr (by omega) | exact h.elim | exact Or.inl h | (simp only [ftA] at h ⊢; omega)) (fun v H1 locs hpo hfr hS => ?_)
  obtain ⟨rfl, rfl⟩ := hpo
  refine W.widen (k := 0) (n := 0) (Nat.le_of_ble_eq_true rfl) (Nat.le_of_ble_eq_true rfl) ?_
  refine mh_top (y := .int (nI (wdF q f))) (by rw [hF.w]) ?_
  refine lv_istore_n (lv' := [(2, .int (nI (wdF q f))), (0, .ref xb), (1, .int (nI f))]) hx hb dL_frame_6 rfl hl (by decide) rfl (fun ls hl => ?_)
  refine lv_aload_n hx hb dL_frame_7 rfl (lv_at hl 1 rfl) ?_
  refine lv_iload_n hx hb dL_frame_8 rfl (lv_at hl 2 rfl) ?_
  refine lv_iconst (v := nI 1) hx hb dL_frame_9 (by decide) ?_
  refine cl_L_26 (As := [.int (nI f), .int (nI 1)]) (rest := []) hB (f_X10_frame_1 l g H0 xb lim q n rm sl sv tx ln f (hC) (by first | assumption | omega)) hC.ob rfl hl.1 (Nat.le_of_ble_eq_true rfl) dL_frame_10 ⟨Nat.le_of_ble_eq_true rfl, Nat.le_of_ble_eq_true rfl⟩ ⟨Nat.le_of_ble_eq_true rfl, Nat.le_of_ble_eq_true rfl⟩ hS (by have hz9 := hS.1; rintro q (h | h) <;> first | exact Or.inr (by omega) | exact h.elim | exact Or.inl h | (simp only [ftA] at h ⊢; omega)) (fun v H1 locs hpo hfr hS => ?_)
  obtain ⟨rfl, rfl⟩ := hpo
  refine W.widen (k := 0) (n := 0) (Nat.le_of_ble_eq_true rfl) (Nat.le_of_ble_eq_true rfl) ?_
  refine mh_top (y := .int (nI (htF q f))) (by rw [hF.h]) ?_
  refine lv_istore_n (lv' := [(3, .int (nI (htF q f))), (2, .int (nI (wdF q f))), (0, .ref xb), (1, .int (nI f))]) hx hb dL_frame_13 rfl hl (by decide) rfl (fun ls hl => ?_)
  refine lv_iconst (v := nI 0) hx hb dL_frame_14 (by decide) ?_
  refine lv_istore (lv' := [(4, .int (nI 0)), (3, .int (nI (htF q f))), (2, .int (nI (wdF q f))), (0, .ref xb), (1, .int (nI f))]) hx hb dL_frame_15 hl (by decide) rfl (fun ls hl => ?_)
  refine lv_iconst (v := nI 0) hx hb dL_frame_17 (by decide) ?_
  refine lv_istore (lv' := [(5, .int (nI 0)), (4, .int (nI 0)), (3, .int (nI (htF q f))), (2, .int (nI (wdF q f))), (0, .ref xb), (1, .int (nI f))]) hx hb dL_frame_18 hl (by decide) rfl (fun ls hl => ?_)
  refine lv_iconst (v := nI 0) hx hb dL_frame_20 (by decide) ?_
  refine lv_istore (lv' := [(6, .int (nI 0)), (5, .int (nI 0)), (4, .int (nI 0)), (3, .int (nI (htF q f))), (2, .int (nI (wdF q f))), (0, .ref xb), (1, .int (nI f))]) hx hb dL_frame_21 hl (by decide) rfl (fun ls hl => ?_)
  refine lv_iconst (v := nI 0) hx hb dL_frame_23 (by decide) ?_
  refine lv_istore (lv' := [(7, .int (nI 0)), (6, .int (nI 0)), (5, .int (nI 0)), (4, .int (nI 0)), (3, .int (nI (htF q f))), (2, .int (nI (wdF q f))), (0, .ref xb), (1, .int (nI f))]) hx hb dL_frame_24 hl (by decide) rfl (fun ls hl => ?_)
  refine lv_iconst (v := nI 0) hx hb dL_frame_26 (by decide) ?_
  refine lv_istore (lv' := [(8, .int (nI 0)), (7, .int (nI 0)), (6, .int (nI 0)), (5, .int (nI 0)), (4, .int (nI 0)), (3, .int (nI (htF q f))), (2, .int (nI (wdF q f))), (0, .ref xb), (1, .int (nI f))]) hx hb dL_frame_27 hl (by decide) rfl (fun ls hl => ?_)
  refine mh_loop (σ := Nat) (fun xx9 H locs ls => match xx9 with | c9 => c9 ≤ 6 ∧ CLS g xb lim q n rm sl sv tx ln H ∧ va_S (ftA (CF xb lim) H0.size) H0 H locs ∧ lv_has ls 11 [(0, .ref xb), (1, .int (nI f)), (2, .int (nI (wdF q f))), (3, .int (nI (htF q f))), (4, .int (nI (cntS q f (szF q f) c9))), (5, .int (nI (cntS q f (swF q f) c9))), (6, .int (nI (cntR (fun j9 => decide (0 < cntC q f j9 0 (szF q f))) 0 c9))), (7, .int (nI 0)), (8, .int (nI c9))]) (fun xx9 => match xx9 with | c9 => 6 - c9) ?_ 0 ⟨(by omega), hC, hS, lv_sub hl [7, 8, 6, 5, 4, 3, 2, 1, 0] rfl⟩
  rintro c9 H locs ls ⟨hc9, hC, hS, hl⟩ ih
  have ih29 := ih
  have hcl1 := cntS_le (q := q) (f := f) (n := szF q f) (i := c9) (by omega) hz6
  have hcl2 := cntS_le (q := q) (f := f) (n := swF q f) (i := c9) (by omega) (by omega)
  refine lv_iload hx hb dL_frame_29 (lv_at hl 8 rfl) ?_
  refine lv_bipush (v := nI 6) hx hb dL_frame_31 (by decide) ?_
  refine mn_icmp_ge (tgt := 89) hB dL_frame_33 (by decide) (by omega) (by omega) (fun h_33 => ?_) (fun h_33 => ?_)
  · skip
    have hin9 : c9 = 6 := by omega
    subst hin9
    refine lv_iconst (v := nI 0) hx hb dL_frame_89 (by decide) ?_
    refine lv_istore (lv' := [(8, .int (nI 0)), (0, .ref xb), (1, .int (nI f)), (2, .int (nI (wdF q f))), (3, .int (nI (htF q f))), (4, .int (nI (cntS q f (szF q f) 6))), (5, .int (nI (cntS q f (swF q f) 6))), (6, .int (nI (cntR (fun j9 => decide (0 < cntC q f j9 0 (szF q f))) 0 6))), (7, .int (nI 0))]) hx hb dL_frame_90 hl (by decide) rfl (fun ls hl => ?_)
    refine mh_loop (σ := Nat) (fun xx9 H locs ls => match xx9 with | k9 => k9 ≤ szF q f ∧ CLS g xb lim q n rm sl sv tx ln H ∧ va_S (ftA (CF xb lim) H0.size) H0 H locs ∧ lv_has ls 11 [(0, .ref xb), (1, .int (nI f)), (2, .int (nI (wdF q f))), (3, .int (nI (htF q f))), (4, .int (nI (cntS q f (szF q f) 6))), (5, .int (nI (cntS q f (swF q f) 6))), (6, .int (nI (cntR (fun j9 => decide (0 < cntC q f j9 0 (szF q f))) 0 6))), (7, .int (nI (seamN (wdF q f) (szF q f) (clF q f) k9))), (8, .int (nI k9))]) (fun xx9 => match xx9 with | k9 => szF q f - k9) ?_ 0 ⟨(by omega), hC, hS, lv_sub hl [1, 2, 3, 4, 5, 6, 7, 8, 0] rfl⟩
    rintro k9 H locs ls ⟨hk9, hC, hS, hl⟩ ih
    have ih92 := ih
    refine lv_iload hx hb dL_frame_92 (lv_at hl 8 rfl) ?_
    refine lv_iload_n hx hb dL_frame_94 rfl (lv_at hl 2 rfl) ?_
    refine lv_iload_n hx hb dL_frame_95 rfl (lv_at hl 3 rfl) ?_
    refine mn_imul hB dL_frame_96 ?_
    refine mn_icmp_ge (tgt := 200) hB dL_frame_97 (by decide) (by omega) (by omega) (fun h_97 => ?_) (fun h_97 => ?_)
    · skip
      have hin9 : k9 = szF q f := by omega
      subst hin9
      refine lv_iload hx hb dL_frame_200 (lv_at hl 4 rfl) ?_
      refine lv_iload_n hx hb dL_frame_202 rfl (lv_at hl 2 rfl) ?_
      refine lv_iload_n hx hb dL_frame_203 rfl (lv_at hl 3 rfl) ?_
      refine mn_imul hB dL_frame_204 ?_
      refine mn_icmp_ne (tgt := 252) hB dL_frame_205 (by decide) (by omega) (by omega) (fun h => by exfalso; omega) (fun h_205 => ?_)
      refine lv_iload hx hb dL_frame_208 (lv_at hl 5 rfl) ?_
      refine lv_aload_n hx hb dL_frame_210 rfl (lv_at hl 0 rfl) ?_
      refine lv_iload_n hx hb dL_frame_211 rfl (lv_at hl 1 rfl) ?_
      refine lv_iconst (v := nI 2) hx hb dL_frame_212 (by decide) ?_
      refine cl_L_26 (As := [.int (nI f), .int (nI 2)]) (rest := [.int (nI (cntS q f (swF q f) 6))]) hB (f_X10_frame_2 l g H xb lim q n rm sl sv tx ln f (hC) (by first | assumption | omega)) hC.ob rfl hl.1 (Nat.le_of_ble_eq_true rfl) dL_frame_213 ⟨Nat.le_of_ble_eq_true rfl, Nat.le_of_ble_eq_true rfl⟩ ⟨Nat.le_of_ble_eq_true rfl, Nat.le_of_ble_eq_true rfl⟩ hS (by have hz9 := hS.1; rintro q (h | h) <;> first | exact Or.inr (by omega) | exact h.elim | exact Or.inl h | (simp only [ftA] at h ⊢; omega)) (fun v H1 locs hpo hfr hS => ?_)
      obtain ⟨rfl, rfl⟩ := hpo
      refine W.widen (k := 0) (n := 0) (Nat.le_of_ble_eq_true rfl) (Nat.le_of_ble_eq_true rfl) ?_
      refine mh_top (y := .int (nI (swF q f))) (by rw [hF.s]) ?_
      refine mn_icmp_ne (tgt := 252) hB dL_frame_216 (by decide) (by omega) (by omega) (fun h => by exfalso; omega) (fun h_216 => ?_)
      refine lv_iload hx hb dL_frame_219 (lv_at hl 5 rfl) ?_
      refine lv_iload hx hb dL_frame_221 (lv_at hl 4 rfl) ?_
      refine mn_icmp_gt (tgt := 252) hB dL_frame_223 (by decide) (by omega) (by omega) (fun h => by exfalso; omega) (fun h_223 => ?_)
      refine lv_iload hx hb dL_frame_226 (lv_at hl 6 rfl) ?_
      refine lv_aload_n hx hb dL_frame_228 rfl (lv_at hl 0 rfl) ?_
      refine lv_iload_n hx hb dL_frame_229 rfl (lv_at hl 1 rfl) ?_
      refine lv_iconst (v := nI 3) hx hb dL_frame_230 (by decide) ?_
      refine cl_L_26 (As := [.int (nI f), .int (nI 3)]) (rest := [.int (nI (cntR (fun j9 => decide (0 < cntC q f j9 0 (szF q f))) 0 6))]) hB (f_X10_frame_3 l g H xb lim q n rm sl sv tx ln f (hC) (by first | assumption | omega)) hC.ob rfl hl.1 (Nat.le_of_ble_eq_true rfl) dL_frame_231 ⟨Nat.le_of_ble_eq_true rfl, Nat.le_of_ble_eq_true rfl⟩ ⟨Nat.le_of_ble_eq_true rfl, Nat.le_of_ble_eq_true rfl⟩ hS (by have hz9 := hS.1; rintro q (h | h) <;> first | exact Or.inr (by omega) | exact h.elim | exact Or.inl h | (simp only [ftA] at h ⊢; omega)) (fun v H1 locs hpo hfr hS => ?_)
      obtain ⟨rfl, rfl⟩ := hpo
      refine W.widen (k := 0) (n := 0) (Nat.le_of_ble_eq_true rfl) (Nat.le_of_ble_eq_true rfl) ?_
      refine mn_icmp_ne (tgt := 252) hB dL_frame_234 (by decide) (by omega) (by omega) (fun h => by exfalso; omega) (fun h_234 => ?_)
      refine lv_iload hx hb dL_frame_237 (lv_at hl 7 rfl) ?_
      refine lv_aload_n hx hb dL_frame_239 rfl (lv_at hl 0 rfl) ?_
      refine lv_iload_n hx hb dL_frame_240 rfl (lv_at hl 1 rfl) ?_
      refine lv_iconst (v := nI 4) hx hb dL_frame_241 (by decide) ?_
      refine cl_L_26 (As := [.int (nI f), .int (nI 4)]) (rest := [.int (nI (seamN (wdF q f) (szF q f) (clF q f) (szF q f)))]) hB (f_X10_frame_4 l g H xb lim q n rm sl sv tx ln f (hC) (by first | assumption | omega)) hC.ob rfl hl.1 (Nat.le_of_ble_eq_true rfl) dL_frame_242 ⟨Nat.le_of_ble_eq_true rfl, Nat.le_of_ble_eq_true rfl⟩ ⟨Nat.le_of_ble_eq_true rfl, Nat.le_of_ble_eq_true rfl⟩ hS (by have hz9 := hS.1; rintro q (h | h) <;> first | exact Or.inr (by omega) | exact h.elim | exact Or.inl h | (simp only [ftA] at h ⊢; omega)) (fun v H1 locs hpo hfr hS => ?_)
      obtain ⟨rfl, rfl⟩ := hpo
      refine W.widen (k := 0) (n := 0) (Nat.le_of_ble_eq_true rfl) (Nat.le_of_ble_eq_true rfl) ?_
      refine mn_icmp_ne (tgt := 252) hB dL_frame_245 (by decide) (by omega) (by omega) (fun h => by exfalso; omega) (fun h_245 => ?_)
      refine lv_iconst (v := nI 1) hx hb dL_frame_248 (by decide) ?_
      refine lv_goto (tgt := 253) hx hb dL_frame_249 (by decide) ?_
      refine lv_istore (lv' := [(8, .int (nI 1)), (0, .ref xb), (1, .int (nI f)), (2, .int (nI (wdF q f))), (3, .int (nI (htF q f))), (4, .int (nI (cntS q f (szF q f) 6))), (5, .int (nI (cntS q f (swF q f) 6))), (6, .int (nI (cntR (fun j9 => decide (0 < cntC q f j9 0 (szF q f))) 0 6))), (7, .int (nI (seamN (wdF q f) (szF q f) (clF q f) (szF q f))))]) hx hb dL_frame_253 hl (by decide) rfl (fun ls hl => ?_)
      refine lv_iload hx hb dL_frame_255 (lv_at hl 0 rfl) ?_
      refine mn_if_eq (tgt := 327) hB dL_frame_257 (by decide) (by omega) (fun h => by exfalso; omega) (fun h_257 => ?_)
      refine lv_aload_n hx hb dL_frame_260 rfl (lv_at hl 1 rfl) ?_
      refine lv_iload_n hx hb dL_frame_261 rfl (lv_at hl 2 rfl) ?_
      refine lv_iconst (v := nI 5) hx hb dL_frame_262 (by decide) ?_
      refine cl_L_26 (As := [.int (nI f), .int (nI 5)]) (rest := []) hB (f_X10_frame_5 l g H xb lim q n rm sl sv tx ln f (hC) (by first | assumption | omega)) hC.ob rfl hl.1 (Nat.le_of_ble_eq_true rfl) dL_frame_263 ⟨Nat.le_of_ble_eq_true rfl, Nat.le_of_ble_eq_true rfl⟩ ⟨Nat.le_of_ble_eq_true rfl, Nat.le_of_ble_eq_true rfl⟩ hS (by have hz9 := hS.1; rintro q9 (h9 | h9); exact Or.inl h9; exact Or.inr (by omega)) (fun v H1 locs hpo hfr hS => ?_)
      obtain ⟨rfl, hC⟩ := hpo
      generalize H1 = H at hfr hS hC ⊢
      refine W.widen (k := 0) (n := 0) (Nat.le_of_ble_eq_true rfl) (Nat.le_of_ble_eq_true rfl) ?_
      refine lv_iload hx hb dL_frame_266 (lv_at hl 7 rfl) ?_
      refine mn_icmp_lt (tgt := 327) hB dL_frame_268 (by decide) (by omega) (by omega) (fun h => by exfalso; omega) (fun h_268 => ?_)
      refine lv_aload_n hx hb dL_frame_271 rfl (lv_at hl 1 rfl) ?_
      refine lv_iload_n hx hb dL_frame_272 rfl (lv_at hl 2 rfl) ?_
      refine lv_bipush (v := nI 6) hx hb dL_frame_273 (by decide) ?_
      refine cl_L_26 (As := [.int (nI f), .int (nI 6)]) (rest := []) hB (f_X10_frame_6 l g H xb lim q n rm sl sv tx ln f (hC) (by first | assumption | omega)) hC.ob rfl hl.1 (Nat.le_of_ble_eq_true rfl) dL_frame_275 ⟨Nat.le_of_ble_eq_true rfl, Nat.le_of_ble_eq_true rfl⟩ ⟨Nat.le_of_ble_eq_true rfl, Nat.le_of_ble_eq_true rfl⟩ hS (by have hz9 := hS.1; rintro q9 (h9 | h9); exact Or.inl h9; exact Or.inr (by omega)) (fun v H1 locs hpo hfr hS => ?_)
      obtain ⟨rfl, hC⟩ := hpo
      generalize H1 = H at hfr hS hC ⊢
      refine W.widen (k := 0) (n := 0) (Nat.le_of_ble_eq_true rfl) (Nat.le_of_ble_eq_true rfl) ?_
      refine lv_iload hx hb dL_frame_278 (lv_at hl 5 rfl) ?_
      refine mn_icmp_gt (tgt := 327) hB dL_frame_280 (by decide) (by omega) (by omega) (fun h => by exfalso; omega) (fun h_280 => ?_)
      refine lv_iload hx hb dL_frame_283 (lv_at hl 5 rfl) ?_
      refine mn_if_ne (tgt := 292) hB dL_frame_285 (by decide) (by omega) (fun h => by exfalso; omega) (fun h_285 => ?_)
      refine lv_iconst (v := nI 1) hx hb dL_frame_288 (by decide) ?_
      refine lv_goto (tgt := 293) hx hb dL_frame_289 (by decide) ?_
      refine lv_aload_n hx hb dL_frame_293 rfl (lv_at hl 1 rfl) ?_
      refine lv_iload_n hx hb dL_frame_294 rfl (lv_at hl 2 rfl) ?_
      refine lv_bipush (v := nI 6) hx hb dL_frame_295 (by decide) ?_
      refine cl_L_26 (As := [.int (nI f), .int (nI 6)]) (rest := [.int (nI 1)]) hB (f_X10_frame_6 l g H xb lim q n rm sl sv tx ln f (hC) (by first | assumption | omega)) hC.ob rfl hl.1 (Nat.le_of_ble_eq_true rfl) dL_frame_297 ⟨Nat.le_of_ble_eq_true rfl, Nat.le_of_ble_eq_true rfl⟩ ⟨Nat.le_of_ble_eq_true rfl, Nat.le_of_ble_eq_true rfl⟩ hS (by have hz9 := hS.1; rintro q9 (h9 | h9); exact Or.inl h9; exact Or.inr (by omega)) (fun v H1 locs hpo hfr hS => ?_)
      obtain ⟨rfl, hC⟩ := hpo
      generalize H1 = H at hfr hS hC ⊢
      refine W.widen (k := 0) (n := 0) (Nat.le_of_ble_eq_true rfl) (Nat.le_of_ble_eq_true rfl) ?_
      refine mn_if_ne (tgt := 307) hB dL_frame_300 (by decide) (by omega) (fun h => by exfalso; omega) (fun h_300 => ?_)
      refine lv_iconst (v := nI 1) hx hb dL_frame_303 (by decide) ?_
      refine lv_goto (tgt := 308) hx hb dL_frame_304 (by decide) ?_
      refine mn_icmp_ne (tgt := 327) hB dL_frame_308 (by decide) (by omega) (by omega) (fun h => by exfalso; omega) (fun h_308 => ?_)
      refine lv_aload_n hx hb dL_frame_311 rfl (lv_at hl 1 rfl) ?_
      refine lv_iload_n hx hb dL_frame_312 rfl (lv_at hl 2 rfl) ?_
      refine lv_iload_n hx hb dL_frame_313 rfl (lv_at hl 3 rfl) ?_
      refine lv_iconst (v := nI 0) hx hb dL_frame_314 (by decide) ?_
      refine cl_L_29 (As := [.int (nI f), .int (nI (wdF q f)), .int (nI 0)]) (rest := []) hB (f_X10_patch l g H xb lim q n rm sl sv tx ln f (wdF q f) 0 (hC) (by first | assumption | omega) (by first | assumption | omega) (by first | assumption | omega)) hC.ob rfl hl.1 (Nat.le_of_ble_eq_true rfl) dL_frame_315 ⟨Nat.le_of_ble_eq_true rfl, Nat.le_of_ble_eq_true rfl⟩ ⟨Nat.le_of_ble_eq_true rfl, Nat.le_of_ble_eq_true rfl⟩ hS (by have hz9 := hS.1; rintro q (h | h) <;> first | exact Or.inr (by omega) | exact h.elim | exact Or.inl h | (simp only [ftA] at h ⊢; omega)) (fun v H1 locs hpo hfr hS => ?_)
      obtain ⟨rfl, rfl⟩ := hpo
      refine W.widen (k := 0) (n := 0) (Nat.le_of_ble_eq_true rfl) (Nat.le_of_ble_eq_true rfl) ?_
      refine mh_top (y := .int (-9)) (by rw [pat_w]) ?_
      refine lv_bipush (v := (-9)) hx hb dL_frame_318 (by decide) ?_
      refine lv_icmp_ne (tgt := 327) hx hb dL_frame_320 (by decide) (fun h => absurd rfl h) (fun h_320 => ?_)
      refine lv_iconst (v := nI 1) hx hb dL_frame_323 (by decide) ?_
      refine lv_goto (tgt := 328) hx hb dL_frame_324 (by decide) ?_
      refine lv_istore (lv' := [(8, .int (nI 1)), (0, .ref xb), (1, .int (nI f)), (2, .int (nI (wdF q f))), (3, .int (nI (htF q f))), (4, .int (nI (cntS q f (szF q f) 6))), (5, .int (nI (cntS q f (swF q f) 6))), (6, .int (nI (cntR (fun j9 => decide (0 < cntC q f j9 0 (szF q f))) 0 6))), (7, .int (nI (seamN (wdF q f) (szF q f) (clF q f) (szF q f))))]) hx hb dL_frame_328 hl (by decide) rfl (fun ls hl => ?_)
      refine lv_iload hx hb dL_frame_330 (lv_at hl 0 rfl) ?_
      refine mn_if_eq (tgt := 380) hB dL_frame_332 (by decide) (by omega) (fun h => by exfalso; omega) (fun h_332 => ?_)
      refine lv_aload_n hx hb dL_frame_335 rfl (lv_at hl 1 rfl) ?_
      refine lv_iload_n hx hb dL_frame_336 rfl (lv_at hl 2 rfl) ?_
      refine lv_iconst (v := nI 0) hx hb dL_frame_337 (by decide) ?_
      refine cl_L_33 (As := [.int (nI f), .int (nI 0)]) (rest := []) hB (f_X10_same_e l g H xb lim q n rm sl sv tx ln f 0 (hC) (by first | assumption | omega) (by first | assumption | omega) (by first | assumption | omega)) hC.ob rfl hl.1 (Nat.le_of_ble_eq_true rfl) dL_frame_338 ⟨Nat.le_of_ble_eq_true rfl, Nat.le_of_ble_eq_true rfl⟩ ⟨Nat.le_of_ble_eq_true rfl, Nat.le_of_ble_eq_true rfl⟩ hS (by have hz9 := hS.1; rintro q (h | h) <;> first | exact Or.inr (by omega) | exact h.elim | exact Or.inl h | (simp only [ftA] at h ⊢; omega)) (fun v H1 locs hpo hfr hS => ?_)
      obtain ⟨rfl, rfl⟩ := hpo
      refine W.widen (k := 0) (n := 0) (Nat.le_of_ble_eq_true rfl) (Nat.le_of_ble_eq_true rfl) ?_
      refine mb_if_ne (tgt := 353) hB dL_frame_341 (by decide) (fun h_341 => ?_) (fun h => by cases h)
      refine lv_aload_n hx hb dL_frame_353 rfl (lv_at hl 1 rfl) ?_
      refine lv_iload_n hx hb dL_frame_354 rfl (lv_at hl 2 rfl) ?_
      refine lv_iconst (v := nI 2) hx hb dL_frame_355 (by decide) ?_
      refine cl_L_33 (As := [.int (nI f), .int (nI 2)]) (rest := []) hB (f_X10_same_e l g H xb lim q n rm sl sv tx ln f 2 (hC) (by first | assumption | omega) (by first | assumption | omega) (by first | assumption | omega)) hC.ob rfl hl.1 (Nat.le_of_ble_eq_true rfl) dL_frame_356 ⟨Nat.le_of_ble_eq_true rfl, Nat.le_of_ble_eq_true rfl⟩ ⟨Nat.le_of_ble_eq_true rfl, Nat.le_of_ble_eq_true rfl⟩ hS (by have hz9 := hS.1; rintro q (h | h) <;> first | exact Or.inr (by omega) | exact h.elim | exact Or.inl h | (simp only [ftA] at h ⊢; omega)) (fun v H1 locs hpo hfr hS => ?_)
      obtain ⟨rfl, rfl⟩ := hpo
      refine W.widen (k := 0) (n := 0) (Nat.le_of_ble_eq_true rfl) (Nat.le_of_ble_eq_true rfl) ?_
      refine mb_if_eq (tgt := 376) hB dL_frame_359 (by decide) (fun h => by cases h) (fun h_359 => ?_)
      refine lv_aload_n hx hb dL_frame_362 rfl (lv_at hl 1 rfl) ?_
      refine lv_iload_n hx hb dL_frame_363 rfl (lv_at hl 2 rfl) ?_
      refine lv_iconst (v := nI 1) hx hb dL_frame_364 (by decide) ?_
      refine cl_L_33 (As := [.int (nI f), .int (nI 1)]) (rest := []) hB (f_X10_same_e l g H xb lim q n rm sl sv tx ln f 1 (hC) (by first | assumption | omega) (by first | assumption | omega) (by first | assumption | omega)) hC.ob rfl hl.1 (Nat.le_of_ble_eq_true rfl) dL_frame_365 ⟨Nat.le_of_ble_eq_true rfl, Nat.le_of_ble_eq_true rfl⟩ ⟨Nat.le_of_ble_eq_true rfl, Nat.le_of_ble_eq_true rfl⟩ hS (by have hz9 := hS.1; rintro q (h | h) <;> first | exact Or.inr (by omega) | exact h.elim | exact Or.inl h | (simp only [ftA] at h ⊢; omega)) (fun v H1 locs hpo hfr hS => ?_)
      obtain ⟨rfl, rfl⟩ := hpo
      refine W.widen (k := 0) (n := 0) (Nat.le_of_ble_eq_true rfl) (Nat.le_of_ble_eq_true rfl) ?_
      refine mb_if_eq (tgt := 380) hB dL_frame_368 (by decide) (fun h => by cases h) (fun h_368 => ?_)
      refine lv_iload_n hx hb dL_frame_371 rfl (lv_at hl 3 rfl) ?_
      refine lv_iload_n hx hb dL_frame_372 rfl (lv_at hl 4 rfl) ?_
      refine mn_icmp_ne (tgt := 380) hB dL_frame_373 (by decide) (by omega) (by omega) (fun h => by exfalso; omega) (fun h_373 => ?_)
      refine lv_iconst (v := nI 1) hx hb dL_frame_376 (by decide) ?_
      refine lv_goto (tgt := 381) hx hb dL_frame_377 (by decide) ?_
      refine lv_istore (lv' := [(8, .int (nI 1)), (0, .ref xb), (1, .int (nI f)), (2, .int (nI (wdF q f))), (3, .int (nI (htF q f))), (4, .int (nI (cntS q f (szF q f) 6))), (5, .int (nI (cntS q f (swF q f) 6))), (6, .int (nI (cntR (fun j9 => decide (0 < cntC q f j9 0 (szF q f))) 0 6))), (7, .int (nI (seamN (wdF q f) (szF q f) (clF q f) (szF q f))))]) hx hb dL_frame_381 hl (by decide) rfl (fun ls hl => ?_)
      refine lv_iload hx hb dL_frame_383 (lv_at hl 0 rfl) ?_
      refine mn_if_eq (tgt := 412) hB dL_frame_385 (by decide) (by omega) (fun h => by exfalso; omega) (fun h_385 => ?_)
      refine lv_aload_n hx hb dL_frame_388 rfl (lv_at hl 1 rfl) ?_
      refine lv_iload_n hx hb dL_frame_389 rfl (lv_at hl 2 rfl) ?_
      refine lv_iload_n hx hb dL_frame_390 rfl (lv_at hl 2 rfl) ?_
      refine cl_L_37 (As := [.int (nI f), .int (nI f)]) (rest := []) hB (f_X10_becomes l g H xb lim q n rm sl sv tx ln f f (hC) (by first | assumption | omega) (by first | assumption | omega)) hC.ob rfl hl.1 (Nat.le_of_ble_eq_true rfl) dL_frame_391 ⟨Nat.le_of_ble_eq_true rfl, Nat.le_of_ble_eq_true rfl⟩ ⟨Nat.le_of_ble_eq_true rfl, Nat.le_of_ble_eq_true rfl⟩ hS (by have hz9 := hS.1; rintro q (h | h) <;> first | exact Or.inr (by omega) | exact h.elim | exact Or.inl h | (simp only [ftA] at h ⊢; omega)) (fun v H1 locs hpo hfr hS => ?_)
      obtain ⟨rfl, rfl⟩ := hpo
      refine W.widen (k := 0) (n := 0) (Nat.le_of_ble_eq_true rfl) (Nat.le_of_ble_eq_true rfl) ?_
      refine mh_top (y := .int (-9)) (by rw [bec_none hs0]) ?_
      refine lv_iload hx hb dL_frame_394 (lv_at hl 5 rfl) ?_
      refine mn_if_ne (tgt := 404) hB dL_frame_396 (by decide) (by omega) (fun h => by exfalso; omega) (fun h_396 => ?_)
      refine lv_bipush (v := (-9)) hx hb dL_frame_399 (by decide) ?_
      refine lv_goto (tgt := 405) hx hb dL_frame_401 (by decide) ?_
      refine lv_icmp_ne (tgt := 412) hx hb dL_frame_405 (by decide) (fun h => absurd rfl h) (fun h_405 => ?_)
      refine lv_iconst (v := nI 1) hx hb dL_frame_408 (by decide) ?_
      refine lv_goto (tgt := 413) hx hb dL_frame_409 (by decide) ?_
      refine mh_zret hB ⟨Nat.le_of_ble_eq_true rfl, Nat.le_of_ble_eq_true rfl⟩ hS dL_frame_413 (by first | rfl | decide | (split <;> rfl)) ⟨?_, ?_⟩
      · rfl
      · exact hC
    · skip
      exfalso; omega
  · skip
    refine lv_iload hx hb dL_frame_36 (lv_at hl 4 rfl) ?_
    refine lv_aload_n hx hb dL_frame_38 rfl (lv_at hl 0 rfl) ?_
    refine lv_iload_n hx hb dL_frame_39 rfl (lv_at hl 1 rfl) ?_
    refine lv_iload hx hb dL_frame_40 (lv_at hl 8 rfl) ?_
    refine lv_iconst (v := nI 0) hx hb dL_frame_42 (by decide) ?_
    refine cl_L_15 (As := [.int (nI f), .int (nI c9), .int (nI 0)]) (rest := [.int (nI (cntS q f (szF q f) c9))]) hB (f_X10_count_0 l g H xb lim q n rm sl sv tx ln f c9 (hC) (by first | assumption | omega) (by first | assumption | omega)) hC.ob rfl hl.1 (Nat.le_of_ble_eq_true rfl) dL_frame_43 ⟨Nat.le_of_ble_eq_true rfl, Nat.le_of_ble_eq_true rfl⟩ ⟨Nat.le_of_ble_eq_true rfl, Nat.le_of_ble_eq_true rfl⟩ hS (by have hz9 := hS.1; rintro q (h | h) <;> first | exact Or.inr (by omega) | exact h.elim | exact Or.inl h | (simp only [ftA] at h ⊢; omega)) (fun v H1 locs hpo hfr hS => ?_)
    obtain ⟨rfl, rfl⟩ := hpo
    refine W.widen (k := 0) (n := 0) (Nat.le_of_ble_eq_true rfl) (Nat.le_of_ble_eq_true rfl) ?_
    refine mn_iadd hB dL_frame_46 ?_
    refine mh_top (y := .int (nI (cntS q f (szF q f) (c9 + 1)))) (rfl) ?_
    refine lv_istore (lv' := [(4, .int (nI (cntS q f (szF q f) (c9 + 1)))), (0, .ref xb), (1, .int (nI f)), (2, .int (nI (wdF q f))), (3, .int (nI (htF q f))), (5, .int (nI (cntS q f (swF q f) c9))), (6, .int (nI (cntR (fun j9 => decide (0 < cntC q f j9 0 (szF q f))) 0 c9))), (7, .int (nI 0)), (8, .int (nI c9))]) hx hb dL_frame_47 hl (by decide) rfl (fun ls hl => ?_)
    refine lv_iload hx hb dL_frame_49 (lv_at hl 5 rfl) ?_
    refine lv_aload_n hx hb dL_frame_51 rfl (lv_at hl 1 rfl) ?_
    refine lv_iload_n hx hb dL_frame_52 rfl (lv_at hl 2 rfl) ?_
    refine lv_iload hx hb dL_frame_53 (lv_at hl 8 rfl) ?_
    refine lv_iconst (v := nI 1) hx hb dL_frame_55 (by decide) ?_
    refine cl_L_15 (As := [.int (nI f), .int (nI c9), .int (nI 1)]) (rest := [.int (nI (cntS q f (swF q f) c9))]) hB (f_X10_count_1 l g H xb lim q n rm sl sv tx ln f c9 (hC) (by first | assumption | omega) (by first | assumption | omega)) hC.ob rfl hl.1 (Nat.le_of_ble_eq_true rfl) dL_frame_56 ⟨Nat.le_of_ble_eq_true rfl, Nat.le_of_ble_eq_true rfl⟩ ⟨Nat.le_of_ble_eq_true rfl, Nat.le_of_ble_eq_true rfl⟩ hS (by have hz9 := hS.1; rintro q (h | h) <;> first | exact Or.inr (by omega) | exact h.elim | exact Or.inl h | (simp only [ftA] at h ⊢; omega)) (fun v H1 locs hpo hfr hS => ?_)
    obtain ⟨rfl, rfl⟩ := hpo
    refine W.widen (k := 0) (n := 0) (Nat.le_of_ble_eq_true rfl) (Nat.le_of_ble_eq_true rfl) ?_
    refine mn_iadd hB dL_frame_59 ?_
    refine mh_top (y := .int (nI (cntS q f (swF q f) (c9 + 1)))) (rfl) ?_
    refine lv_istore (lv' := [(5, .int (nI (cntS q f (swF q f) (c9 + 1)))), (4, .int (nI (cntS q f (szF q f) (c9 + 1)))), (0, .ref xb), (1, .int (nI f)), (2, .int (nI (wdF q f))), (3, .int (nI (htF q f))), (6, .int (nI (cntR (fun j9 => decide (0 < cntC q f j9 0 (szF q f))) 0 c9))), (7, .int (nI 0)), (8, .int (nI c9))]) hx hb dL_frame_60 hl (by decide) rfl (fun ls hl => ?_)
    refine lv_iload hx hb dL_frame_62 (lv_at hl 6 rfl) ?_
    refine lv_aload_n hx hb dL_frame_64 rfl (lv_at hl 2 rfl) ?_
    refine lv_iload_n hx hb dL_frame_65 rfl (lv_at hl 3 rfl) ?_
    refine lv_iload hx hb dL_frame_66 (lv_at hl 8 rfl) ?_
    refine lv_iconst (v := nI 0) hx hb dL_frame_68 (by decide) ?_
    refine cl_L_15 (As := [.int (nI f), .int (nI c9), .int (nI 0)]) (rest := [.int (nI (cntR (fun j9 => decide (0 < cntC q f j9 0 (szF q f))) 0 c9))]) hB (f_X10_count_0 l g H xb lim q n rm sl sv tx ln f c9 (hC) (by first | assumption | omega) (by first | assumption | omega)) hC.ob rfl hl.1 (Nat.le_of_ble_eq_true rfl) dL_frame_69 ⟨Nat.le_of_ble_eq_true rfl, Nat.le_of_ble_eq_true rfl⟩ ⟨Nat.le_of_ble_eq_true rfl, Nat.le_of_ble_eq_true rfl⟩ hS (by have hz9 := hS.1; rintro q (h | h) <;> first | exact Or.inr (by omega) | exact h.elim | exact Or.inl h | (simp only [ftA] at h ⊢; omega)) (fun v H1 locs hpo hfr hS => ?_)
    obtain ⟨rfl, rfl⟩ := hpo
    refine W.widen (k := 0) (n := 0) (Nat.le_of_ble_eq_true rfl) (Nat.le_of_ble_eq_true rfl) ?_
    refine mn_if_le (tgt := 79) hB dL_frame_72 (by decide) (by have : cntC q f c9 0 (szF q f) ≤ szF q f := cntR_le _ _ _; omega) (fun h_72 => ?_) (fun h_72 => ?_)
    · skip
      refine lv_iconst (v := nI 0) hx hb dL_frame_79 (by decide) ?_
      refine mn_iadd hB dL_frame_80 ?_
      refine mh_top (y := .int (nI (cntR (fun j9 => decide (0 < cntC q f j9 0 (szF q f))) 0 (c9 + 1)))) (congrArg (fun y9 => Value.int (nI y9)) (by first | exact col_t (decide_eq_true (by omega)) | exact col_f (decide_eq_false (by omega)))) ?_
      refine lv_istore (lv' := [(6, .int (nI (cntR (fun j9 => decide (0 < cntC q f j9 0 (szF q f))) 0 (c9 + 1)))), (5, .int (nI (cntS q f (swF q f) (c9 + 1)))), (4, .int (nI (cntS q f (szF q f) (c9 + 1)))), (0, .ref xb), (1, .int (nI f)), (2, .int (nI (wdF q f))), (3, .int (nI (htF q f))), (7, .int (nI 0)), (8, .int (nI c9))]) hx hb dL_frame_81 hl (by decide) rfl (fun ls hl => ?_)
      refine lv_iinc (v := nI (c9 + 1)) (lv' := [(8, .int (nI (c9 + 1))), (6, .int (nI (cntR (fun j9 => decide (0 < cntC q f j9 0 (szF q f))) 0 (c9 + 1)))), (5, .int (nI (cntS q f (swF q f) (c9 + 1)))), (4, .int (nI (cntS q f (szF q f) (c9 + 1)))), (0, .ref xb), (1, .int (nI f)), (2, .int (nI (wdF q f))), (3, .int (nI (htF q f))), (7, .int (nI 0))]) hx hb dL_frame_83 hl (k := 8) rfl (nI_1 _) (by decide) rfl (fun ls hl => ?_)
      refine lv_goto (tgt := 29) hx hb dL_frame_86 (by decide) ?_
      refine ih29 (c9 + 1) _ _ _ ⟨(by omega), hC, hS, lv_sub hl [4, 5, 6, 7, 3, 2, 1, 8, 0] rfl⟩ (by dsimp only; omega)
    · skip
      refine lv_iconst (v := nI 1) hx hb dL_frame_75 (by decide) ?_
      refine lv_goto (tgt := 80) hx hb dL_frame_76 (by decide) ?_
      refine mn_iadd hB dL_frame_80 ?_
      refine mh_top (y := .int (nI (cntR (fun j9 => decide (0 < cntC q f j9 0 (szF q f))) 0 (c9 + 1)))) (congrArg (fun y9 => Value.int (nI y9)) (by first | exact col_t (decide_eq_true (by omega)) | exact col_f (decide_eq_false (by omega)))) ?_
      refine lv_istore (lv' := [(6, .int (nI (cntR (fun j9 => decide (0 < cntC q f j9 0 (szF q f))) 0 (c9 + 1)))), (5, .int (nI (cntS q f (swF q f) (c9 + 1)))), (4, .int (nI (cntS q f (szF q f) (c9 + 1)))), (0, .ref xb), (1, .int (nI f)), (2, .int (nI (wdF q f))), (3, .int (nI (htF q f))), (7, .int (nI 0)), (8, .int (nI c9))]) hx hb dL_frame_81 hl (by decide) rfl (fun ls hl => ?_)
      refine lv_iinc (v := nI (c9 + 1)) (lv' := [(8, .int (nI (c9 + 1))), (6, .int (nI (cntR (fun j9 => decide (0 < cntC q f j9 0 (szF q f))) 0 (c9 + 1)))), (5, .int (nI (cntS q f (swF q f) (c9 + 1)))), (4, .int (nI (cntS q f (szF q f) (c9 + 1)))), (0, .ref xb), (1, .int (nI f)), (2, .int (nI (wdF q f))), (3, .int (nI (htF q f))), (7, .int (nI 0))]) hx hb dL_frame_83 hl (k := 8) rfl (nI_1 _) (by decide) rfl (fun ls hl => ?_)
      refine lv_goto (tgt := 29) hx hb dL_frame_86 (by decide) ?_
      refine ih29 (c9 + 1) _ _ _ ⟨(by omega), hC, hS, lv_sub hl [4, 5, 6, 7, 3, 2, 1, 8, 0] rfl⟩ (by dsimp only; omega)

