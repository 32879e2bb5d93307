def rm_f_X10_errorPosition : Room := { frames := 6, cells := 0, slots := 0, locals := 143 }
set_option maxRecDepth 100000 in
set_option maxHeartbeats 400000 in
theorem f_X10_errorPosition (l : Launch) (g : GG) (H0 : Heap) (xb : Nat) (lim : Nat) (q : Nat → Int32) (n : Nat) (rm : Nat → Int32) (sl : Nat → Int32) (sv : Nat → Int32) (tx : Nat → Int32) (ln : Nat) (tc : Nat → Nat) (hC : CLS g xb lim q n rm sl sv tx ln H0) (htc : ∀ j, j < ln → tx j = nI (tc j) ∧ tc j < 256) : Ct l yX10_errorPosition cX10_errorPosition 1 (some .int) rm_f_X10_errorPosition g [.ref xb] H0 (ftA (CF xb lim) H0.size) (fun v H1 => v = some (.int (erV (wholeS tc ln))) ∧ CLS g xb lim (q) (n) (rm) (sl) (sv) (tx) (ln) H1) := by
  refine Ct.of (by decide) (fun _ h => Or.inr h) (Nat.le_of_ble_eq_true rfl) ?_
  intro p e s m below meth c ls hB hin hS hH hl
  have hx := hB.x
  have hb := hB.b
  have hl : lv_has ls 1 [(0, .ref xb)] := hl
  obtain ⟨D, P, T, Zr, Pr, zt, Pt, nx, hCi⟩ := hC
  have hS1 := hCi.2.2.1
  have hPT := hCi.2.2.2.1
  have hD : ∀ q9, xb + 10 ≤ q9 → q9 < xb + 10 + 26 → D q9 := fun q9 h1 h2 => hCi.2.2.2.2.2.2.2.2.2.2.2.2.1 q9 (by omega) (Nat.lt_of_lt_of_le (show q9 < xb + 68 by omega) hCi.2.2.2.2.2.2.2.2.2.2.2.2.2.2.2.2.1)
  have hW : WF q := hCi.2.2.2.2.2.2.2.2.2.2.2.2.2.2.1
  have hZ : WZ q := hCi.2.2.2.2.2.2.2.2.2.2.2.2.2.2.2.1
  have hnm5 := hW.2.2.1
  have hz0 : (zOf q) 0 = nI (nmQ q) := by rw [zOf_lo (by omega), hW.1]
  obtain ⟨wd, ht, fi, la, nx9, di, op, oc, wh, hT⟩ := hCi.2.1
  have hln := hCi.2.2.2.2.2.2.2.2.2.2.2.2.2.2.2.2.2.2
  refine lv_aload_n hx hb dX10_errorPosition_0 rfl (lv_at hl 0 rfl) ?_
  refine gf_X10_10 hB hCi.1 rfl dX10_errorPosition_1 ?_
  refine cl_X10_64 (As := []) (rest := []) hB (c_X9_check l g H0 (xb + 1) tx ln wd ht fi la nx9 di op oc wh tc hT (htc) (hln)) hT.1 rfl hl.1 (Nat.le_of_ble_eq_true rfl) dX10_errorPosition_4 ⟨Nat.le_of_ble_eq_true rfl, Nat.le_of_ble_eq_true rfl⟩ ⟨Nat.le_of_ble_eq_true rfl, Nat.le_of_ble_eq_true rfl⟩ hS (by have hz9 := hS.1; rintro q9 (h | h); exact Or.inl (CF.a (by omega)); exact Or.inr (by omega)) (fun v H1 locs hpo hfr hS => ?_)
  obtain ⟨rfl, fi2_1, la2_2, nx2_3, di2_4, wd2_5, ht2_6, oc2_7, wh2_8, op2_9, hT, hCk⟩ := hpo
  have hCi := hCi.text hfr ⟨_, _, _, _, _, _, _, _, _, hT⟩ hln
  generalize H1 = H at hfr hS hCi hT hCk ⊢
  refine W.widen (k := 0) (n := 0) (Nat.le_of_ble_eq_true rfl) (Nat.le_of_ble_eq_true rfl) ?_
  have hS1 := hCi.2.2.1
  have hPT := hCi.2.2.2.1
  refine mh_iret hB ⟨Nat.le_of_ble_eq_true rfl, Nat.le_of_ble_eq_true rfl⟩ hS dX10_errorPosition_7 ⟨?_, ?_⟩
  · rfl
  · exact ⟨_, _, _, _, _, _, _, _, hCi⟩

def rm_f_X10_start : Room := { frames := 6, cells := 28, slots := 385, locals := 143 }
set_option maxRecDepth 100000 in
set_option maxHeartbeats 400000 in
theorem f_X10_start (l : Launch) (g : GG) (H0 : Heap) (xb : Nat) (lim : Nat) (q : Nat → Int32) (n : Nat) (rm : Nat → Int32) (sl : Nat → Int32) (sv : Nat → Int32) (tx : Nat → Int32) (ln : Nat) (tc : Nat → Nat) (f : Nat) (bq : PBl) (hC : CLS g xb lim q n rm sl sv tx ln H0) (htc : ∀ j, j < ln → tx j = nI (tc j) ∧ tc j < 256) (hf : f < 3) (hs0 : szF q f = 0) (hw : wholeS tc ln = .inr bq) : Ct l yX10_start cX10_start 3 (some .int) rm_f_X10_start g [.ref xb, .int (nI f)] H0 (ftA (CF xb lim) H0.size) (fun v H1 => v = some (.int (nI (bq.1 * bq.2.1))) ∧ CLS g xb lim (stQ q f bq) (nxtS n) (remA rm n q) (sl) (sv) (tx) (ln) H1) := by
  refine Ct.of (by decide) (fun _ h => Or.inr h) (Nat.le_of_ble_eq_true rfl) ?_
  intro p e s m below meth c ls hB hin hS hH hl
  have hx := hB.x
  have hb := hB.b
  have hl : lv_has ls 3 [(0, .ref xb), (1, .int (nI f))] := hl
  obtain ⟨D, P, T, Zr, Pr, zt, Pt, nx, hCi⟩ := hC
  have hS1 := hCi.2.2.1
  have hPT := hCi.2.2.2.1
  have hD : ∀ q9, xb + 10 ≤ q9 → q9 < xb + 10 + 26 → D q9 := fun q9 h1 h2 => hCi.2.2.2.2.2.2.2.2.2.2.2.2.1 q9 (by omega) (Nat.lt_of_lt_of_le (show q9 < xb + 68 by omega) hCi.2.2.2.2.2.2.2.2.2.2.2.2.2.2.2.2.1)
  have hW : WF q := hCi.2.2.2.2.2.2.2.2.2.2.2.2.2.2.1
  have hZ : WZ q := hCi.2.2.2.2.2.2.2.2.2.2.2.2.2.2.2.1
  have hnm5 := hW.2.2.1
  have hz0 : (zOf q) 0 = nI (nmQ q) := by rw [zOf_lo (by omega), hW.1]
  obtain ⟨wd, ht, fi, la, nx9, di, op, oc, wh, hT⟩ := hCi.2.1
  have hln := hCi.2.2.2.2.2.2.2.2.2.2.2.2.2.2.2.2.2.2
  have hbq := whole_ok hln hw
  refine lv_aload_n hx hb dX10_start_0 rfl (lv_at hl 0 rfl) ?_
  refine lv_iload_n hx hb dX10_start_1 rfl (lv_at hl 1 rfl) ?_
  refine cl_X10_123 (As := [.int (nI f)]) (rest := []) hB (c_X10_existingFrame l g H0 xb (zOf q) P f hCi.1 hS1 (by first | assumption | omega)) hCi.1 rfl hl.1 (Nat.le_of_ble_eq_true rfl) dX10_start_2 ⟨Nat.le_of_ble_eq_true rfl, Nat.le_of_ble_eq_true rfl⟩ ⟨Nat.le_of_ble_eq_true rfl, Nat.le_of_ble_eq_true rfl⟩ hS (by have hz9 := hS.1; rintro q (h | h) <;> first | exact Or.inr (by omega) | exact h.elim | exact Or.inl h | (simp only [ftA] at h ⊢; omega)) (fun v H1 locs hpo hfr hS => ?_)
  obtain ⟨rfl, rfl⟩ := hpo
  refine W.widen (k := 0) (n := 0) (Nat.le_of_ble_eq_true rfl) (Nat.le_of_ble_eq_true rfl) ?_
  refine lv_astore_n (lv' := [(2, .ref ((xb + 10) + (20 + 2 * f))), (0, .ref xb), (1, .int (nI f))]) hx hb dX10_start_5 rfl hl (by decide) rfl (fun ls hl => ?_)
  refine lv_aload_n hx hb dX10_start_6 rfl (lv_at hl 0 rfl) ?_
  refine cl_X10_187 (As := []) (rest := []) hB (c_X1_isEmpty l g H0 (xb + 10) (zOf q) P D q f hS1 hPT (by first | assumption | omega)) (hS1.of (k := f) (by omega)) rfl hl.1 (Nat.le_of_ble_eq_true rfl) dX10_start_7 ⟨Nat.le_of_ble_eq_true rfl, Nat.le_of_ble_eq_true rfl⟩ ⟨Nat.le_of_ble_eq_true rfl, Nat.le_of_ble_eq_true rfl⟩ hS (by have hz9 := hS.1; rintro q (h | h) <;> first | exact Or.inr (by omega) | exact h.elim | exact Or.inl h | (simp only [ftA] at h ⊢; omega)) (fun v H1 locs hpo hfr hS => ?_)
  obtain ⟨rfl, rfl⟩ := hpo
  refine W.widen (k := 0) (n := 0) (Nat.le_of_ble_eq_true rfl) (Nat.le_of_ble_eq_true rfl) ?_
  refine mh_top (y := .int (nI 1)) (by rw [decide_eq_true (by omega)]; rfl) ?_
  refine mn_if_eq (tgt := 29) hB dX10_start_10 (by decide) (by omega) (fun h => by exfalso; omega) (fun h_10 => ?_)
  refine lv_aload_n hx hb dX10_start_13 rfl (lv_at hl 1 rfl) ?_
  refine gf_X10_10 hB hCi.1 rfl dX10_start_14 ?_
  refine cl_X10_64 (As := []) (rest := []) hB (c_X9_check l g H0 (xb + 1) tx ln wd ht fi la nx9 di op oc wh tc hT (htc) (hln)) hT.1 rfl hl.1 (Nat.le_of_ble_eq_true rfl) dX10_start_17 ⟨Nat.le_of_ble_eq_true rfl, Nat.le_of_ble_eq_true rfl⟩ ⟨Nat.le_of_ble_eq_true rfl, Nat.le_of_ble_eq_true rfl⟩ hS (by have hz9 := hS.1; rintro q9 (h | h); exact Or.inl (CF.a (by omega)); exact Or.inr (by omega)) (fun v H1 locs hpo hfr hS => ?_)
  obtain ⟨rfl, fi2_1, la2_2, nx2_3, di2_4, wd2_5, ht2_6, oc2_7, wh2_8, op2_9, hT, hCk⟩ := hpo
  have hCi := hCi.text hfr ⟨_, _, _, _, _, _, _, _, _, hT⟩ hln
  generalize H1 = H at hfr hS hCi hT hCk ⊢
  refine W.widen (k := 0) (n := 0) (Nat.le_of_ble_eq_true rfl) (Nat.le_of_ble_eq_true rfl) ?_
  refine mh_top (y := .int (-9)) (by rw [hw]; rfl) ?_
  have hS1 := hCi.2.2.1
  have hPT := hCi.2.2.2.1
  rw [hw] at hCk
  obtain ⟨j8, hj8, hwh8, hDn8⟩ := hCk
  refine lv_bipush (v := (-9)) hx hb dX10_start_20 (by decide) ?_
  refine lv_icmp_ne (tgt := 29) hx hb dX10_start_22 (by decide) (fun h => absurd rfl h) (fun h_22 => ?_)
  refine lv_iconst (v := nI 1) hx hb dX10_start_25 (by decide) ?_
  refine lv_goto (tgt := 30) hx hb dX10_start_26 (by decide) ?_
  refine cl_X10_52 (As := [.int (nI 1)]) (rest := []) hB (c_X10_requireState l g H ) rfl hl.1 (Nat.le_of_ble_eq_true rfl) dX10_start_30 ⟨Nat.le_of_ble_eq_true rfl, Nat.le_of_ble_eq_true rfl⟩ ⟨Nat.le_of_ble_eq_true rfl, Nat.le_of_ble_eq_true rfl⟩ hS (by have hz9 := hS.1; rintro q (h | h) <;> first | exact Or.inr (by omega) | exact h.elim | exact Or.inl h | (simp only [ftA] at h ⊢; omega)) (fun v H1 locs hpo hfr hS => ?_)
  obtain ⟨rfl, rfl⟩ := hpo
  refine W.widen (k := 0) (n := 0) (Nat.le_of_ble_eq_true rfl) (Nat.le_of_ble_eq_true rfl) ?_
  refine lv_aload_n hx hb dX10_start_33 rfl (lv_at hl 1 rfl) ?_
  refine gf_X10_29 hB hCi.1 rfl dX10_start_34 ?_
  refine lv_aload_n hx hb dX10_start_37 rfl (lv_at hl 1 rfl) ?_
  refine gf_X10_19 hB hCi.1 rfl dX10_start_38 ?_
  refine cl_X10_173 (As := [.ref (xb + 10)]) (rest := []) hB (cC_remT l g H xb lim q n rm sl sv tx ln wd2_5 ht2_6 fi2_1 la2_2 nx2_3 di2_4 op2_9 oc2_7 wh2_8 (⟨D, P, T, Zr, Pr, zt, Pt, nx, hCi⟩) (hT)) hCi.2.2.2.2.2.1 rfl hl.1 (Nat.le_of_ble_eq_true rfl) dX10_start_41 ⟨Nat.le_of_ble_eq_true rfl, Nat.le_of_ble_eq_true rfl⟩ ⟨Nat.le_of_ble_eq_true rfl, Nat.le_of_ble_eq_true rfl⟩ hS (by have hz9 := hS.1; rintro q9 (h | h); exact Or.inl h; exact Or.inr (by omega)) (fun v H1 locs hpo hfr hS => ?_)
  obtain ⟨rfl, hC2, hT⟩ := hpo
  generalize H1 = H at hfr hS hC2 hT ⊢
  refine W.widen (k := 26) (n := 126) (Nat.le_of_ble_eq_true rfl) (Nat.le_of_ble_eq_true rfl) ?_
  clear hD
  obtain ⟨D, P, T, Zr, Pr, zt, Pt, nx, hCi⟩ := hC2
  have hS1 := hCi.2.2.1
  have hPT := hCi.2.2.2.1
  have hD : ∀ q9, xb + 10 ≤ q9 → q9 < xb + 10 + 26 → D q9 := fun q9 h1 h2 => hCi.2.2.2.2.2.2.2.2.2.2.2.2.1 q9 (by omega) (Nat.lt_of_lt_of_le (show q9 < xb + 68 by omega) hCi.2.2.2.2.2.2.2.2.2.2.2.2.2.2.2.2.1)
  obtain ⟨n0, hsz⟩ : ∃ n0, H.size = n0 := ⟨_, rfl⟩
  have hD14 := hCi.2.2.2.2.2.2.2.2.2.2.2.2.2.1
  have hn1 : ¬ D (n0 + 1) := fun y => by have := hD14 _ y; omega
  have hn2 : ¬ D n0 := fun y => by have := hD14 _ y; omega
  refine lv_aload_n hx hb dX10_start_44 rfl (lv_at hl 0 rfl) ?_
  refine lv_aload_n hx hb dX10_start_45 rfl (lv_at hl 1 rfl) ?_
  refine gf_X10_10 hB hCi.1 rfl dX10_start_46 ?_
  refine cl_X10_190 (As := []) (rest := [.ref ((xb + 10) + (20 + 2 * f))]) hB (c_X9_toPattern l g H (xb + 1) tx ln wd2_5 ht2_6 fi2_1 la2_2 nx2_3 di2_4 op2_9 oc2_7 wh2_8 tc j8 ln bq.1 bq.2.1 bq.2.2 n0 hT (htc) (hj8) (hwh8) (hDn8) (hsz)) hT.1 rfl hl.1 (Nat.le_of_ble_eq_true rfl) dX10_start_49 ⟨Nat.le_of_ble_eq_true rfl, Nat.le_of_ble_eq_true rfl⟩ ⟨Nat.le_of_ble_eq_true rfl, Nat.le_of_ble_eq_true rfl⟩ hS (by have hz9 := hS.1; rintro q (h | h) <;> first | exact Or.inr (by omega) | exact h.elim | exact Or.inl h | (simp only [ftA] at h ⊢; omega)) (fun v H1 locs hpo hfr hS => ?_)
  obtain ⟨rfl, hpn, hsz2⟩ := hpo
  have hCi := hCi.kept hfr
  have hS1 := hS1.keptF hfr (fun q9 h1 h2 => by first | omega | exact fun y => y.elim)
  have hPT := hPT.keptF hfr (fun q9 hq9 => by first | exact hq9.elim | exact hD q9 (by have := hq9; omega) (by have := hq9; omega))
  generalize H1 = H at hfr hS hCi hS1 hPT hpn hsz2 ⊢
  refine W.widen (k := 28) (n := 385) (Nat.le_of_ble_eq_true rfl) (Nat.le_of_ble_eq_true rfl) ?_
  refine cl_X10_194 (As := [.ref (n0 + 1)]) (rest := []) hB (c_X1_putOn l g H (xb + 10) (zOf q) P f (n0 + 1) hS1 (by first | assumption | omega)) (hS1.of (k := f) (by omega)) rfl hl.1 (Nat.le_of_ble_eq_true rfl) dX10_start_52 ⟨Nat.le_of_ble_eq_true rfl, Nat.le_of_ble_eq_true rfl⟩ ⟨Nat.le_of_ble_eq_true rfl, Nat.le_of_ble_eq_true rfl⟩ hS (by have hz9 := hS.1; rintro q9 (h | h); exact Or.inl (CF.a (by omega)); exact Or.inr (by omega)) (fun v H1 locs hpo hfr hS => ?_)
  obtain ⟨rfl, hS1⟩ := hpo
  have hCi := hCi.state hfr (hS1.congr (stQ_z hf hbq hW hs0) (fun _ _ => rfl)) ((hPT.keptF hfr (fun q9 y => hD q9 y.1 y.2)).start hbq hW (hpn.keptF hfr (fun y => hn1 (hD _ y.1 y.2)) (fun y => hn2 (hD _ y.1 y.2))) hn1 hn2) (stQ_WF hf hbq hW hs0) (stQ_WZ hbq hZ)
  generalize H1 = H at hfr hS hCi hS1 ⊢
  refine W.widen (k := 28) (n := 385) (Nat.le_of_ble_eq_true rfl) (Nat.le_of_ble_eq_true rfl) ?_
  have hS1 := hCi.2.2.1
  have hPT := hCi.2.2.2.1
  refine lv_aload_n hx hb dX10_start_55 rfl (lv_at hl 0 rfl) ?_
  refine cl_X10_162 (As := []) (rest := []) hB (c_X1_patches l g H (xb + 10) (zOf (stQ q f bq)) (va_up P f (some (n0 + 1))) D (stQ q f bq) f hS1 hPT (by first | assumption | omega)) (hS1.of (k := f) (by omega)) rfl hl.1 (Nat.le_of_ble_eq_true rfl) dX10_start_56 ⟨Nat.le_of_ble_eq_true rfl, Nat.le_of_ble_eq_true rfl⟩ ⟨Nat.le_of_ble_eq_true rfl, Nat.le_of_ble_eq_true rfl⟩ hS (by have hz9 := hS.1; rintro q (h | h) <;> first | exact Or.inr (by omega) | exact h.elim | exact Or.inl h | (simp only [ftA] at h ⊢; omega)) (fun v H1 locs hpo hfr hS => ?_)
  obtain ⟨rfl, rfl⟩ := hpo
  refine W.widen (k := 28) (n := 385) (Nat.le_of_ble_eq_true rfl) (Nat.le_of_ble_eq_true rfl) ?_
  refine mh_top (y := .int (nI (bq.1 * bq.2.1))) (by rw [stQ_sz hbq]) ?_
  refine mh_iret hB ⟨Nat.le_of_ble_eq_true rfl, Nat.le_of_ble_eq_true rfl⟩ hS dX10_start_59 ⟨?_, ?_⟩
  · rfl
  · exact ⟨_, _, _, _, _, _, _, _, hCi⟩
