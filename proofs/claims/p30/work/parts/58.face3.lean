theorem add_nm {q : Nat → Int32} (h5 : nmQ q < 5) : nmQ (upd q 0 (nI (nmQ q + 1))) = nmQ q + 1 := qn_nI (by rw [upd_s (α := Nat)]) (by omega)
theorem add_sm {q : Nat → Int32} {x : Int32} (f : Nat) : Same q (upd q 0 x) f := fun j h1 h2 => upd_n (by omega)
theorem add_WF {q : Nat → Int32} (h : WF q) (h5 : nmQ q < 5) : WF (upd q 0 (nI (nmQ q + 1))) := by
  have e1 : tnQ (upd q 0 (nI (nmQ q + 1))) = tnQ q := qn_eq (upd_n (by omega))
  refine ⟨?_, ?_, ?_, ?_, fun f hf => (add_sm f).wf (h.fr hf)⟩
  · rw [add_nm h5, upd_s (α := Nat)]
  · rw [e1, upd_n (by omega)]; exact h.2.1
  · rw [add_nm h5]; omega
  · rw [add_nm h5, e1]; have := h.2.2.2.1; omega
theorem add_WZ {q : Nat → Int32} (hz : WZ q) (h5 : nmQ q < 5) : WZ (upd q 0 (nI (nmQ q + 1))) := hz.of (by rw [add_nm h5]; omega) (fun m h1 h2 => ⟨fun c hc => upd_n (by omega), fun f hf => Or.inl (upd_n (by omega))⟩)
theorem PT.add {g : GG} {D : Nat → Prop} {P : Nat → Option Nat} {q : Nat → Int32} {H : Heap} {x : Int32} (hp : PT g D P q H) (hq : WF q) : PT g D P (upd q 0 x) H := hp.congr (fun _ _ => rfl) (fun f hf => by
  have e : Same q (upd q 0 x) f := add_sm f
  have hz := WF.sz (hq.fr hf)
  exact ⟨e.wd, e.ht, fun k hk => e.cl (by have : k < szF q f := hk; omega)⟩)

def rm_f_X10_addMember : Room := { frames := 6, cells := 26, slots := 126, locals := 132 }
set_option maxRecDepth 100000 in
set_option maxHeartbeats 400000 in
theorem f_X10_addMember (l : Launch) (g : GG) (H0 : Heap) (xb : Nat) (lim : Nat) (q : Nat → Int32) (n : Nat) (rm : Nat → Int32) (sl : Nat → Int32) (sv : Nat → Int32) (tx : Nat → Int32) (ln : Nat) (hC : CLS g xb lim q n rm sl sv tx ln H0) (h5 : nmQ q < 5) : Ct l yX10_addMember cX10_addMember 1 (some .int) rm_f_X10_addMember g [.ref xb] H0 (ftA (CF xb lim) H0.size) (fun v H1 => v = some (.int (nI (nmQ q))) ∧ CLS g xb lim (upd q 0 (nI (nmQ q + 1))) (nxtS n) (remA rm n q) (sl) (sv) (tx) (ln) H1) := by
  refine Ct.of (by decide) (fun _ h => Or.inr h) (Nat.le_of_ble_eq_true rfl) ?_
  intro p e s m below meth c ls hB hin hS hH hl
  have hx := hB.x
  have hb := hB.b
  have hl : lv_has ls 1 [(0, .ref xb)] := hl
  obtain ⟨D, P, T, Zr, Pr, zt, Pt, nx, hCi⟩ := hC
  have hS1 := hCi.2.2.1
  have hPT := hCi.2.2.2.1
  have hD : ∀ q9, xb + 10 ≤ q9 → q9 < xb + 10 + 26 → D q9 := fun q9 h1 h2 => hCi.2.2.2.2.2.2.2.2.2.2.2.2.1 q9 (by omega) (Nat.lt_of_lt_of_le (show q9 < xb + 68 by omega) hCi.2.2.2.2.2.2.2.2.2.2.2.2.2.2.2.2.1)
  have hW : WF q := hCi.2.2.2.2.2.2.2.2.2.2.2.2.2.2.1
  have hZ : WZ q := hCi.2.2.2.2.2.2.2.2.2.2.2.2.2.2.2.1
  have hnm5 := hW.2.2.1
  have hz0 : (zOf q) 0 = nI (nmQ q) := by rw [zOf_lo (by omega), hW.1]
  refine lv_aload_n hx hb dX10_addMember_0 rfl (lv_at hl 0 rfl) ?_
  refine gf_X10_19 hB hCi.1 rfl dX10_addMember_1 ?_
  refine gf_X10_67 hB hS1.o rfl dX10_addMember_4 ?_
  refine mh_top (y := .int (nI (nmQ q))) (by rw [hz0]) ?_
  refine lv_iconst (v := nI 5) hx hb dX10_addMember_7 (by decide) ?_
  refine mn_icmp_ge (tgt := 15) hB dX10_addMember_8 (by decide) (by omega) (by omega) (fun h => by exfalso; omega) (fun h_8 => ?_)
  refine lv_iconst (v := nI 1) hx hb dX10_addMember_11 (by decide) ?_
  refine lv_goto (tgt := 16) hx hb dX10_addMember_12 (by decide) ?_
  refine cl_X10_52 (As := [.int (nI 1)]) (rest := []) hB (c_X10_requireState l g H0 ) rfl hl.1 (Nat.le_of_ble_eq_true rfl) dX10_addMember_16 ⟨Nat.le_of_ble_eq_true rfl, Nat.le_of_ble_eq_true rfl⟩ ⟨Nat.le_of_ble_eq_true rfl, Nat.le_of_ble_eq_true rfl⟩ hS (by have hz9 := hS.1; rintro q (h | h) <;> first | exact Or.inr (by omega) | exact h.elim | exact Or.inl h | (simp only [ftA] at h ⊢; omega)) (fun v H1 locs hpo hfr hS => ?_)
  obtain ⟨rfl, rfl⟩ := hpo
  refine W.widen (k := 0) (n := 0) (Nat.le_of_ble_eq_true rfl) (Nat.le_of_ble_eq_true rfl) ?_
  refine lv_aload_n hx hb dX10_addMember_19 rfl (lv_at hl 0 rfl) ?_
  refine gf_X10_29 hB hCi.1 rfl dX10_addMember_20 ?_
  refine lv_aload_n hx hb dX10_addMember_23 rfl (lv_at hl 0 rfl) ?_
  refine gf_X10_19 hB hCi.1 rfl dX10_addMember_24 ?_
  refine cl_X10_173 (As := [.ref (xb + 10)]) (rest := []) hB (cC_rem l g H0 xb lim q n rm sl sv tx ln (⟨D, P, T, Zr, Pr, zt, Pt, nx, hCi⟩)) hCi.2.2.2.2.2.1 rfl hl.1 (Nat.le_of_ble_eq_true rfl) dX10_addMember_27 ⟨Nat.le_of_ble_eq_true rfl, Nat.le_of_ble_eq_true rfl⟩ ⟨Nat.le_of_ble_eq_true rfl, Nat.le_of_ble_eq_true rfl⟩ hS (by have hz9 := hS.1; rintro q9 (h | h); exact Or.inl h; exact Or.inr (by omega)) (fun v H1 locs hpo hfr hS => ?_)
  obtain ⟨rfl, hC2⟩ := hpo
  generalize H1 = H at hfr hS hC2 ⊢
  refine W.widen (k := 26) (n := 126) (Nat.le_of_ble_eq_true rfl) (Nat.le_of_ble_eq_true rfl) ?_
  clear hD
  obtain ⟨D, P, T, Zr, Pr, zt, Pt, nx, hCi⟩ := hC2
  have hS1 := hCi.2.2.1
  have hPT := hCi.2.2.2.1
  have hD : ∀ q9, xb + 10 ≤ q9 → q9 < xb + 10 + 26 → D q9 := fun q9 h1 h2 => hCi.2.2.2.2.2.2.2.2.2.2.2.2.1 q9 (by omega) (Nat.lt_of_lt_of_le (show q9 < xb + 68 by omega) hCi.2.2.2.2.2.2.2.2.2.2.2.2.2.2.2.2.1)
  refine lv_aload_n hx hb dX10_addMember_30 rfl (lv_at hl 0 rfl) ?_
  refine gf_X10_19 hB hCi.1 rfl dX10_addMember_31 ?_
  refine cl_X10_177 (As := []) (rest := []) hB (c_X8_welcomeMember l g H (xb + 10) (zOf q) P (nmQ q) hS1 (hz0) (hnm5)) hS1.o rfl hl.1 (Nat.le_of_ble_eq_true rfl) dX10_addMember_34 ⟨Nat.le_of_ble_eq_true rfl, Nat.le_of_ble_eq_true rfl⟩ ⟨Nat.le_of_ble_eq_true rfl, Nat.le_of_ble_eq_true rfl⟩ hS (by have hz9 := hS.1; rintro q9 (h | h); exact Or.inl (CF.a (by omega)); exact Or.inr (by omega)) (fun v H1 locs hpo hfr hS => ?_)
  obtain ⟨rfl, hS1⟩ := hpo
  have hCi := hCi.state hfr (hS1.congr (zOf_t0 hW) (fun _ _ => rfl)) ((hPT.keptF hfr (fun q9 y => hD q9 y.1 y.2)).add hW) (add_WF hW h5) (add_WZ hZ h5)
  have hPT := hPT.keptF hfr (fun q9 hq9 => by first | exact hq9.elim | exact hD q9 (by have := hq9; omega) (by have := hq9; omega))
  generalize H1 = H at hfr hS hCi hPT hS1 ⊢
  refine W.widen (k := 26) (n := 126) (Nat.le_of_ble_eq_true rfl) (Nat.le_of_ble_eq_true rfl) ?_
  have hS1 := hCi.2.2.1
  have hPT := hCi.2.2.2.1
  refine mh_iret hB ⟨Nat.le_of_ble_eq_true rfl, Nat.le_of_ble_eq_true rfl⟩ hS dX10_addMember_37 ⟨?_, ?_⟩
  · rfl
  · exact ⟨_, _, _, _, _, _, _, _, hCi⟩

def rm_f_X10_give : Room := { frames := 6, cells := 26, slots := 126, locals := 132 }
set_option maxRecDepth 100000 in
set_option maxHeartbeats 400000 in
theorem f_X10_give (l : Launch) (g : GG) (H0 : Heap) (xb : Nat) (lim : Nat) (q : Nat → Int32) (n : Nat) (rm : Nat → Int32) (sl : Nat → Int32) (sv : Nat → Int32) (tx : Nat → Int32) (ln : Nat) (k : Nat) (c0 : Nat) (x : Nat) (hC : CLS g xb lim q n rm sl sv tx ln H0) (hk : k < nmQ q) (hc : c0 < 6) (hx1 : 0 < x) (hx2 : x < 100) : Ct l yX10_give cX10_give 6 (some .int) rm_f_X10_give g [.ref xb, .int (nI k), .int (nI c0), .int (nI x)] H0 (ftA (CF xb lim) H0.size) (fun v H1 => v = some (.int (givQ q k c0 (nI x) (50 + c0))) ∧ CLS g xb lim (givQ q k c0 (nI x)) (nxtS n) (remA rm n q) (sl) (sv) (tx) (ln) H1) := by
  refine Ct.of (by decide) (fun _ h => Or.inr h) (Nat.le_of_ble_eq_true rfl) ?_
  intro p e s m below meth c ls hB hin hS hH hl
  have hx := hB.x
  have hb := hB.b
  have hl : lv_has ls 6 [(0, .ref xb), (1, .int (nI k)), (2, .int (nI c0)), (3, .int (nI x))] := hl
  obtain ⟨D, P, T, Zr, Pr, zt, Pt, nx, hCi⟩ := hC
  have hS1 := hCi.2.2.1
  have hPT := hCi.2.2.2.1
  have hD : ∀ q9, xb + 10 ≤ q9 → q9 < xb + 10 + 26 → D q9 := fun q9 h1 h2 => hCi.2.2.2.2.2.2.2.2.2.2.2.2.1 q9 (by omega) (Nat.lt_of_lt_of_le (show q9 < xb + 68 by omega) hCi.2.2.2.2.2.2.2.2.2.2.2.2.2.2.2.2.1)
  have hW : WF q := hCi.2.2.2.2.2.2.2.2.2.2.2.2.2.2.1
  have hZ : WZ q := hCi.2.2.2.2.2.2.2.2.2.2.2.2.2.2.2.1
  have hnm5 := hW.2.2.1
  have hz0 : (zOf q) 0 = nI (nmQ q) := by rw [zOf_lo (by omega), hW.1]
  refine lv_aload_n hx hb dX10_give_0 rfl (lv_at hl 0 rfl) ?_
  refine lv_iload_n hx hb dX10_give_1 rfl (lv_at hl 1 rfl) ?_
  refine cl_X10_91 (As := [.int (nI k)]) (rest := []) hB (c_X10_existingMember l g H0 xb (zOf q) P k (nmQ q) hCi.1 hS1 (by first | assumption | omega) (hz0) (hnm5)) hCi.1 rfl hl.1 (Nat.le_of_ble_eq_true rfl) dX10_give_2 ⟨Nat.le_of_ble_eq_true rfl, Nat.le_of_ble_eq_true rfl⟩ ⟨Nat.le_of_ble_eq_true rfl, Nat.le_of_ble_eq_true rfl⟩ hS (by have hz9 := hS.1; rintro q (h | h) <;> first | exact Or.inr (by omega) | exact h.elim | exact Or.inl h | (simp only [ftA] at h ⊢; omega)) (fun v H1 locs hpo hfr hS => ?_)
  obtain ⟨rfl, rfl⟩ := hpo
  refine W.widen (k := 0) (n := 0) (Nat.le_of_ble_eq_true rfl) (Nat.le_of_ble_eq_true rfl) ?_
  refine lv_astore (lv' := [(4, .ref ((xb + 10) + (4 + 2 * k))), (0, .ref xb), (1, .int (nI k)), (2, .int (nI c0)), (3, .int (nI x))]) hx hb dX10_give_5 hl (by decide) rfl (fun ls hl => ?_)
  refine lv_aload_n hx hb dX10_give_7 rfl (lv_at hl 1 rfl) ?_
  refine lv_iload_n hx hb dX10_give_8 rfl (lv_at hl 3 rfl) ?_
  refine cl_X10_116 (As := [.int (nI c0)]) (rest := []) hB (c_X10_existingCloth l g H0 xb (zOf q) P c0 hCi.1 hS1 (by first | assumption | omega)) hCi.1 rfl hl.1 (Nat.le_of_ble_eq_true rfl) dX10_give_9 ⟨Nat.le_of_ble_eq_true rfl, Nat.le_of_ble_eq_true rfl⟩ ⟨Nat.le_of_ble_eq_true rfl, Nat.le_of_ble_eq_true rfl⟩ hS (by have hz9 := hS.1; rintro q (h | h) <;> first | exact Or.inr (by omega) | exact h.elim | exact Or.inl h | (simp only [ftA] at h ⊢; omega)) (fun v H1 locs hpo hfr hS => ?_)
  obtain ⟨rfl, rfl⟩ := hpo
  refine W.widen (k := 0) (n := 0) (Nat.le_of_ble_eq_true rfl) (Nat.le_of_ble_eq_true rfl) ?_
  refine lv_astore (lv' := [(5, .ref ((xb + 10) + (14 + c0))), (4, .ref ((xb + 10) + (4 + 2 * k))), (0, .ref xb), (1, .int (nI k)), (2, .int (nI c0)), (3, .int (nI x))]) hx hb dX10_give_12 hl (by decide) rfl (fun ls hl => ?_)
  refine lv_iload_n hx hb dX10_give_14 rfl (lv_at hl 5 rfl) ?_
  refine lv_iconst (v := nI 1) hx hb dX10_give_15 (by decide) ?_
  refine lv_bipush (v := nI 99) hx hb dX10_give_16 (by decide) ?_
  refine cl_X10_44 (As := [.int (nI x), .int (nI 1), .int (nI 99)]) (rest := []) hB (c_X10_requireRange l g H0 x 1 99 (by first | assumption | omega) (by first | assumption | omega) (by first | assumption | omega)) rfl hl.1 (Nat.le_of_ble_eq_true rfl) dX10_give_18 ⟨Nat.le_of_ble_eq_true rfl, Nat.le_of_ble_eq_true rfl⟩ ⟨Nat.le_of_ble_eq_true rfl, Nat.le_of_ble_eq_true rfl⟩ hS (by have hz9 := hS.1; rintro q (h | h) <;> first | exact Or.inr (by omega) | exact h.elim | exact Or.inl h | (simp only [ftA] at h ⊢; omega)) (fun v H1 locs hpo hfr hS => ?_)
  obtain ⟨rfl, rfl⟩ := hpo
  refine W.widen (k := 0) (n := 0) (Nat.le_of_ble_eq_true rfl) (Nat.le_of_ble_eq_true rfl) ?_
  refine lv_aload_n hx hb dX10_give_21 rfl (lv_at hl 2 rfl) ?_
  refine gf_X10_29 hB hCi.1 rfl dX10_give_22 ?_
  refine lv_aload_n hx hb dX10_give_25 rfl (lv_at hl 2 rfl) ?_
  refine gf_X10_19 hB hCi.1 rfl dX10_give_26 ?_
  refine cl_X10_173 (As := [.ref (xb + 10)]) (rest := []) hB (cC_rem l g H0 xb lim q n rm sl sv tx ln (⟨D, P, T, Zr, Pr, zt, Pt, nx, hCi⟩)) hCi.2.2.2.2.2.1 rfl hl.1 (Nat.le_of_ble_eq_true rfl) dX10_give_29 ⟨Nat.le_of_ble_eq_true rfl, Nat.le_of_ble_eq_true rfl⟩ ⟨Nat.le_of_ble_eq_true rfl, Nat.le_of_ble_eq_true rfl⟩ hS (by have hz9 := hS.1; rintro q9 (h | h); exact Or.inl h; exact Or.inr (by omega)) (fun v H1 locs hpo hfr hS => ?_)
  obtain ⟨rfl, hC2⟩ := hpo
  generalize H1 = H at hfr hS hC2 ⊢
  refine W.widen (k := 26) (n := 126) (Nat.le_of_ble_eq_true rfl) (Nat.le_of_ble_eq_true rfl) ?_
  clear hD
  obtain ⟨D, P, T, Zr, Pr, zt, Pt, nx, hCi⟩ := hC2
  have hS1 := hCi.2.2.1
  have hPT := hCi.2.2.2.1
  have hD : ∀ q9, xb + 10 ≤ q9 → q9 < xb + 10 + 26 → D q9 := fun q9 h1 h2 => hCi.2.2.2.2.2.2.2.2.2.2.2.2.1 q9 (by omega) (Nat.lt_of_lt_of_le (show q9 < xb + 68 by omega) hCi.2.2.2.2.2.2.2.2.2.2.2.2.2.2.2.2.1)
  refine lv_aload_n hx hb dX10_give_32 rfl (lv_at hl 2 rfl) ?_
  refine gf_X10_19 hB hCi.1 rfl dX10_give_33 ?_
  refine lv_aload hx hb dX10_give_36 (lv_at hl 1 rfl) ?_
  refine lv_iload_n hx hb dX10_give_38 rfl (lv_at hl 4 rfl) ?_
  refine lv_iload_n hx hb dX10_give_39 rfl (lv_at hl 5 rfl) ?_
  refine cl_X10_180 (As := [.ref ((xb + 10) + (4 + 2 * k)), .int (nI c0), .int (nI x)]) (rest := []) hB (c_X8_takeGift l g H (xb + 10) (zOf q) P k c0 (nI x) hS1 (by omega) (hc)) hS1.o rfl hl.1 (Nat.le_of_ble_eq_true rfl) dX10_give_40 ⟨Nat.le_of_ble_eq_true rfl, Nat.le_of_ble_eq_true rfl⟩ ⟨Nat.le_of_ble_eq_true rfl, Nat.le_of_ble_eq_true rfl⟩ hS (by have hz9 := hS.1; rintro q9 (h | h); exact Or.inl (CF.a (by omega)); exact Or.inr (by omega)) (fun v H1 locs hpo hfr hS => ?_)
  obtain ⟨rfl, hS1⟩ := hpo
  have hCi := hCi.state hfr (hS1.congr (giv_z hW (by omega) hc) (fun _ _ => rfl)) ((hPT.keptF hfr (fun q9 y => hD q9 y.1 y.2)).giv hW (by omega) hc) (givQ_WF hW (by omega) hc) (giv_WZ hZ hk hnm5 hc)
  have hPT := hPT.keptF hfr (fun q9 hq9 => by first | exact hq9.elim | exact hD q9 (by have := hq9; omega) (by have := hq9; omega))
  generalize H1 = H at hfr hS hCi hPT hS1 ⊢
  refine W.widen (k := 26) (n := 126) (Nat.le_of_ble_eq_true rfl) (Nat.le_of_ble_eq_true rfl) ?_
  have hS1 := hCi.2.2.1
  have hPT := hCi.2.2.2.1
  refine lv_aload hx hb dX10_give_43 (lv_at hl 0 rfl) ?_
  refine gf_X10_184 hB (hS1.oc (k := c0) (by omega)) rfl dX10_give_45 ?_
  refine mh_top (y := .int (givQ q k c0 (nI x) (50 + c0))) (by rw [zOf_lo (by omega)]) ?_
  refine mh_iret hB ⟨Nat.le_of_ble_eq_true rfl, Nat.le_of_ble_eq_true rfl⟩ hS dX10_give_48 ⟨?_, ?_⟩
  · rfl
  · exact ⟨_, _, _, _, _, _, _, _, hCi⟩

def rm_f_X10_sew : Room := { frames := 6, cells := 26, slots := 126, locals := 132 }
set_option maxRecDepth 100000 in
set_option maxHeartbeats 400000 in
theorem f_X10_sew (l : Launch) (g : GG) (H0 : Heap) (xb : Nat) (lim : Nat) (q : Nat → Int32) (n : Nat) (rm : Nat → Int32) (sl : Nat → Int32) (sv : Nat → Int32) (tx : Nat → Int32) (ln : Nat) (f : Nat) (x : Nat) (hC : CLS g xb lim q n rm sl sv tx ln H0) (hf : f < 3) (hx1 : 0 < x) (hx2 : x < 100) (hs0 : 0 < szF q f) (h0 : 0 < nmQ q) : Ct l yX10_sew cX10_sew 4 (some .int) rm_f_X10_sew g [.ref xb, .int (nI f), .int (nI x)] H0 (ftA (CF xb lim) H0.size) (fun v H1 => v = some (.int (nI (sewN f (tnQ q) x q))) ∧ CLS g xb lim (sewE f x q) (nxtS n) (remA rm n q) (sl) (sv) (tx) (ln) H1) := by
  refine Ct.of (by decide) (fun _ h => Or.inr h) (Nat.le_of_ble_eq_true rfl) ?_
  intro p e s m below meth c ls hB hin hS hH hl
  have hx := hB.x
  have hb := hB.b
  have hl : lv_has ls 4 [(0, .ref xb), (1, .int (nI f)), (2, .int (nI x))] := hl
  obtain ⟨D, P, T, Zr, Pr, zt, Pt, nx, hCi⟩ := hC
  have hS1 := hCi.2.2.1
  have hPT := hCi.2.2.2.1
  have hD : ∀ q9, xb + 10 ≤ q9 → q9 < xb + 10 + 26 → D q9 := fun q9 h1 h2 => hCi.2.2.2.2.2.2.2.2.2.2.2.2.1 q9 (by omega) (Nat.lt_of_lt_of_le (show q9 < xb + 68 by omega) hCi.2.2.2.2.2.2.2.2.2.2.2.2.2.2.2.2.1)
  have hW : WF q := hCi.2.2.2.2.2.2.2.2.2.2.2.2.2.2.1
  have hZ : WZ q := hCi.2.2.2.2.2.2.2.2.2.2.2.2.2.2.2.1
  have hnm5 := hW.2.2.1
  have hz0 : (zOf q) 0 = nI (nmQ q) := by rw [zOf_lo (by omega), hW.1]
  refine lv_aload_n hx hb dX10_sew_0 rfl (lv_at hl 0 rfl) ?_
  refine lv_iload_n hx hb dX10_sew_1 rfl (lv_at hl 1 rfl) ?_
  refine cl_X10_123 (As := [.int (nI f)]) (rest := []) hB (c_X10_existingFrame l g H0 xb (zOf q) P f hCi.1 hS1 (by first | assumption | omega)) hCi.1 rfl hl.1 (Nat.le_of_ble_eq_true rfl) dX10_sew_2 ⟨Nat.le_of_ble_eq_true rfl, Nat.le_of_ble_eq_true rfl⟩ ⟨Nat.le_of_ble_eq_true rfl, Nat.le_of_ble_eq_true rfl⟩ hS (by have hz9 := hS.1; rintro q (h | h) <;> first | exact Or.inr (by omega) | exact h.elim | exact Or.inl h | (simp only [ftA] at h ⊢; omega)) (fun v H1 locs hpo hfr hS => ?_)
  obtain ⟨rfl, rfl⟩ := hpo
  refine W.widen (k := 0) (n := 0) (Nat.le_of_ble_eq_true rfl) (Nat.le_of_ble_eq_true rfl) ?_
  refine lv_astore_n (lv' := [(3, .ref ((xb + 10) + (20 + 2 * f))), (0, .ref xb), (1, .int (nI f)), (2, .int (nI x))]) hx hb dX10_sew_5 rfl hl (by decide) rfl (fun ls hl => ?_)
  refine lv_iload_n hx hb dX10_sew_6 rfl (lv_at hl 3 rfl) ?_
  refine lv_iconst (v := nI 1) hx hb dX10_sew_7 (by decide) ?_
  refine lv_bipush (v := nI 99) hx hb dX10_sew_8 (by decide) ?_
  refine cl_X10_44 (As := [.int (nI x), .int (nI 1), .int (nI 99)]) (rest := []) hB (c_X10_requireRange l g H0 x 1 99 (by first | assumption | omega) (by first | assumption | omega) (by first | assumption | omega)) rfl hl.1 (Nat.le_of_ble_eq_true rfl) dX10_sew_10 ⟨Nat.le_of_ble_eq_true rfl, Nat.le_of_ble_eq_true rfl⟩ ⟨Nat.le_of_ble_eq_true rfl, Nat.le_of_ble_eq_true rfl⟩ hS (by have hz9 := hS.1; rintro q (h | h) <;> first | exact Or.inr (by omega) | exact h.elim | exact Or.inl h | (simp only [ftA] at h ⊢; omega)) (fun v H1 locs hpo hfr hS => ?_)
  obtain ⟨rfl, rfl⟩ := hpo
  refine W.widen (k := 0) (n := 0) (Nat.le_of_ble_eq_true rfl) (Nat.le_of_ble_eq_true rfl) ?_
  refine lv_aload_n hx hb dX10_sew_13 rfl (lv_at hl 1 rfl) ?_
  refine gf_X10_19 hB hCi.1 rfl dX10_sew_14 ?_
  refine lv_aload_n hx hb dX10_sew_17 rfl (lv_at hl 0 rfl) ?_
  refine cl_X10_204 (As := [.ref ((xb + 10) + (20 + 2 * f))]) (rest := []) hB (c_X8_canSewOn l g H0 (xb + 10) (zOf q) P D q f (nmQ q) hS1 hPT (by first | assumption | omega) (hz0) (hnm5)) hS1.o rfl hl.1 (Nat.le_of_ble_eq_true rfl) dX10_sew_18 ⟨Nat.le_of_ble_eq_true rfl, Nat.le_of_ble_eq_true rfl⟩ ⟨Nat.le_of_ble_eq_true rfl, Nat.le_of_ble_eq_true rfl⟩ hS (by have hz9 := hS.1; rintro q (h | h) <;> first | exact Or.inr (by omega) | exact h.elim | exact Or.inl h | (simp only [ftA] at h ⊢; omega)) (fun v H1 locs hpo hfr hS => ?_)
  obtain ⟨rfl, rfl⟩ := hpo
  refine W.widen (k := 0) (n := 0) (Nat.le_of_ble_eq_true rfl) (Nat.le_of_ble_eq_true rfl) ?_
  refine mh_top (y := .int (nI 1)) (by rw [decide_eq_true (by omega)]; rfl) ?_
  refine cl_X10_52 (As := [.int (nI 1)]) (rest := []) hB (c_X10_requireState l g H0 ) rfl hl.1 (Nat.le_of_ble_eq_true rfl) dX10_sew_21 ⟨Nat.le_of_ble_eq_true rfl, Nat.le_of_ble_eq_true rfl⟩ ⟨Nat.le_of_ble_eq_true rfl, Nat.le_of_ble_eq_true rfl⟩ hS (by have hz9 := hS.1; rintro q (h | h) <;> first | exact Or.inr (by omega) | exact h.elim | exact Or.inl h | (simp only [ftA] at h ⊢; omega)) (fun v H1 locs hpo hfr hS => ?_)
  obtain ⟨rfl, rfl⟩ := hpo
  refine W.widen (k := 0) (n := 0) (Nat.le_of_ble_eq_true rfl) (Nat.le_of_ble_eq_true rfl) ?_
  refine lv_aload_n hx hb dX10_sew_24 rfl (lv_at hl 1 rfl) ?_
  refine gf_X10_29 hB hCi.1 rfl dX10_sew_25 ?_
  refine lv_aload_n hx hb dX10_sew_28 rfl (lv_at hl 1 rfl) ?_
  refine gf_X10_19 hB hCi.1 rfl dX10_sew_29 ?_
  refine cl_X10_173 (As := [.ref (xb + 10)]) (rest := []) hB (cC_rem l g H0 xb lim q n rm sl sv tx ln (⟨D, P, T, Zr, Pr, zt, Pt, nx, hCi⟩)) hCi.2.2.2.2.2.1 rfl hl.1 (Nat.le_of_ble_eq_true rfl) dX10_sew_32 ⟨Nat.le_of_ble_eq_true rfl, Nat.le_of_ble_eq_true rfl⟩ ⟨Nat.le_of_ble_eq_true rfl, Nat.le_of_ble_eq_true rfl⟩ hS (by have hz9 := hS.1; rintro q9 (h | h); exact Or.inl h; exact Or.inr (by omega)) (fun v H1 locs hpo hfr hS => ?_)
  obtain ⟨rfl, hC2⟩ := hpo
  generalize H1 = H at hfr hS hC2 ⊢
  refine W.widen (k := 26) (n := 126) (Nat.le_of_ble_eq_true rfl) (Nat.le_of_ble_eq_true rfl) ?_
  clear hD
  obtain ⟨D, P, T, Zr, Pr, zt, Pt, nx, hCi⟩ := hC2
  have hS1 := hCi.2.2.1
  have hPT := hCi.2.2.2.1
  have hD : ∀ q9, xb + 10 ≤ q9 → q9 < xb + 10 + 26 → D q9 := fun q9 h1 h2 => hCi.2.2.2.2.2.2.2.2.2.2.2.2.1 q9 (by omega) (Nat.lt_of_lt_of_le (show q9 < xb + 68 by omega) hCi.2.2.2.2.2.2.2.2.2.2.2.2.2.2.2.2.1)
  refine lv_aload_n hx hb dX10_sew_35 rfl (lv_at hl 1 rfl) ?_
  refine gf_X10_19 hB hCi.1 rfl dX10_sew_36 ?_
  refine lv_aload_n hx hb dX10_sew_39 rfl (lv_at hl 0 rfl) ?_
  refine lv_iload_n hx hb dX10_sew_40 rfl (lv_at hl 3 rfl) ?_
  refine cl_X10_208 (As := [.ref ((xb + 10) + (20 + 2 * f)), .int (nI x)]) (rest := []) hB (c_X8_sewPatches l g H (xb + 10) P D q f x hS1 hPT (by first | assumption | omega) (by first | assumption | omega) (by first | assumption | omega) (hx2) (h0)) hS1.o rfl hl.1 (Nat.le_of_ble_eq_true rfl) dX10_sew_41 ⟨Nat.le_of_ble_eq_true rfl, Nat.le_of_ble_eq_true rfl⟩ ⟨Nat.le_of_ble_eq_true rfl, Nat.le_of_ble_eq_true rfl⟩ hS (by have hz9 := hS.1; rintro q9 (h | h); exact Or.inl (CF.a (by omega)); exact Or.inr (by omega)) (fun v H1 locs hpo hfr hS => ?_)
  obtain ⟨rfl, hS1, hPT⟩ := hpo
  have hCi := hCi.state hfr hS1 hPT (sewE_WF hf hW h0) (sewE_WZ hf hW hZ h0)
  generalize H1 = H at hfr hS hCi hS1 hPT ⊢
  refine W.widen (k := 26) (n := 126) (Nat.le_of_ble_eq_true rfl) (Nat.le_of_ble_eq_true rfl) ?_
  have hS1 := hCi.2.2.1
  have hPT := hCi.2.2.2.1
  refine mh_iret hB ⟨Nat.le_of_ble_eq_true rfl, Nat.le_of_ble_eq_true rfl⟩ hS dX10_sew_44 ⟨?_, ?_⟩
  · rfl
  · exact ⟨_, _, _, _, _, _, _, _, hCi⟩

def rm_f_X10_takeApart : Room := { frames := 6, cells := 26, slots := 126, locals := 132 }
set_option maxRecDepth 100000 in
set_option maxHeartbeats 400000 in
theorem f_X10_takeApart (l : Launch) (g : GG) (H0 : Heap) (xb : Nat) (lim : Nat) (q : Nat → Int32) (n : Nat) (rm : Nat → Int32) (sl : Nat → Int32) (sv : Nat → Int32) (tx : Nat → Int32) (ln : Nat) (f : Nat) (hC : CLS g xb lim q n rm sl sv tx ln H0) (hf : f < 3) (hs0 : 0 < szF q f) : Ct l yX10_takeApart cX10_takeApart 3 (some .int) rm_f_X10_takeApart g [.ref xb, .int (nI f)] H0 (ftA (CF xb lim) H0.size) (fun v H1 => v = some (.int (nI (swF q f))) ∧ CLS g xb lim (tapQ q f) (nxtS n) (remA rm n q) (sl) (sv) (tx) (ln) H1) := by
  refine Ct.of (by decide) (fun _ h => Or.inr h) (Nat.le_of_ble_eq_true rfl) ?_
  intro p e s m below meth c ls hB hin hS hH hl
  have hx := hB.x
  have hb := hB.b
  have hl : lv_has ls 3 [(0, .ref xb), (1, .int (nI f))] := hl
  obtain ⟨D, P, T, Zr, Pr, zt, Pt, nx, hCi⟩ := hC
  have hS1 := hCi.2.2.1
  have hPT := hCi.2.2.2.1
  have hD : ∀ q9, xb + 10 ≤ q9 → q9 < xb + 10 + 26 → D q9 := fun q9 h1 h2 => hCi.2.2.2.2.2.2.2.2.2.2.2.2.1 q9 (by omega) (Nat.lt_of_lt_of_le (show q9 < xb + 68 by omega) hCi.2.2.2.2.2.2.2.2.2.2.2.2.2.2.2.2.1)
  have hW : WF q := hCi.2.2.2.2.2.2.2.2.2.2.2.2.2.2.1
  have hZ : WZ q := hCi.2.2.2.2.2.2.2.2.2.2.2.2.2.2.2.1
  have hnm5 := hW.2.2.1
  have hz0 : (zOf q) 0 = nI (nmQ q) := by rw [zOf_lo (by omega), hW.1]
  refine lv_aload_n hx hb dX10_takeApart_0 rfl (lv_at hl 0 rfl) ?_
  refine lv_iload_n hx hb dX10_takeApart_1 rfl (lv_at hl 1 rfl) ?_
  refine cl_X10_123 (As := [.int (nI f)]) (rest := []) hB (c_X10_existingFrame l g H0 xb (zOf q) P f hCi.1 hS1 (by first | assumption | omega)) hCi.1 rfl hl.1 (Nat.le_of_ble_eq_true rfl) dX10_takeApart_2 ⟨Nat.le_of_ble_eq_true rfl, Nat.le_of_ble_eq_true rfl⟩ ⟨Nat.le_of_ble_eq_true rfl, Nat.le_of_ble_eq_true rfl⟩ hS (by have hz9 := hS.1; rintro q (h | h) <;> first | exact Or.inr (by omega) | exact h.elim | exact Or.inl h | (simp only [ftA] at h ⊢; omega)) (fun v H1 locs hpo hfr hS => ?_)
  obtain ⟨rfl, rfl⟩ := hpo
  refine W.widen (k := 0) (n := 0) (Nat.le_of_ble_eq_true rfl) (Nat.le_of_ble_eq_true rfl) ?_
  refine lv_astore_n (lv' := [(2, .ref ((xb + 10) + (20 + 2 * f))), (0, .ref xb), (1, .int (nI f))]) hx hb dX10_takeApart_5 rfl hl (by decide) rfl (fun ls hl => ?_)
  refine lv_aload_n hx hb dX10_takeApart_6 rfl (lv_at hl 0 rfl) ?_
  refine cl_X10_187 (As := []) (rest := []) hB (c_X1_isEmpty l g H0 (xb + 10) (zOf q) P D q f hS1 hPT (by first | assumption | omega)) (hS1.of (k := f) (by omega)) rfl hl.1 (Nat.le_of_ble_eq_true rfl) dX10_takeApart_7 ⟨Nat.le_of_ble_eq_true rfl, Nat.le_of_ble_eq_true rfl⟩ ⟨Nat.le_of_ble_eq_true rfl, Nat.le_of_ble_eq_true rfl⟩ hS (by have hz9 := hS.1; rintro q (h | h) <;> first | exact Or.inr (by omega) | exact h.elim | exact Or.inl h | (simp only [ftA] at h ⊢; omega)) (fun v H1 locs hpo hfr hS => ?_)
  obtain ⟨rfl, rfl⟩ := hpo
  refine W.widen (k := 0) (n := 0) (Nat.le_of_ble_eq_true rfl) (Nat.le_of_ble_eq_true rfl) ?_
  refine mh_top (y := .int (nI 0)) (by rw [decide_eq_false (by omega)]; rfl) ?_
  refine mn_if_ne (tgt := 17) hB dX10_takeApart_10 (by decide) (by omega) (fun h => by exfalso; omega) (fun h_10 => ?_)
  refine lv_iconst (v := nI 1) hx hb dX10_takeApart_13 (by decide) ?_
  refine lv_goto (tgt := 18) hx hb dX10_takeApart_14 (by decide) ?_
  refine cl_X10_52 (As := [.int (nI 1)]) (rest := []) hB (c_X10_requireState l g H0 ) rfl hl.1 (Nat.le_of_ble_eq_true rfl) dX10_takeApart_18 ⟨Nat.le_of_ble_eq_true rfl, Nat.le_of_ble_eq_true rfl⟩ ⟨Nat.le_of_ble_eq_true rfl, Nat.le_of_ble_eq_true rfl⟩ hS (by have hz9 := hS.1; rintro q (h | h) <;> first | exact Or.inr (by omega) | exact h.elim | exact Or.inl h | (simp only [ftA] at h ⊢; omega)) (fun v H1 locs hpo hfr hS => ?_)
  obtain ⟨rfl, rfl⟩ := hpo
  refine W.widen (k := 0) (n := 0) (Nat.le_of_ble_eq_true rfl) (Nat.le_of_ble_eq_true rfl) ?_
  refine lv_aload_n hx hb dX10_takeApart_21 rfl (lv_at hl 1 rfl) ?_
  refine gf_X10_29 hB hCi.1 rfl dX10_takeApart_22 ?_
  refine lv_aload_n hx hb dX10_takeApart_25 rfl (lv_at hl 1 rfl) ?_
  refine gf_X10_19 hB hCi.1 rfl dX10_takeApart_26 ?_
  refine cl_X10_173 (As := [.ref (xb + 10)]) (rest := []) hB (cC_rem l g H0 xb lim q n rm sl sv tx ln (⟨D, P, T, Zr, Pr, zt, Pt, nx, hCi⟩)) hCi.2.2.2.2.2.1 rfl hl.1 (Nat.le_of_ble_eq_true rfl) dX10_takeApart_29 ⟨Nat.le_of_ble_eq_true rfl, Nat.le_of_ble_eq_true rfl⟩ ⟨Nat.le_of_ble_eq_true rfl, Nat.le_of_ble_eq_true rfl⟩ hS (by have hz9 := hS.1; rintro q9 (h | h); exact Or.inl h; exact Or.inr (by omega)) (fun v H1 locs hpo hfr hS => ?_)
  obtain ⟨rfl, hC2⟩ := hpo
  generalize H1 = H at hfr hS hC2 ⊢
  refine W.widen (k := 26) (n := 126) (Nat.le_of_ble_eq_true rfl) (Nat.le_of_ble_eq_true rfl) ?_
  clear hD
  obtain ⟨D, P, T, Zr, Pr, zt, Pt, nx, hCi⟩ := hC2
  have hS1 := hCi.2.2.1
  have hPT := hCi.2.2.2.1
  have hD : ∀ q9, xb + 10 ≤ q9 → q9 < xb + 10 + 26 → D q9 := fun q9 h1 h2 => hCi.2.2.2.2.2.2.2.2.2.2.2.2.1 q9 (by omega) (Nat.lt_of_lt_of_le (show q9 < xb + 68 by omega) hCi.2.2.2.2.2.2.2.2.2.2.2.2.2.2.2.2.1)
  refine lv_aload_n hx hb dX10_takeApart_32 rfl (lv_at hl 1 rfl) ?_
  refine gf_X10_19 hB hCi.1 rfl dX10_takeApart_33 ?_
  refine lv_aload_n hx hb dX10_takeApart_36 rfl (lv_at hl 0 rfl) ?_
  refine cl_X10_212 (As := [.ref ((xb + 10) + (20 + 2 * f))]) (rest := []) hB (c_X8_cutUp l g H (xb + 10) P D q f hS1 hPT (by first | assumption | omega) (by first | assumption | omega) (by first | assumption | omega)) hS1.o rfl hl.1 (Nat.le_of_ble_eq_true rfl) dX10_takeApart_37 ⟨Nat.le_of_ble_eq_true rfl, Nat.le_of_ble_eq_true rfl⟩ ⟨Nat.le_of_ble_eq_true rfl, Nat.le_of_ble_eq_true rfl⟩ hS (by have hz9 := hS.1; rintro q9 (h | h); exact Or.inl (CF.a (by omega)); exact Or.inr (by omega)) (fun v H1 locs hpo hfr hS => ?_)
  obtain ⟨rfl, hS1, hPT⟩ := hpo
  have hCi := hCi.state hfr hS1 hPT (tapQ_WF hf hW) (tap_WZ hf hW hZ)
  generalize H1 = H at hfr hS hCi hS1 hPT ⊢
  refine W.widen (k := 26) (n := 126) (Nat.le_of_ble_eq_true rfl) (Nat.le_of_ble_eq_true rfl) ?_
  have hS1 := hCi.2.2.1
  have hPT := hCi.2.2.2.1
  refine mh_iret hB ⟨Nat.le_of_ble_eq_true rfl, Nat.le_of_ble_eq_true rfl⟩ hS dX10_takeApart_40 ⟨?_, ?_⟩
  · rfl
  · exact ⟨_, _, _, _, _, _, _, _, hCi⟩

def rm_f_X10_raffle : Room := { frames := 6, cells := 26, slots := 126, locals := 132 }
set_option maxRecDepth 100000 in
set_option maxHeartbeats 400000 in
theorem f_X10_raffle (l : Launch) (g : GG) (H0 : Heap) (xb : Nat) (lim : Nat) (q : Nat → Int32) (n : Nat) (rm : Nat → Int32) (sl : Nat → Int32) (sv : Nat → Int32) (tx : Nat → Int32) (ln : Nat) (f : Nat) (p0 : Nat) (hC : CLS g xb lim q n rm sl sv tx ln H0) (hf : f < 3) (hp : p0 < 10000) (hs0 : 0 < szF q f) (hs1 : swF q f = szF q f) : Ct l yX10_raffle cX10_raffle 4 (some .int) rm_f_X10_raffle g [.ref xb, .int (nI f), .int (nI p0)] H0 (ftA (CF xb lim) H0.size) (fun v H1 => v = some (.int (nI (szF q f))) ∧ CLS g xb lim (rafQ q f p0) (nxtS n) (remA rm n q) (sl) (sv) (tx) (ln) H1) := by
  refine Ct.of (by decide) (fun _ h => Or.inr h) (Nat.le_of_ble_eq_true rfl) ?_
  intro p e s m below meth c ls hB hin hS hH hl
  have hx := hB.x
  have hb := hB.b
  have hl : lv_has ls 4 [(0, .ref xb), (1, .int (nI f)), (2, .int (nI p0))] := hl
  obtain ⟨D, P, T, Zr, Pr, zt, Pt, nx, hCi⟩ := hC
  have hS1 := hCi.2.2.1
  have hPT := hCi.2.2.2.1
  have hD : ∀ q9, xb + 10 ≤ q9 → q9 < xb + 10 + 26 → D q9 := fun q9 h1 h2 => hCi.2.2.2.2.2.2.2.2.2.2.2.2.1 q9 (by omega) (Nat.lt_of_lt_of_le (show q9 < xb + 68 by omega) hCi.2.2.2.2.2.2.2.2.2.2.2.2.2.2.2.2.1)
  have hW : WF q := hCi.2.2.2.2.2.2.2.2.2.2.2.2.2.2.1
  have hZ : WZ q := hCi.2.2.2.2.2.2.2.2.2.2.2.2.2.2.2.1
  have hnm5 := hW.2.2.1
  have hz0 : (zOf q) 0 = nI (nmQ q) := by rw [zOf_lo (by omega), hW.1]
  refine lv_aload_n hx hb dX10_raffle_0 rfl (lv_at hl 0 rfl) ?_
  refine lv_iload_n hx hb dX10_raffle_1 rfl (lv_at hl 1 rfl) ?_
  refine cl_X10_123 (As := [.int (nI f)]) (rest := []) hB (c_X10_existingFrame l g H0 xb (zOf q) P f hCi.1 hS1 (by first | assumption | omega)) hCi.1 rfl hl.1 (Nat.le_of_ble_eq_true rfl) dX10_raffle_2 ⟨Nat.le_of_ble_eq_true rfl, Nat.le_of_ble_eq_true rfl⟩ ⟨Nat.le_of_ble_eq_true rfl, Nat.le_of_ble_eq_true rfl⟩ hS (by have hz9 := hS.1; rintro q (h | h) <;> first | exact Or.inr (by omega) | exact h.elim | exact Or.inl h | (simp only [ftA] at h ⊢; omega)) (fun v H1 locs hpo hfr hS => ?_)
  obtain ⟨rfl, rfl⟩ := hpo
  refine W.widen (k := 0) (n := 0) (Nat.le_of_ble_eq_true rfl) (Nat.le_of_ble_eq_true rfl) ?_
  refine lv_astore_n (lv' := [(3, .ref ((xb + 10) + (20 + 2 * f))), (0, .ref xb), (1, .int (nI f)), (2, .int (nI p0))]) hx hb dX10_raffle_5 rfl hl (by decide) rfl (fun ls hl => ?_)
  refine lv_iload_n hx hb dX10_raffle_6 rfl (lv_at hl 3 rfl) ?_
  refine lv_iconst (v := nI 0) hx hb dX10_raffle_7 (by decide) ?_
  refine lv_sipush (v := nI 9999) hx hb dX10_raffle_8 (by decide +kernel) ?_
  refine cl_X10_44 (As := [.int (nI p0), .int (nI 0), .int (nI 9999)]) (rest := []) hB (c_X10_requireRange l g H0 p0 0 9999 (by first | assumption | omega) (by first | assumption | omega) (by first | assumption | omega)) rfl hl.1 (Nat.le_of_ble_eq_true rfl) dX10_raffle_11 ⟨Nat.le_of_ble_eq_true rfl, Nat.le_of_ble_eq_true rfl⟩ ⟨Nat.le_of_ble_eq_true rfl, Nat.le_of_ble_eq_true rfl⟩ hS (by have hz9 := hS.1; rintro q (h | h) <;> first | exact Or.inr (by omega) | exact h.elim | exact Or.inl h | (simp only [ftA] at h ⊢; omega)) (fun v H1 locs hpo hfr hS => ?_)
  obtain ⟨rfl, rfl⟩ := hpo
  refine W.widen (k := 0) (n := 0) (Nat.le_of_ble_eq_true rfl) (Nat.le_of_ble_eq_true rfl) ?_
  refine lv_aload_n hx hb dX10_raffle_14 rfl (lv_at hl 0 rfl) ?_
  refine cl_X10_216 (As := []) (rest := []) hB (c_X1_isFinished l g H0 (xb + 10) (zOf q) P D q f (swF q f) hS1 hPT (by first | assumption | omega) (by rw [zOf_fS hf, (hW.fr hf).s]) (WF.sw (hW.fr hf)) (WF.sz (hW.fr hf))) (hS1.of (k := f) (by omega)) rfl hl.1 (Nat.le_of_ble_eq_true rfl) dX10_raffle_15 ⟨Nat.le_of_ble_eq_true rfl, Nat.le_of_ble_eq_true rfl⟩ ⟨Nat.le_of_ble_eq_true rfl, Nat.le_of_ble_eq_true rfl⟩ hS (by have hz9 := hS.1; rintro q (h | h) <;> first | exact Or.inr (by omega) | exact h.elim | exact Or.inl h | (simp only [ftA] at h ⊢; omega)) (fun v H1 locs hpo hfr hS => ?_)
  obtain ⟨rfl, rfl⟩ := hpo
  refine W.widen (k := 0) (n := 0) (Nat.le_of_ble_eq_true rfl) (Nat.le_of_ble_eq_true rfl) ?_
  refine mh_top (y := .int (nI 1)) (by rw [decide_eq_true (by omega)]; rfl) ?_
  refine cl_X10_52 (As := [.int (nI 1)]) (rest := []) hB (c_X10_requireState l g H0 ) rfl hl.1 (Nat.le_of_ble_eq_true rfl) dX10_raffle_18 ⟨Nat.le_of_ble_eq_true rfl, Nat.le_of_ble_eq_true rfl⟩ ⟨Nat.le_of_ble_eq_true rfl, Nat.le_of_ble_eq_true rfl⟩ hS (by have hz9 := hS.1; rintro q (h | h) <;> first | exact Or.inr (by omega) | exact h.elim | exact Or.inl h | (simp only [ftA] at h ⊢; omega)) (fun v H1 locs hpo hfr hS => ?_)
  obtain ⟨rfl, rfl⟩ := hpo
  refine W.widen (k := 0) (n := 0) (Nat.le_of_ble_eq_true rfl) (Nat.le_of_ble_eq_true rfl) ?_
  refine lv_aload_n hx hb dX10_raffle_21 rfl (lv_at hl 1 rfl) ?_
  refine gf_X10_29 hB hCi.1 rfl dX10_raffle_22 ?_
  refine lv_aload_n hx hb dX10_raffle_25 rfl (lv_at hl 1 rfl) ?_
  refine gf_X10_19 hB hCi.1 rfl dX10_raffle_26 ?_
  refine cl_X10_173 (As := [.ref (xb + 10)]) (rest := []) hB (cC_rem l g H0 xb lim q n rm sl sv tx ln (⟨D, P, T, Zr, Pr, zt, Pt, nx, hCi⟩)) hCi.2.2.2.2.2.1 rfl hl.1 (Nat.le_of_ble_eq_true rfl) dX10_raffle_29 ⟨Nat.le_of_ble_eq_true rfl, Nat.le_of_ble_eq_true rfl⟩ ⟨Nat.le_of_ble_eq_true rfl, Nat.le_of_ble_eq_true rfl⟩ hS (by have hz9 := hS.1; rintro q9 (h | h); exact Or.inl h; exact Or.inr (by omega)) (fun v H1 locs hpo hfr hS => ?_)
  obtain ⟨rfl, hC2⟩ := hpo
  generalize H1 = H at hfr hS hC2 ⊢
  refine W.widen (k := 26) (n := 126) (Nat.le_of_ble_eq_true rfl) (Nat.le_of_ble_eq_true rfl) ?_
  clear hD
  obtain ⟨D, P, T, Zr, Pr, zt, Pt, nx, hCi⟩ := hC2
  have hS1 := hCi.2.2.1
  have hPT := hCi.2.2.2.1
  have hD : ∀ q9, xb + 10 ≤ q9 → q9 < xb + 10 + 26 → D q9 := fun q9 h1 h2 => hCi.2.2.2.2.2.2.2.2.2.2.2.2.1 q9 (by omega) (Nat.lt_of_lt_of_le (show q9 < xb + 68 by omega) hCi.2.2.2.2.2.2.2.2.2.2.2.2.2.2.2.2.1)
  refine lv_aload_n hx hb dX10_raffle_32 rfl (lv_at hl 1 rfl) ?_
  refine gf_X10_19 hB hCi.1 rfl dX10_raffle_33 ?_
  refine lv_aload_n hx hb dX10_raffle_36 rfl (lv_at hl 0 rfl) ?_
  refine lv_iload_n hx hb dX10_raffle_37 rfl (lv_at hl 3 rfl) ?_
  refine cl_X10_219 (As := [.ref ((xb + 10) + (20 + 2 * f)), .int (nI p0)]) (rest := []) hB (c_X8_raffleOff l g H (xb + 10) P D q f p0 hS1 hPT (by first | assumption | omega) (by first | assumption | omega) (by first | assumption | omega) (hZ) (hp) (hs0) (hs1)) hS1.o rfl hl.1 (Nat.le_of_ble_eq_true rfl) dX10_raffle_38 ⟨Nat.le_of_ble_eq_true rfl, Nat.le_of_ble_eq_true rfl⟩ ⟨Nat.le_of_ble_eq_true rfl, Nat.le_of_ble_eq_true rfl⟩ hS (by have hz9 := hS.1; rintro q9 (h | h); exact Or.inl (CF.a (by omega)); exact Or.inr (by omega)) (fun v H1 locs hpo hfr hS => ?_)
  obtain ⟨rfl, hS1, hPT⟩ := hpo
  have hCi := hCi.state hfr hS1 hPT (rafQ_WF hf hW) (raf_WZ hf hW hZ)
  generalize H1 = H at hfr hS hCi hS1 hPT ⊢
  refine W.widen (k := 26) (n := 126) (Nat.le_of_ble_eq_true rfl) (Nat.le_of_ble_eq_true rfl) ?_
  have hS1 := hCi.2.2.1
  have hPT := hCi.2.2.2.1
  refine mh_iret hB ⟨Nat.le_of_ble_eq_true rfl, Nat.le_of_ble_eq_true rfl⟩ hS dX10_raffle_41 ⟨?_, ?_⟩
  · rfl
  · exact ⟨_, _, _, _, _, _, _, _, hCi⟩

def rm_f_X10_returnCloth : Room := { frames := 6, cells := 26, slots := 126, locals := 132 }
set_option maxRecDepth 100000 in
set_option maxHeartbeats 400000 in
theorem f_X10_returnCloth (l : Launch) (g : GG) (H0 : Heap) (xb : Nat) (lim : Nat) (q : Nat → Int32) (n : Nat) (rm : Nat → Int32) (sl : Nat → Int32) (sv : Nat → Int32) (tx : Nat → Int32) (ln : Nat) (hC : CLS g xb lim q n rm sl sv tx ln H0) : Ct l yX10_returnCloth cX10_returnCloth 1 (some .int) rm_f_X10_returnCloth g [.ref xb] H0 (ftA (CF xb lim) H0.size) (fun v H1 => v = some (.int (retT q 6)) ∧ CLS g xb lim (retO q 6) (nxtS n) (remA rm n q) (sl) (sv) (tx) (ln) H1) := by
  refine Ct.of (by decide) (fun _ h => Or.inr h) (Nat.le_of_ble_eq_true rfl) ?_
  intro p e s m below meth c ls hB hin hS hH hl
  have hx := hB.x
  have hb := hB.b
  have hl : lv_has ls 1 [(0, .ref xb)] := hl
  obtain ⟨D, P, T, Zr, Pr, zt, Pt, nx, hCi⟩ := hC
  have hS1 := hCi.2.2.1
  have hPT := hCi.2.2.2.1
  have hD : ∀ q9, xb + 10 ≤ q9 → q9 < xb + 10 + 26 → D q9 := fun q9 h1 h2 => hCi.2.2.2.2.2.2.2.2.2.2.2.2.1 q9 (by omega) (Nat.lt_of_lt_of_le (show q9 < xb + 68 by omega) hCi.2.2.2.2.2.2.2.2.2.2.2.2.2.2.2.2.1)
  have hW : WF q := hCi.2.2.2.2.2.2.2.2.2.2.2.2.2.2.1
  have hZ : WZ q := hCi.2.2.2.2.2.2.2.2.2.2.2.2.2.2.2.1
  have hnm5 := hW.2.2.1
  have hz0 : (zOf q) 0 = nI (nmQ q) := by rw [zOf_lo (by omega), hW.1]
  refine lv_aload_n hx hb dX10_returnCloth_0 rfl (lv_at hl 0 rfl) ?_
  refine gf_X10_29 hB hCi.1 rfl dX10_returnCloth_1 ?_
  refine lv_aload_n hx hb dX10_returnCloth_4 rfl (lv_at hl 0 rfl) ?_
  refine gf_X10_19 hB hCi.1 rfl dX10_returnCloth_5 ?_
  refine cl_X10_173 (As := [.ref (xb + 10)]) (rest := []) hB (cC_rem l g H0 xb lim q n rm sl sv tx ln (⟨D, P, T, Zr, Pr, zt, Pt, nx, hCi⟩)) hCi.2.2.2.2.2.1 rfl hl.1 (Nat.le_of_ble_eq_true rfl) dX10_returnCloth_8 ⟨Nat.le_of_ble_eq_true rfl, Nat.le_of_ble_eq_true rfl⟩ ⟨Nat.le_of_ble_eq_true rfl, Nat.le_of_ble_eq_true rfl⟩ hS (by have hz9 := hS.1; rintro q9 (h | h); exact Or.inl h; exact Or.inr (by omega)) (fun v H1 locs hpo hfr hS => ?_)
  obtain ⟨rfl, hC2⟩ := hpo
  generalize H1 = H at hfr hS hC2 ⊢
  refine W.widen (k := 26) (n := 126) (Nat.le_of_ble_eq_true rfl) (Nat.le_of_ble_eq_true rfl) ?_
  clear hD
  obtain ⟨D, P, T, Zr, Pr, zt, Pt, nx, hCi⟩ := hC2
  have hS1 := hCi.2.2.1
  have hPT := hCi.2.2.2.1
  have hD : ∀ q9, xb + 10 ≤ q9 → q9 < xb + 10 + 26 → D q9 := fun q9 h1 h2 => hCi.2.2.2.2.2.2.2.2.2.2.2.2.1 q9 (by omega) (Nat.lt_of_lt_of_le (show q9 < xb + 68 by omega) hCi.2.2.2.2.2.2.2.2.2.2.2.2.2.2.2.2.1)
  refine lv_aload_n hx hb dX10_returnCloth_11 rfl (lv_at hl 0 rfl) ?_
  refine gf_X10_19 hB hCi.1 rfl dX10_returnCloth_12 ?_
  refine cl_X10_222 (As := []) (rest := []) hB (c_X8_giveBackStock l g H (xb + 10) P D q hS1 hPT (by first | assumption | omega) (by first | assumption | omega) (hZ)) hS1.o rfl hl.1 (Nat.le_of_ble_eq_true rfl) dX10_returnCloth_15 ⟨Nat.le_of_ble_eq_true rfl, Nat.le_of_ble_eq_true rfl⟩ ⟨Nat.le_of_ble_eq_true rfl, Nat.le_of_ble_eq_true rfl⟩ hS (by have hz9 := hS.1; rintro q9 (h | h); exact Or.inl (CF.a (by omega)); exact Or.inr (by omega)) (fun v H1 locs hpo hfr hS => ?_)
  obtain ⟨rfl, hS1, hPT⟩ := hpo
  have hCi := hCi.state hfr hS1 hPT (retO_WF hW) (retO_WZ hZ (by omega))
  generalize H1 = H at hfr hS hCi hS1 hPT ⊢
  refine W.widen (k := 26) (n := 126) (Nat.le_of_ble_eq_true rfl) (Nat.le_of_ble_eq_true rfl) ?_
  have hS1 := hCi.2.2.1
  have hPT := hCi.2.2.2.1
  refine mh_iret hB ⟨Nat.le_of_ble_eq_true rfl, Nat.le_of_ble_eq_true rfl⟩ hS dX10_returnCloth_18 ⟨?_, ?_⟩
  · rfl
  · exact ⟨_, _, _, _, _, _, _, _, hCi⟩

def rm_f_X10_recolour_e : Room := { frames := 6, cells := 28, slots := 385, locals := 132 }
set_option maxRecDepth 100000 in
set_option maxHeartbeats 400000 in
theorem f_X10_recolour_e (l : Launch) (g : GG) (H0 : Heap) (xb : Nat) (lim : Nat) (q : Nat → Int32) (n : Nat) (rm : Nat → Int32) (sl : Nat → Int32) (sv : Nat → Int32) (tx : Nat → Int32) (ln : Nat) (f : Nat) (a0 : Nat) (hC : CLS g xb lim q n rm sl sv tx ln H0) (hf : f < 3) (ha : a0 < 6) (hs0 : 0 < szF q f) (hs1 : swF q f = 0) : Ct l yX10_recolour cX10_recolour 5 (some .int) rm_f_X10_recolour_e g [.ref xb, .int (nI f), .int (nI a0), .int (nI a0)] H0 (ftA (CF xb lim) H0.size) (fun v H1 => v = some (.int (nI 0)) ∧ CLS g xb lim (recQ q f a0 a0) (nxtS n) (remA rm n q) (sl) (sv) (tx) (ln) H1) := by
  refine Ct.of (by decide) (fun _ h => Or.inr h) (Nat.le_of_ble_eq_true rfl) ?_
  intro p e s m below meth c ls hB hin hS hH hl
  have hx := hB.x
  have hb := hB.b
  have hl : lv_has ls 5 [(0, .ref xb), (1, .int (nI f)), (2, .int (nI a0)), (3, .int (nI a0))] := hl
  obtain ⟨D, P, T, Zr, Pr, zt, Pt, nx, hCi⟩ := hC
  have hS1 := hCi.2.2.1
  have hPT := hCi.2.2.2.1
  have hD : ∀ q9, xb + 10 ≤ q9 → q9 < xb + 10 + 26 → D q9 := fun q9 h1 h2 => hCi.2.2.2.2.2.2.2.2.2.2.2.2.1 q9 (by omega) (Nat.lt_of_lt_of_le (show q9 < xb + 68 by omega) hCi.2.2.2.2.2.2.2.2.2.2.2.2.2.2.2.2.1)
  have hW : WF q := hCi.2.2.2.2.2.2.2.2.2.2.2.2.2.2.1
  have hZ : WZ q := hCi.2.2.2.2.2.2.2.2.2.2.2.2.2.2.2.1
  have hnm5 := hW.2.2.1
  have hz0 : (zOf q) 0 = nI (nmQ q) := by rw [zOf_lo (by omega), hW.1]
  refine lv_aload_n hx hb dX10_recolour_0 rfl (lv_at hl 0 rfl) ?_
  refine lv_iload_n hx hb dX10_recolour_1 rfl (lv_at hl 1 rfl) ?_
  refine cl_X10_123 (As := [.int (nI f)]) (rest := []) hB (c_X10_existingFrame l g H0 xb (zOf q) P f hCi.1 hS1 (by first | assumption | omega)) hCi.1 rfl hl.1 (Nat.le_of_ble_eq_true rfl) dX10_recolour_2 ⟨Nat.le_of_ble_eq_true rfl, Nat.le_of_ble_eq_true rfl⟩ ⟨Nat.le_of_ble_eq_true rfl, Nat.le_of_ble_eq_true rfl⟩ hS (by have hz9 := hS.1; rintro q (h | h) <;> first | exact Or.inr (by omega) | exact h.elim | exact Or.inl h | (simp only [ftA] at h ⊢; omega)) (fun v H1 locs hpo hfr hS => ?_)
  obtain ⟨rfl, rfl⟩ := hpo
  refine W.widen (k := 0) (n := 0) (Nat.le_of_ble_eq_true rfl) (Nat.le_of_ble_eq_true rfl) ?_
  refine lv_astore (lv' := [(4, .ref ((xb + 10) + (20 + 2 * f))), (0, .ref xb), (1, .int (nI f)), (2, .int (nI a0)), (3, .int (nI a0))]) hx hb dX10_recolour_5 hl (by decide) rfl (fun ls hl => ?_)
  refine lv_aload_n hx hb dX10_recolour_7 rfl (lv_at hl 1 rfl) ?_
  refine lv_iload_n hx hb dX10_recolour_8 rfl (lv_at hl 3 rfl) ?_
  refine cl_X10_116 (As := [.int (nI a0)]) (rest := []) hB (c_X10_existingCloth l g H0 xb (zOf q) P a0 hCi.1 hS1 (by first | assumption | omega)) hCi.1 rfl hl.1 (Nat.le_of_ble_eq_true rfl) dX10_recolour_9 ⟨Nat.le_of_ble_eq_true rfl, Nat.le_of_ble_eq_true rfl⟩ ⟨Nat.le_of_ble_eq_true rfl, Nat.le_of_ble_eq_true rfl⟩ hS (by have hz9 := hS.1; rintro q (h | h) <;> first | exact Or.inr (by omega) | exact h.elim | exact Or.inl h | (simp only [ftA] at h ⊢; omega)) (fun v H1 locs hpo hfr hS => ?_)
  obtain ⟨rfl, rfl⟩ := hpo
  refine W.widen (k := 0) (n := 0) (Nat.le_of_ble_eq_true rfl) (Nat.le_of_ble_eq_true rfl) ?_
  refine lv_pop hx hb dX10_recolour_12 rfl ?_
  refine lv_aload_n hx hb dX10_recolour_13 rfl (lv_at hl 1 rfl) ?_
  refine lv_iload_n hx hb dX10_recolour_14 rfl (lv_at hl 4 rfl) ?_
  refine cl_X10_116 (As := [.int (nI a0)]) (rest := []) hB (c_X10_existingCloth l g H0 xb (zOf q) P a0 hCi.1 hS1 (by first | assumption | omega)) hCi.1 rfl hl.1 (Nat.le_of_ble_eq_true rfl) dX10_recolour_15 ⟨Nat.le_of_ble_eq_true rfl, Nat.le_of_ble_eq_true rfl⟩ ⟨Nat.le_of_ble_eq_true rfl, Nat.le_of_ble_eq_true rfl⟩ hS (by have hz9 := hS.1; rintro q (h | h) <;> first | exact Or.inr (by omega) | exact h.elim | exact Or.inl h | (simp only [ftA] at h ⊢; omega)) (fun v H1 locs hpo hfr hS => ?_)
  obtain ⟨rfl, rfl⟩ := hpo
  refine W.widen (k := 0) (n := 0) (Nat.le_of_ble_eq_true rfl) (Nat.le_of_ble_eq_true rfl) ?_
  refine lv_pop hx hb dX10_recolour_18 rfl ?_
  refine lv_aload hx hb dX10_recolour_19 (lv_at hl 0 rfl) ?_
  refine cl_X10_198 (As := []) (rest := []) hB (c_X1_canBeRecoloured l g H0 (xb + 10) (zOf q) P D q f (swF q f) hS1 hPT (by first | assumption | omega) (by rw [zOf_fS hf, (hW.fr hf).s]) (WF.sw (hW.fr hf)) (WF.sz (hW.fr hf))) (hS1.of (k := f) (by omega)) rfl hl.1 (Nat.le_of_ble_eq_true rfl) dX10_recolour_21 ⟨Nat.le_of_ble_eq_true rfl, Nat.le_of_ble_eq_true rfl⟩ ⟨Nat.le_of_ble_eq_true rfl, Nat.le_of_ble_eq_true rfl⟩ hS (by have hz9 := hS.1; rintro q (h | h) <;> first | exact Or.inr (by omega) | exact h.elim | exact Or.inl h | (simp only [ftA] at h ⊢; omega)) (fun v H1 locs hpo hfr hS => ?_)
  obtain ⟨rfl, rfl⟩ := hpo
  refine W.widen (k := 0) (n := 0) (Nat.le_of_ble_eq_true rfl) (Nat.le_of_ble_eq_true rfl) ?_
  refine mh_top (y := .int (nI 1)) (by rw [decide_eq_true (by omega)]; rfl) ?_
  refine cl_X10_52 (As := [.int (nI 1)]) (rest := []) hB (c_X10_requireState l g H0 ) rfl hl.1 (Nat.le_of_ble_eq_true rfl) dX10_recolour_24 ⟨Nat.le_of_ble_eq_true rfl, Nat.le_of_ble_eq_true rfl⟩ ⟨Nat.le_of_ble_eq_true rfl, Nat.le_of_ble_eq_true rfl⟩ hS (by have hz9 := hS.1; rintro q (h | h) <;> first | exact Or.inr (by omega) | exact h.elim | exact Or.inl h | (simp only [ftA] at h ⊢; omega)) (fun v H1 locs hpo hfr hS => ?_)
  obtain ⟨rfl, rfl⟩ := hpo
  refine W.widen (k := 0) (n := 0) (Nat.le_of_ble_eq_true rfl) (Nat.le_of_ble_eq_true rfl) ?_
  refine lv_aload_n hx hb dX10_recolour_27 rfl (lv_at hl 1 rfl) ?_
  refine gf_X10_29 hB hCi.1 rfl dX10_recolour_28 ?_
  refine lv_aload_n hx hb dX10_recolour_31 rfl (lv_at hl 1 rfl) ?_
  refine gf_X10_19 hB hCi.1 rfl dX10_recolour_32 ?_
  refine cl_X10_173 (As := [.ref (xb + 10)]) (rest := []) hB (cC_rem l g H0 xb lim q n rm sl sv tx ln (⟨D, P, T, Zr, Pr, zt, Pt, nx, hCi⟩)) hCi.2.2.2.2.2.1 rfl hl.1 (Nat.le_of_ble_eq_true rfl) dX10_recolour_35 ⟨Nat.le_of_ble_eq_true rfl, Nat.le_of_ble_eq_true rfl⟩ ⟨Nat.le_of_ble_eq_true rfl, Nat.le_of_ble_eq_true rfl⟩ hS (by have hz9 := hS.1; rintro q9 (h | h); exact Or.inl h; exact Or.inr (by omega)) (fun v H1 locs hpo hfr hS => ?_)
  obtain ⟨rfl, hC2⟩ := hpo
  generalize H1 = H at hfr hS hC2 ⊢
  refine W.widen (k := 26) (n := 126) (Nat.le_of_ble_eq_true rfl) (Nat.le_of_ble_eq_true rfl) ?_
  clear hD
  obtain ⟨D, P, T, Zr, Pr, zt, Pt, nx, hCi⟩ := hC2
  have hS1 := hCi.2.2.1
  have hPT := hCi.2.2.2.1
  have hD : ∀ q9, xb + 10 ≤ q9 → q9 < xb + 10 + 26 → D q9 := fun q9 h1 h2 => hCi.2.2.2.2.2.2.2.2.2.2.2.2.1 q9 (by omega) (Nat.lt_of_lt_of_le (show q9 < xb + 68 by omega) hCi.2.2.2.2.2.2.2.2.2.2.2.2.2.2.2.2.1)
  refine lv_aload hx hb dX10_recolour_38 (lv_at hl 0 rfl) ?_
  refine lv_iload_n hx hb dX10_recolour_40 rfl (lv_at hl 3 rfl) ?_
  refine lv_iload_n hx hb dX10_recolour_41 rfl (lv_at hl 4 rfl) ?_
  refine cl_X10_201 (As := [.int (nI a0), .int (nI a0)]) (rest := []) hB (c_X1_exchangeColours_e l g H (xb + 10) (zOf q) P D q f a0 hS1 hPT (by first | assumption | omega) (hs0) (ha)) (hS1.of (k := f) (by omega)) rfl hl.1 (Nat.le_of_ble_eq_true rfl) dX10_recolour_42 ⟨Nat.le_of_ble_eq_true rfl, Nat.le_of_ble_eq_true rfl⟩ ⟨Nat.le_of_ble_eq_true rfl, Nat.le_of_ble_eq_true rfl⟩ hS (by have hz9 := hS.1; rintro q (h | h) <;> first | exact Or.inr (by omega) | exact h.elim | exact Or.inl h | (simp only [ftA] at h ⊢; omega)) (fun v H1 locs hpo hfr hS => ?_)
  obtain ⟨rfl, rfl⟩ := hpo
  refine W.widen (k := 26) (n := 126) (Nat.le_of_ble_eq_true rfl) (Nat.le_of_ble_eq_true rfl) ?_
  refine mh_iret hB ⟨Nat.le_of_ble_eq_true rfl, Nat.le_of_ble_eq_true rfl⟩ hS dX10_recolour_45 ⟨?_, ?_⟩
  · rfl
  · rw [show recQ q f a0 a0 = q from if_pos rfl]
    exact ⟨_, _, _, _, _, _, _, _, hCi⟩

def rm_f_X10_recolour : Room := { frames := 6, cells := 28, slots := 385, locals := 132 }
set_option maxRecDepth 100000 in
set_option maxHeartbeats 400000 in
theorem f_X10_recolour (l : Launch) (g : GG) (H0 : Heap) (xb : Nat) (lim : Nat) (q : Nat → Int32) (n : Nat) (rm : Nat → Int32) (sl : Nat → Int32) (sv : Nat → Int32) (tx : Nat → Int32) (ln : Nat) (f : Nat) (a0 : Nat) (b0 : Nat) (hC : CLS g xb lim q n rm sl sv tx ln H0) (hf : f < 3) (ha : a0 < 6) (hb8 : b0 < 6) (hs0 : 0 < szF q f) (hs1 : swF q f = 0) (hab : a0 ≠ b0) : Ct l yX10_recolour cX10_recolour 5 (some .int) rm_f_X10_recolour g [.ref xb, .int (nI f), .int (nI a0), .int (nI b0)] H0 (ftA (CF xb lim) H0.size) (fun v H1 => v = some (.int (nI (recN q f a0 b0))) ∧ CLS g xb lim (recQ q f a0 b0) (nxtS n) (remA rm n q) (sl) (sv) (tx) (ln) H1) := by
  refine Ct.of (by decide) (fun _ h => Or.inr h) (Nat.le_of_ble_eq_true rfl) ?_
  intro p e s m below meth c ls hB hin hS hH hl
  have hx := hB.x
  have hb := hB.b
  have hl : lv_has ls 5 [(0, .ref xb), (1, .int (nI f)), (2, .int (nI a0)), (3, .int (nI b0))] := hl
  obtain ⟨D, P, T, Zr, Pr, zt, Pt, nx, hCi⟩ := hC
  have hS1 := hCi.2.2.1
  have hPT := hCi.2.2.2.1
  have hD : ∀ q9, xb + 10 ≤ q9 → q9 < xb + 10 + 26 → D q9 := fun q9 h1 h2 => hCi.2.2.2.2.2.2.2.2.2.2.2.2.1 q9 (by omega) (Nat.lt_of_lt_of_le (show q9 < xb + 68 by omega) hCi.2.2.2.2.2.2.2.2.2.2.2.2.2.2.2.2.1)
  have hW : WF q := hCi.2.2.2.2.2.2.2.2.2.2.2.2.2.2.1
  have hZ : WZ q := hCi.2.2.2.2.2.2.2.2.2.2.2.2.2.2.2.1
  have hnm5 := hW.2.2.1
  have hz0 : (zOf q) 0 = nI (nmQ q) := by rw [zOf_lo (by omega), hW.1]
  refine lv_aload_n hx hb dX10_recolour_0 rfl (lv_at hl 0 rfl) ?_
  refine lv_iload_n hx hb dX10_recolour_1 rfl (lv_at hl 1 rfl) ?_
  refine cl_X10_123 (As := [.int (nI f)]) (rest := []) hB (c_X10_existingFrame l g H0 xb (zOf q) P f hCi.1 hS1 (by first | assumption | omega)) hCi.1 rfl hl.1 (Nat.le_of_ble_eq_true rfl) dX10_recolour_2 ⟨Nat.le_of_ble_eq_true rfl, Nat.le_of_ble_eq_true rfl⟩ ⟨Nat.le_of_ble_eq_true rfl, Nat.le_of_ble_eq_true rfl⟩ hS (by have hz9 := hS.1; rintro q (h | h) <;> first | exact Or.inr (by omega) | exact h.elim | exact Or.inl h | (simp only [ftA] at h ⊢; omega)) (fun v H1 locs hpo hfr hS => ?_)
  obtain ⟨rfl, rfl⟩ := hpo
  refine W.widen (k := 0) (n := 0) (Nat.le_of_ble_eq_true rfl) (Nat.le_of_ble_eq_true rfl) ?_
  refine lv_astore (lv' := [(4, .ref ((xb + 10) + (20 + 2 * f))), (0, .ref xb), (1, .int (nI f)), (2, .int (nI a0)), (3, .int (nI b0))]) hx hb dX10_recolour_5 hl (by decide) rfl (fun ls hl => ?_)
  refine lv_aload_n hx hb dX10_recolour_7 rfl (lv_at hl 1 rfl) ?_
  refine lv_iload_n hx hb dX10_recolour_8 rfl (lv_at hl 3 rfl) ?_
  refine cl_X10_116 (As := [.int (nI a0)]) (rest := []) hB (c_X10_existingCloth l g H0 xb (zOf q) P a0 hCi.1 hS1 (by first | assumption | omega)) hCi.1 rfl hl.1 (Nat.le_of_ble_eq_true rfl) dX10_recolour_9 ⟨Nat.le_of_ble_eq_true rfl, Nat.le_of_ble_eq_true rfl⟩ ⟨Nat.le_of_ble_eq_true rfl, Nat.le_of_ble_eq_true rfl⟩ hS (by have hz9 := hS.1; rintro q (h | h) <;> first | exact Or.inr (by omega) | exact h.elim | exact Or.inl h | (simp only [ftA] at h ⊢; omega)) (fun v H1 locs hpo hfr hS => ?_)
  obtain ⟨rfl, rfl⟩ := hpo
  refine W.widen (k := 0) (n := 0) (Nat.le_of_ble_eq_true rfl) (Nat.le_of_ble_eq_true rfl) ?_
  refine lv_pop hx hb dX10_recolour_12 rfl ?_
  refine lv_aload_n hx hb dX10_recolour_13 rfl (lv_at hl 1 rfl) ?_
  refine lv_iload_n hx hb dX10_recolour_14 rfl (lv_at hl 4 rfl) ?_
  refine cl_X10_116 (As := [.int (nI b0)]) (rest := []) hB (c_X10_existingCloth l g H0 xb (zOf q) P b0 hCi.1 hS1 (by first | assumption | omega)) hCi.1 rfl hl.1 (Nat.le_of_ble_eq_true rfl) dX10_recolour_15 ⟨Nat.le_of_ble_eq_true rfl, Nat.le_of_ble_eq_true rfl⟩ ⟨Nat.le_of_ble_eq_true rfl, Nat.le_of_ble_eq_true rfl⟩ hS (by have hz9 := hS.1; rintro q (h | h) <;> first | exact Or.inr (by omega) | exact h.elim | exact Or.inl h | (simp only [ftA] at h ⊢; omega)) (fun v H1 locs hpo hfr hS => ?_)
  obtain ⟨rfl, rfl⟩ := hpo
  refine W.widen (k := 0) (n := 0) (Nat.le_of_ble_eq_true rfl) (Nat.le_of_ble_eq_true rfl) ?_
  refine lv_pop hx hb dX10_recolour_18 rfl ?_
  refine lv_aload hx hb dX10_recolour_19 (lv_at hl 0 rfl) ?_
  refine cl_X10_198 (As := []) (rest := []) hB (c_X1_canBeRecoloured l g H0 (xb + 10) (zOf q) P D q f (swF q f) hS1 hPT (by first | assumption | omega) (by rw [zOf_fS hf, (hW.fr hf).s]) (WF.sw (hW.fr hf)) (WF.sz (hW.fr hf))) (hS1.of (k := f) (by omega)) rfl hl.1 (Nat.le_of_ble_eq_true rfl) dX10_recolour_21 ⟨Nat.le_of_ble_eq_true rfl, Nat.le_of_ble_eq_true rfl⟩ ⟨Nat.le_of_ble_eq_true rfl, Nat.le_of_ble_eq_true rfl⟩ hS (by have hz9 := hS.1; rintro q (h | h) <;> first | exact Or.inr (by omega) | exact h.elim | exact Or.inl h | (simp only [ftA] at h ⊢; omega)) (fun v H1 locs hpo hfr hS => ?_)
  obtain ⟨rfl, rfl⟩ := hpo
  refine W.widen (k := 0) (n := 0) (Nat.le_of_ble_eq_true rfl) (Nat.le_of_ble_eq_true rfl) ?_
  refine mh_top (y := .int (nI 1)) (by rw [decide_eq_true (by omega)]; rfl) ?_
  refine cl_X10_52 (As := [.int (nI 1)]) (rest := []) hB (c_X10_requireState l g H0 ) rfl hl.1 (Nat.le_of_ble_eq_true rfl) dX10_recolour_24 ⟨Nat.le_of_ble_eq_true rfl, Nat.le_of_ble_eq_true rfl⟩ ⟨Nat.le_of_ble_eq_true rfl, Nat.le_of_ble_eq_true rfl⟩ hS (by have hz9 := hS.1; rintro q (h | h) <;> first | exact Or.inr (by omega) | exact h.elim | exact Or.inl h | (simp only [ftA] at h ⊢; omega)) (fun v H1 locs hpo hfr hS => ?_)
  obtain ⟨rfl, rfl⟩ := hpo
  refine W.widen (k := 0) (n := 0) (Nat.le_of_ble_eq_true rfl) (Nat.le_of_ble_eq_true rfl) ?_
  refine lv_aload_n hx hb dX10_recolour_27 rfl (lv_at hl 1 rfl) ?_
  refine gf_X10_29 hB hCi.1 rfl dX10_recolour_28 ?_
  refine lv_aload_n hx hb dX10_recolour_31 rfl (lv_at hl 1 rfl) ?_
  refine gf_X10_19 hB hCi.1 rfl dX10_recolour_32 ?_
  refine cl_X10_173 (As := [.ref (xb + 10)]) (rest := []) hB (cC_rem l g H0 xb lim q n rm sl sv tx ln (⟨D, P, T, Zr, Pr, zt, Pt, nx, hCi⟩)) hCi.2.2.2.2.2.1 rfl hl.1 (Nat.le_of_ble_eq_true rfl) dX10_recolour_35 ⟨Nat.le_of_ble_eq_true rfl, Nat.le_of_ble_eq_true rfl⟩ ⟨Nat.le_of_ble_eq_true rfl, Nat.le_of_ble_eq_true rfl⟩ hS (by have hz9 := hS.1; rintro q9 (h | h); exact Or.inl h; exact Or.inr (by omega)) (fun v H1 locs hpo hfr hS => ?_)
  obtain ⟨rfl, hC2⟩ := hpo
  generalize H1 = H at hfr hS hC2 ⊢
  refine W.widen (k := 26) (n := 126) (Nat.le_of_ble_eq_true rfl) (Nat.le_of_ble_eq_true rfl) ?_
  clear hD
  obtain ⟨D, P, T, Zr, Pr, zt, Pt, nx, hCi⟩ := hC2
  have hS1 := hCi.2.2.1
  have hPT := hCi.2.2.2.1
  have hD : ∀ q9, xb + 10 ≤ q9 → q9 < xb + 10 + 26 → D q9 := fun q9 h1 h2 => hCi.2.2.2.2.2.2.2.2.2.2.2.2.1 q9 (by omega) (Nat.lt_of_lt_of_le (show q9 < xb + 68 by omega) hCi.2.2.2.2.2.2.2.2.2.2.2.2.2.2.2.2.1)
  obtain ⟨n0, hsz⟩ : ∃ n0, H.size = n0 := ⟨_, rfl⟩
  refine lv_aload hx hb dX10_recolour_38 (lv_at hl 0 rfl) ?_
  refine lv_iload_n hx hb dX10_recolour_40 rfl (lv_at hl 3 rfl) ?_
  refine lv_iload_n hx hb dX10_recolour_41 rfl (lv_at hl 4 rfl) ?_
  refine cl_X10_201 (As := [.int (nI a0), .int (nI b0)]) (rest := []) hB (c_X1_exchangeColours l g H (xb + 10) (zOf q) P D q f a0 b0 n0 hS1 hPT (by first | assumption | omega) (by first | assumption | omega) (hW.fr hf) (hs0) (ha) (hb8) (hab) (hsz) (fun q9 y => hsz ▸ hCi.2.2.2.2.2.2.2.2.2.2.2.2.2.1 q9 y)) (hS1.of (k := f) (by omega)) rfl hl.1 (Nat.le_of_ble_eq_true rfl) dX10_recolour_42 ⟨Nat.le_of_ble_eq_true rfl, Nat.le_of_ble_eq_true rfl⟩ ⟨Nat.le_of_ble_eq_true rfl, Nat.le_of_ble_eq_true rfl⟩ hS (by have hz9 := hS.1; rintro q9 (h | h); exact Or.inl (CF.a (by omega)); exact Or.inr (by omega)) (fun v H1 locs hpo hfr hS => ?_)
  obtain ⟨rfl, hS1, hPT, hsz2⟩ := hpo
  have hCi := hCi.state hfr (hS1.congr (rec_z hf hW hs1) (fun _ _ => rfl)) hPT (recQ_WF hW hf ha hb8) (rec_WZ hf hW hZ)
  generalize H1 = H at hfr hS hCi hS1 hPT hsz2 ⊢
  refine W.widen (k := 28) (n := 385) (Nat.le_of_ble_eq_true rfl) (Nat.le_of_ble_eq_true rfl) ?_
  have hS1 := hCi.2.2.1
  have hPT := hCi.2.2.2.1
  refine mh_iret hB ⟨Nat.le_of_ble_eq_true rfl, Nat.le_of_ble_eq_true rfl⟩ hS dX10_recolour_45 ⟨?_, ?_⟩
  · rfl
  · exact ⟨_, _, _, _, _, _, _, _, hCi⟩

def rm_f_X10_undo : Room := { frames := 5, cells := 0, slots := 0, locals := 110 }
set_option maxRecDepth 100000 in
set_option maxHeartbeats 400000 in
theorem f_X10_undo (l : Launch) (g : GG) (H0 : Heap) (xb : Nat) (lim : Nat) (q : Nat → Int32) (n : Nat) (rm : Nat → Int32) (sl : Nat → Int32) (sv : Nat → Int32) (tx : Nat → Int32) (ln : Nat) (hC : CLS g xb lim q n rm sl sv tx ln H0) (hn0 : 0 < n) : Ct l yX10_undo cX10_undo 1 (some .int) rm_f_X10_undo g [.ref xb] H0 (ftA (CF xb lim) H0.size) (fun v H1 => v = some (.int (nI (n - 1))) ∧ CLS g xb lim (row9 rm (n - 1)) (n - 1) (rm) (sl) (sv) (tx) (ln) H1) := by
  refine Ct.of (by decide) (fun _ h => Or.inr h) (Nat.le_of_ble_eq_true rfl) ?_
  intro p e s m below meth c ls hB hin hS hH hl
  have hx := hB.x
  have hb := hB.b
  have hl : lv_has ls 1 [(0, .ref xb)] := hl
  obtain ⟨D, P, T, Zr, Pr, zt, Pt, nx, hCi⟩ := hC
  have hS1 := hCi.2.2.1
  have hPT := hCi.2.2.2.1
  have hD : ∀ q9, xb + 10 ≤ q9 → q9 < xb + 10 + 26 → D q9 := fun q9 h1 h2 => hCi.2.2.2.2.2.2.2.2.2.2.2.2.1 q9 (by omega) (Nat.lt_of_lt_of_le (show q9 < xb + 68 by omega) hCi.2.2.2.2.2.2.2.2.2.2.2.2.2.2.2.2.1)
  have hW : WF q := hCi.2.2.2.2.2.2.2.2.2.2.2.2.2.2.1
  have hZ : WZ q := hCi.2.2.2.2.2.2.2.2.2.2.2.2.2.2.2.1
  have hnm5 := hW.2.2.1
  have hz0 : (zOf q) 0 = nI (nmQ q) := by rw [zOf_lo (by omega), hW.1]
  have hn14 := hCi.2.2.2.2.2.2.2.2.2.2.1.2.1
  refine lv_aload_n hx hb dX10_undo_0 rfl (lv_at hl 0 rfl) ?_
  refine gf_X10_29 hB hCi.1 rfl dX10_undo_1 ?_
  refine gf_X10_225 hB hCi.2.2.2.2.2.1 rfl dX10_undo_4 ?_
  refine mn_if_le (tgt := 14) hB dX10_undo_7 (by decide) (by omega) (fun h => by exfalso; omega) (fun h_7 => ?_)
  refine lv_iconst (v := nI 1) hx hb dX10_undo_10 (by decide) ?_
  refine lv_goto (tgt := 15) hx hb dX10_undo_11 (by decide) ?_
  refine cl_X10_52 (As := [.int (nI 1)]) (rest := []) hB (c_X10_requireState l g H0 ) rfl hl.1 (Nat.le_of_ble_eq_true rfl) dX10_undo_15 ⟨Nat.le_of_ble_eq_true rfl, Nat.le_of_ble_eq_true rfl⟩ ⟨Nat.le_of_ble_eq_true rfl, Nat.le_of_ble_eq_true rfl⟩ hS (by have hz9 := hS.1; rintro q (h | h) <;> first | exact Or.inr (by omega) | exact h.elim | exact Or.inl h | (simp only [ftA] at h ⊢; omega)) (fun v H1 locs hpo hfr hS => ?_)
  obtain ⟨rfl, rfl⟩ := hpo
  refine W.widen (k := 0) (n := 0) (Nat.le_of_ble_eq_true rfl) (Nat.le_of_ble_eq_true rfl) ?_
  refine lv_aload_n hx hb dX10_undo_18 rfl (lv_at hl 0 rfl) ?_
  refine gf_X10_29 hB hCi.1 rfl dX10_undo_19 ?_
  refine lv_aload_n hx hb dX10_undo_22 rfl (lv_at hl 0 rfl) ?_
  refine gf_X10_19 hB hCi.1 rfl dX10_undo_23 ?_
  refine cl_X10_228 (As := [.ref (xb + 10)]) (rest := []) hB (cC_und l g H0 xb lim q n rm sl sv tx ln (⟨D, P, T, Zr, Pr, zt, Pt, nx, hCi⟩) (hn0)) hCi.2.2.2.2.2.1 rfl hl.1 (Nat.le_of_ble_eq_true rfl) dX10_undo_26 ⟨Nat.le_of_ble_eq_true rfl, Nat.le_of_ble_eq_true rfl⟩ ⟨Nat.le_of_ble_eq_true rfl, Nat.le_of_ble_eq_true rfl⟩ hS (by have hz9 := hS.1; rintro q9 (h | h); exact Or.inl h; exact Or.inr (by omega)) (fun v H1 locs hpo hfr hS => ?_)
  obtain ⟨rfl, hC2⟩ := hpo
  generalize H1 = H at hfr hS hC2 ⊢
  refine W.widen (k := 0) (n := 0) (Nat.le_of_ble_eq_true rfl) (Nat.le_of_ble_eq_true rfl) ?_
  clear hD
  obtain ⟨D, P, T, Zr, Pr, zt, Pt, nx, hCi⟩ := hC2
  have hS1 := hCi.2.2.1
  have hPT := hCi.2.2.2.1
  have hD : ∀ q9, xb + 10 ≤ q9 → q9 < xb + 10 + 26 → D q9 := fun q9 h1 h2 => hCi.2.2.2.2.2.2.2.2.2.2.2.2.1 q9 (by omega) (Nat.lt_of_lt_of_le (show q9 < xb + 68 by omega) hCi.2.2.2.2.2.2.2.2.2.2.2.2.2.2.2.2.1)
  refine mh_iret hB ⟨Nat.le_of_ble_eq_true rfl, Nat.le_of_ble_eq_true rfl⟩ hS dX10_undo_29 ⟨?_, ?_⟩
  · rfl
  · exact ⟨_, _, _, _, _, _, _, _, hCi⟩

def rm_f_X10_save : Room := { frames := 5, cells := 26, slots := 126, locals := 111 }
set_option maxRecDepth 100000 in
set_option maxHeartbeats 400000 in
theorem f_X10_save (l : Launch) (g : GG) (H0 : Heap) (xb : Nat) (lim : Nat) (q : Nat → Int32) (n : Nat) (rm : Nat → Int32) (sl : Nat → Int32) (sv : Nat → Int32) (tx : Nat → Int32) (ln : Nat) (k0 : Nat) (hC : CLS g xb lim q n rm sl sv tx ln H0) (hk : k0 < 2) : Ct l yX10_save cX10_save 2 (some .int) rm_f_X10_save g [.ref xb, .int (nI k0)] H0 (ftA (CF xb lim) H0.size) (fun v H1 => v = some (.int (q 0)) ∧ CLS g xb lim (q) (n) (rm) (remU sl k0 q 866) (upd sv k0 (vp_nar .boolean (nI 1))) (tx) (ln) H1) := by
  refine Ct.of (by decide) (fun _ h => Or.inr h) (Nat.le_of_ble_eq_true rfl) ?_
  intro p e s m below meth c ls hB hin hS hH hl
  have hx := hB.x
  have hb := hB.b
  have hl : lv_has ls 2 [(0, .ref xb), (1, .int (nI k0))] := hl
  obtain ⟨D, P, T, Zr, Pr, zt, Pt, nx, hCi⟩ := hC
  have hS1 := hCi.2.2.1
  have hPT := hCi.2.2.2.1
  have hD : ∀ q9, xb + 10 ≤ q9 → q9 < xb + 10 + 26 → D q9 := fun q9 h1 h2 => hCi.2.2.2.2.2.2.2.2.2.2.2.2.1 q9 (by omega) (Nat.lt_of_lt_of_le (show q9 < xb + 68 by omega) hCi.2.2.2.2.2.2.2.2.2.2.2.2.2.2.2.2.1)
  have hW : WF q := hCi.2.2.2.2.2.2.2.2.2.2.2.2.2.2.1
  have hZ : WZ q := hCi.2.2.2.2.2.2.2.2.2.2.2.2.2.2.2.1
  have hnm5 := hW.2.2.1
  have hz0 : (zOf q) 0 = nI (nmQ q) := by rw [zOf_lo (by omega), hW.1]
  refine lv_iload_n hx hb dX10_save_0 rfl (lv_at hl 1 rfl) ?_
  refine cl_X10_274 (As := [.int (nI k0)]) (rest := []) hB (c_X10_requireSlot l g H0 k0 (hk)) rfl hl.1 (Nat.le_of_ble_eq_true rfl) dX10_save_1 ⟨Nat.le_of_ble_eq_true rfl, Nat.le_of_ble_eq_true rfl⟩ ⟨Nat.le_of_ble_eq_true rfl, Nat.le_of_ble_eq_true rfl⟩ hS (by have hz9 := hS.1; rintro q (h | h) <;> first | exact Or.inr (by omega) | exact h.elim | exact Or.inl h | (simp only [ftA] at h ⊢; omega)) (fun v H1 locs hpo hfr hS => ?_)
  obtain ⟨rfl, rfl⟩ := hpo
  refine W.widen (k := 0) (n := 0) (Nat.le_of_ble_eq_true rfl) (Nat.le_of_ble_eq_true rfl) ?_
  refine lv_aload_n hx hb dX10_save_4 rfl (lv_at hl 0 rfl) ?_
  refine gf_X10_33 hB hCi.1 rfl dX10_save_5 ?_
  refine lv_iload_n hx hb dX10_save_8 rfl (lv_at hl 1 rfl) ?_
  refine lv_aload_n hx hb dX10_save_9 rfl (lv_at hl 0 rfl) ?_
  refine gf_X10_19 hB hCi.1 rfl dX10_save_10 ?_
  refine cl_X10_278 (As := [.ref (xb + 64), .int (nI k0), .ref (xb + 10)]) (rest := []) hB (cC_sav l g H0 xb lim q n rm sl sv tx ln k0 (⟨D, P, T, Zr, Pr, zt, Pt, nx, hCi⟩) (hk)) rfl hl.1 (Nat.le_of_ble_eq_true rfl) dX10_save_13 ⟨Nat.le_of_ble_eq_true rfl, Nat.le_of_ble_eq_true rfl⟩ ⟨Nat.le_of_ble_eq_true rfl, Nat.le_of_ble_eq_true rfl⟩ hS (by have hz9 := hS.1; rintro q9 (h | h); exact Or.inl h; exact Or.inr (by omega)) (fun v H1 locs hpo hfr hS => ?_)
  obtain ⟨rfl, hC2⟩ := hpo
  generalize H1 = H at hfr hS hC2 ⊢
  refine W.widen (k := 26) (n := 126) (Nat.le_of_ble_eq_true rfl) (Nat.le_of_ble_eq_true rfl) ?_
  clear hD
  obtain ⟨D, P, T, Zr, Pr, zt, Pt, nx, hCi⟩ := hC2
  have hS1 := hCi.2.2.1
  have hPT := hCi.2.2.2.1
  have hD : ∀ q9, xb + 10 ≤ q9 → q9 < xb + 10 + 26 → D q9 := fun q9 h1 h2 => hCi.2.2.2.2.2.2.2.2.2.2.2.2.1 q9 (by omega) (Nat.lt_of_lt_of_le (show q9 < xb + 68 by omega) hCi.2.2.2.2.2.2.2.2.2.2.2.2.2.2.2.2.1)
  refine lv_aload_n hx hb dX10_save_16 rfl (lv_at hl 0 rfl) ?_
  refine gf_X10_19 hB hCi.1 rfl dX10_save_17 ?_
  refine gf_X10_67 hB hS1.o rfl dX10_save_20 ?_
  refine mh_top (y := .int (q 0)) (by rw [zOf_lo (by omega)]) ?_
  refine mh_iret hB ⟨Nat.le_of_ble_eq_true rfl, Nat.le_of_ble_eq_true rfl⟩ hS dX10_save_23 ⟨?_, ?_⟩
  · rfl
  · exact ⟨_, _, _, _, _, _, _, _, hCi⟩

def rm_f_X10_restore : Room := { frames := 4, cells := 0, slots := 0, locals := 88 }
set_option maxRecDepth 100000 in
set_option maxHeartbeats 400000 in
theorem f_X10_restore (l : Launch) (g : GG) (H0 : Heap) (xb : Nat) (lim : Nat) (q : Nat → Int32) (n : Nat) (rm : Nat → Int32) (sl : Nat → Int32) (sv : Nat → Int32) (tx : Nat → Int32) (ln : Nat) (k0 : Nat) (hC : CLS g xb lim q n rm sl sv tx ln H0) (hk : k0 < 2) (hsv : sv k0 = nI 1) : Ct l yX10_restore cX10_restore 3 (some .int) rm_f_X10_restore g [.ref xb, .int (nI k0)] H0 (ftA (CF xb lim) H0.size) (fun v H1 => v = some (.int (sl (866 * k0 + 0))) ∧ CLS g xb lim (row9 sl k0) (0) (rm) (sl) (sv) (tx) (ln) H1) := by
  refine Ct.of (by decide) (fun _ h => Or.inr h) (Nat.le_of_ble_eq_true rfl) ?_
  intro p e s m below meth c ls hB hin hS hH hl
  have hx := hB.x
  have hb := hB.b
  have hl : lv_has ls 3 [(0, .ref xb), (1, .int (nI k0))] := hl
  obtain ⟨D, P, T, Zr, Pr, zt, Pt, nx, hCi⟩ := hC
  have hS1 := hCi.2.2.1
  have hPT := hCi.2.2.2.1
  have hD : ∀ q9, xb + 10 ≤ q9 → q9 < xb + 10 + 26 → D q9 := fun q9 h1 h2 => hCi.2.2.2.2.2.2.2.2.2.2.2.2.1 q9 (by omega) (Nat.lt_of_lt_of_le (show q9 < xb + 68 by omega) hCi.2.2.2.2.2.2.2.2.2.2.2.2.2.2.2.2.1)
  have hW : WF q := hCi.2.2.2.2.2.2.2.2.2.2.2.2.2.2.1
  have hZ : WZ q := hCi.2.2.2.2.2.2.2.2.2.2.2.2.2.2.2.1
  have hnm5 := hW.2.2.1
  have hz0 : (zOf q) 0 = nI (nmQ q) := by rw [zOf_lo (by omega), hW.1]
  obtain ⟨t9, qk, hT8, hlt, hS3, hP3, hWk, hZk, hQk⟩ := hCi.slot hk hsv
  have hlim := hCi.2.2.2.2.2.2.2.2.2.2.2.2.2.2.2.2.1
  refine lv_iload_n hx hb dX10_restore_0 rfl (lv_at hl 1 rfl) ?_
  refine cl_X10_274 (As := [.int (nI k0)]) (rest := []) hB (c_X10_requireSlot l g H0 k0 (hk)) rfl hl.1 (Nat.le_of_ble_eq_true rfl) dX10_restore_1 ⟨Nat.le_of_ble_eq_true rfl, Nat.le_of_ble_eq_true rfl⟩ ⟨Nat.le_of_ble_eq_true rfl, Nat.le_of_ble_eq_true rfl⟩ hS (by have hz9 := hS.1; rintro q (h | h) <;> first | exact Or.inr (by omega) | exact h.elim | exact Or.inl h | (simp only [ftA] at h ⊢; omega)) (fun v H1 locs hpo hfr hS => ?_)
  obtain ⟨rfl, rfl⟩ := hpo
  refine W.widen (k := 0) (n := 0) (Nat.le_of_ble_eq_true rfl) (Nat.le_of_ble_eq_true rfl) ?_
  refine lv_aload_n hx hb dX10_restore_4 rfl (lv_at hl 0 rfl) ?_
  refine gf_X10_33 hB hCi.1 rfl dX10_restore_5 ?_
  refine lv_iload_n hx hb dX10_restore_8 rfl (lv_at hl 1 rfl) ?_
  refine cl_X10_282 (As := [.ref (xb + 64), .int (nI k0)]) (rest := []) hB (c_X8_storedAt l g H0 (xb + 64) 2 (fun k => T (14 + k)) k0 t9 hCi.2.2.2.2.2.2.2.1 (hk) (by first | assumption | omega) (hT8)) rfl hl.1 (Nat.le_of_ble_eq_true rfl) dX10_restore_9 ⟨Nat.le_of_ble_eq_true rfl, Nat.le_of_ble_eq_true rfl⟩ ⟨Nat.le_of_ble_eq_true rfl, Nat.le_of_ble_eq_true rfl⟩ hS (by have hz9 := hS.1; rintro q (h | h) <;> first | exact Or.inr (by omega) | exact h.elim | exact Or.inl h | (simp only [ftA] at h ⊢; omega)) (fun v H1 locs hpo hfr hS => ?_)
  obtain ⟨rfl, rfl⟩ := hpo
  refine W.widen (k := 0) (n := 0) (Nat.le_of_ble_eq_true rfl) (Nat.le_of_ble_eq_true rfl) ?_
  refine lv_astore_n (lv' := [(2, .ref t9), (0, .ref xb), (1, .int (nI k0))]) hx hb dX10_restore_12 rfl hl (by decide) rfl (fun ls hl => ?_)
  refine lv_aload_n hx hb dX10_restore_13 rfl (lv_at hl 0 rfl) ?_
  refine lv_ifnull hx hb dX10_restore_14 ?_
  refine lv_iconst (v := nI 1) hx hb dX10_restore_17 (by decide) ?_
  refine lv_goto (tgt := 22) hx hb dX10_restore_18 (by decide) ?_
  refine cl_X10_52 (As := [.int (nI 1)]) (rest := []) hB (c_X10_requireState l g H0 ) rfl hl.1 (Nat.le_of_ble_eq_true rfl) dX10_restore_22 ⟨Nat.le_of_ble_eq_true rfl, Nat.le_of_ble_eq_true rfl⟩ ⟨Nat.le_of_ble_eq_true rfl, Nat.le_of_ble_eq_true rfl⟩ hS (by have hz9 := hS.1; rintro q (h | h) <;> first | exact Or.inr (by omega) | exact h.elim | exact Or.inl h | (simp only [ftA] at h ⊢; omega)) (fun v H1 locs hpo hfr hS => ?_)
  obtain ⟨rfl, rfl⟩ := hpo
  refine W.widen (k := 0) (n := 0) (Nat.le_of_ble_eq_true rfl) (Nat.le_of_ble_eq_true rfl) ?_
  refine lv_aload_n hx hb dX10_restore_25 rfl (lv_at hl 1 rfl) ?_
  refine gf_X10_19 hB hCi.1 rfl dX10_restore_26 ?_
  refine lv_aload_n hx hb dX10_restore_29 rfl (lv_at hl 0 rfl) ?_
  refine cl_X10_251 (As := [.ref t9]) (rest := []) hB (c_X8_copyFrom l g H0 (xb + 10) (zOf q) P t9 (zOf qk) (Pr (14 + k0)) hS1 hS3 (by omega)) hS1.o rfl hl.1 (Nat.le_of_ble_eq_true rfl) dX10_restore_30 ⟨Nat.le_of_ble_eq_true rfl, Nat.le_of_ble_eq_true rfl⟩ ⟨Nat.le_of_ble_eq_true rfl, Nat.le_of_ble_eq_true rfl⟩ hS (by have hz9 := hS.1; rintro q9 (h | h); exact Or.inl (CF.a (by omega)); exact Or.inr (by omega)) (fun v H1 locs hpo hfr hS => ?_)
  obtain ⟨rfl, hS1⟩ := hpo
  have hCi := hCi.state hfr (hS1.congr (hQk.z hWk) (fun _ _ => rfl)) ((hP3.keptF hfr (fun q9 y => hD q9 y.1 y.2)).qeq hWk hQk) (hQk.wf hWk) (hQk.wz hZk)
  generalize H1 = H at hfr hS hCi hS1 ⊢
  refine W.widen (k := 0) (n := 0) (Nat.le_of_ble_eq_true rfl) (Nat.le_of_ble_eq_true rfl) ?_
  have hS1 := hCi.2.2.1
  have hPT := hCi.2.2.2.1
  refine lv_aload_n hx hb dX10_restore_33 rfl (lv_at hl 1 rfl) ?_
  refine gf_X10_29 hB hCi.1 rfl dX10_restore_34 ?_
  refine cl_X10_286 (As := []) (rest := []) hB (c_X2_forgetAll l g H (xb + 62) nx n T hCi.2.2.2.2.2.1) hCi.2.2.2.2.2.1 rfl hl.1 (Nat.le_of_ble_eq_true rfl) dX10_restore_37 ⟨Nat.le_of_ble_eq_true rfl, Nat.le_of_ble_eq_true rfl⟩ ⟨Nat.le_of_ble_eq_true rfl, Nat.le_of_ble_eq_true rfl⟩ hS (by have hz9 := hS.1; rintro q9 (h | h); exact Or.inl (CF.a (by omega)); exact Or.inr (by omega)) (fun v H1 locs hpo hfr hS => ?_)
  obtain ⟨rfl, hho⟩ := hpo
  have hCi := hCi.rest hfr hho
  generalize H1 = H at hfr hS hCi hho ⊢
  refine W.widen (k := 0) (n := 0) (Nat.le_of_ble_eq_true rfl) (Nat.le_of_ble_eq_true rfl) ?_
  have hS1 := hCi.2.2.1
  have hPT := hCi.2.2.2.1
  refine lv_aload_n hx hb dX10_restore_40 rfl (lv_at hl 1 rfl) ?_
  refine gf_X10_19 hB hCi.1 rfl dX10_restore_41 ?_
  refine gf_X10_67 hB hS1.o rfl dX10_restore_44 ?_
  refine mh_top (y := .int (sl (866 * k0 + 0))) (by rw [zOf_lo (by omega)]; rfl) ?_
  refine mh_iret hB ⟨Nat.le_of_ble_eq_true rfl, Nat.le_of_ble_eq_true rfl⟩ hS dX10_restore_47 ⟨?_, ?_⟩
  · rfl
  · exact ⟨_, _, _, _, _, _, _, _, hCi⟩
