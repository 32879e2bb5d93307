def rm_c_X9_blockInsideAt : Room := { frames := 1, cells := 0, slots := 0, locals := 21 }
set_option maxRecDepth 100000 in
set_option maxHeartbeats 400000 in
theorem c_X9_blockInsideAt (l : Launch) (g : GG) (H0 : Heap) (tb : Nat) (tx : Nat → Int32) (ln : Nat) (wd : Nat → Int32) (ht : Nat → Int32) (fi : Nat → Int32) (la : Nat → Int32) (nx : Nat → Int32) (di : Nat → Int32) (op : Nat → Int32) (oc : Int32) (wh : Int32) (e0 : Nat) (x0 : Nat) (m0 : Nat) (f0 : Nat) (j1 : Nat) (i1 : Nat) (hT : TxAt g tb tx ln wd ht fi la nx di op oc wh H0) (he : e0 < 60) (hx0 : x0 ≤ 16) (hf0 : fi e0 = nI f0) (hI : Ins nx di i1 x0 m0 f0 j1) (hfi : f0 < i1) (hi1 : i1 ≤ 60) : Ct l yX9_blockInsideAt cX9_blockInsideAt 6 (some .int) rm_c_X9_blockInsideAt g [.ref tb, .int (nI e0), .int (nI x0)] H0 (ftA (fun _ => False) H0.size) (fun v H1 => v = some (.int (nI j1)) ∧ H0 = H1) := by
  refine Ct.of (by decide) (fun _ h => Or.inr h) (Nat.le_of_ble_eq_true rfl) ?_
  intro p e s m below meth c ls hB hin hS hH hl
  have hx := hB.x
  have hb := hB.b
  have hl : lv_has ls 6 [(0, .ref tb), (1, .int (nI e0)), (2, .int (nI x0))] := hl
  refine lv_aload_n hx hb dX9_blockInsideAt_0 rfl (lv_at hl 0 rfl) ?_
  refine gf_X9_21 hB hT.1 rfl dX9_blockInsideAt_1 ?_
  refine lv_iload_n hx hb dX9_blockInsideAt_4 rfl (lv_at hl 1 rfl) ?_
  refine cl_X9_56 (As := [.ref (tb + 4), .int (nI e0)]) (rest := []) hB (c_X6_at l g H0 (tb + 4) 60 fi e0 hT.a_fi (he) (by first | assumption | omega)) rfl hl.1 (Nat.le_of_ble_eq_true rfl) dX9_blockInsideAt_5 ⟨Nat.le_of_ble_eq_true rfl, Nat.le_of_ble_eq_true rfl⟩ ⟨Nat.le_of_ble_eq_true rfl, Nat.le_of_ble_eq_true rfl⟩ hS (by have hz9 := hS.1; rintro q (h | h) <;> first | exact Or.inr (by omega) | exact h.elim | exact Or.inl h | (simp only [ftA] at h ⊢; omega)) (fun v H1 locs hpo hfr hS => ?_)
  obtain ⟨rfl, rfl⟩ := hpo
  refine W.widen (k := 0) (n := 0) (Nat.le_of_ble_eq_true rfl) (Nat.le_of_ble_eq_true rfl) ?_
  refine mh_top (y := .int (nI f0)) (by rw [hf0]) ?_
  refine lv_istore_n (lv' := [(3, .int (nI f0)), (0, .ref tb), (1, .int (nI e0)), (2, .int (nI x0))]) hx hb dX9_blockInsideAt_8 rfl hl (by decide) rfl (fun ls hl => ?_)
  refine lv_iconst (v := nI 0) hx hb dX9_blockInsideAt_9 (by decide) ?_
  refine lv_istore (lv' := [(4, .int (nI 0)), (3, .int (nI f0)), (0, .ref tb), (1, .int (nI e0)), (2, .int (nI x0))]) hx hb dX9_blockInsideAt_10 hl (by decide) rfl (fun ls hl => ?_)
  refine mh_loopR (σ := Nat × Nat × Nat) (fun xx9 locs ls => match xx9 with | (k9, f9, m9) => Ins nx di i1 x0 m9 f9 j1 ∧ f9 < i1 ∧ k9 ≤ f9 ∧ va_S (ftA (fun _ => False) H0.size) H0 H0 locs ∧ lv_has ls 6 [(0, .ref tb), (1, .int (nI e0)), (2, .int (nI x0)), (3, .int (nI f9)), (4, .int (nI k9))]) (fun xx9 => match xx9 with | (k9, f9, m9) => m9) ?_ (0, f0, m0) ⟨(hI), (hfi), (Nat.zero_le _), hS, lv_sub hl [2, 3, 4, 1, 0] rfl⟩
  rintro ⟨k9, f9, m9⟩ locs ls ⟨hIi, hf9, hk9, hS, hl⟩ ih
  have ih12 := ih
  refine lv_iload hx hb dX9_blockInsideAt_12 (lv_at hl 4 rfl) ?_
  refine lv_bipush (v := nI 60) hx hb dX9_blockInsideAt_14 (by decide) ?_
  refine mn_icmp_ge (tgt := 60) hB dX9_blockInsideAt_16 (by decide) (by omega) (by omega) (fun h => by exfalso; omega) (fun h_16 => ?_)
  rcases m9 with _ | m9
  · skip
    obtain ⟨hfj, h9 | ⟨f2, d2, y1, y2, y3, y4, y5, y6⟩⟩ := hIi
    · skip
      refine lv_aload_n hx hb dX9_blockInsideAt_19 rfl (lv_at hl 0 rfl) ?_
      refine gf_X9_27 hB hT.1 rfl dX9_blockInsideAt_20 ?_
      refine lv_iload_n hx hb dX9_blockInsideAt_23 rfl (lv_at hl 3 rfl) ?_
      refine cl_X9_56 (As := [.ref (tb + 6), .int (nI f9)]) (rest := []) hB (c_X6_at l g H0 (tb + 6) 60 nx f9 hT.a_nx (by omega) (by first | assumption | omega)) rfl hl.1 (Nat.le_of_ble_eq_true rfl) dX9_blockInsideAt_24 ⟨Nat.le_of_ble_eq_true rfl, Nat.le_of_ble_eq_true rfl⟩ ⟨Nat.le_of_ble_eq_true rfl, Nat.le_of_ble_eq_true rfl⟩ hS (by have hz9 := hS.1; rintro q (h | h) <;> first | exact Or.inr (by omega) | exact h.elim | exact Or.inl h | (simp only [ftA] at h ⊢; omega)) (fun v H1 locs hpo hfr hS => ?_)
      obtain ⟨rfl, rfl⟩ := hpo
      refine W.widen (k := 0) (n := 0) (Nat.le_of_ble_eq_true rfl) (Nat.le_of_ble_eq_true rfl) ?_
      refine mh_top (y := .int (-9)) (by rw [h9]) ?_
      refine lv_istore (lv' := [(5, .int (-9)), (0, .ref tb), (1, .int (nI e0)), (2, .int (nI x0)), (3, .int (nI f9)), (4, .int (nI k9))]) hx hb dX9_blockInsideAt_27 hl (by decide) rfl (fun ls hl => ?_)
      refine lv_iload hx hb dX9_blockInsideAt_29 (lv_at hl 0 rfl) ?_
      refine lv_bipush (v := (-9)) hx hb dX9_blockInsideAt_31 (by decide) ?_
      refine lv_icmp_eq (tgt := 49) hx hb dX9_blockInsideAt_33 (by decide) (fun h_33 => ?_) (fun h => absurd rfl h)
      refine lv_iload_n hx hb dX9_blockInsideAt_49 rfl (lv_at hl 4 rfl) ?_
      refine mh_iret hB ⟨Nat.le_of_ble_eq_true rfl, Nat.le_of_ble_eq_true rfl⟩ hS dX9_blockInsideAt_50 ⟨?_, rfl⟩
      · rw [hfj]
    · skip
      refine lv_aload_n hx hb dX9_blockInsideAt_19 rfl (lv_at hl 0 rfl) ?_
      refine gf_X9_27 hB hT.1 rfl dX9_blockInsideAt_20 ?_
      refine lv_iload_n hx hb dX9_blockInsideAt_23 rfl (lv_at hl 3 rfl) ?_
      refine cl_X9_56 (As := [.ref (tb + 6), .int (nI f9)]) (rest := []) hB (c_X6_at l g H0 (tb + 6) 60 nx f9 hT.a_nx (by omega) (by first | assumption | omega)) rfl hl.1 (Nat.le_of_ble_eq_true rfl) dX9_blockInsideAt_24 ⟨Nat.le_of_ble_eq_true rfl, Nat.le_of_ble_eq_true rfl⟩ ⟨Nat.le_of_ble_eq_true rfl, Nat.le_of_ble_eq_true rfl⟩ hS (by have hz9 := hS.1; rintro q (h | h) <;> first | exact Or.inr (by omega) | exact h.elim | exact Or.inl h | (simp only [ftA] at h ⊢; omega)) (fun v H1 locs hpo hfr hS => ?_)
      obtain ⟨rfl, rfl⟩ := hpo
      refine W.widen (k := 0) (n := 0) (Nat.le_of_ble_eq_true rfl) (Nat.le_of_ble_eq_true rfl) ?_
      refine mh_top (y := .int (nI f2)) (by rw [y1]) ?_
      refine lv_istore (lv' := [(5, .int (nI f2)), (0, .ref tb), (1, .int (nI e0)), (2, .int (nI x0)), (3, .int (nI f9)), (4, .int (nI k9))]) hx hb dX9_blockInsideAt_27 hl (by decide) rfl (fun ls hl => ?_)
      refine lv_iload hx hb dX9_blockInsideAt_29 (lv_at hl 0 rfl) ?_
      refine lv_bipush (v := (-9)) hx hb dX9_blockInsideAt_31 (by decide) ?_
      refine lv_icmp_eq (tgt := 49) hx hb dX9_blockInsideAt_33 (by decide) (fun h => absurd h (nI_ne9 (by omega))) (fun h_33 => ?_)
      refine lv_aload_n hx hb dX9_blockInsideAt_36 rfl (lv_at hl 1 rfl) ?_
      refine gf_X9_30 hB hT.1 rfl dX9_blockInsideAt_37 ?_
      refine lv_iload hx hb dX9_blockInsideAt_40 (lv_at hl 0 rfl) ?_
      refine cl_X9_56 (As := [.ref (tb + 7), .int (nI f2)]) (rest := []) hB (c_X6_at l g H0 (tb + 7) 60 di f2 hT.a_di (by omega) (by first | assumption | omega)) rfl hl.1 (Nat.le_of_ble_eq_true rfl) dX9_blockInsideAt_42 ⟨Nat.le_of_ble_eq_true rfl, Nat.le_of_ble_eq_true rfl⟩ ⟨Nat.le_of_ble_eq_true rfl, Nat.le_of_ble_eq_true rfl⟩ hS (by have hz9 := hS.1; rintro q (h | h) <;> first | exact Or.inr (by omega) | exact h.elim | exact Or.inl h | (simp only [ftA] at h ⊢; omega)) (fun v H1 locs hpo hfr hS => ?_)
      obtain ⟨rfl, rfl⟩ := hpo
      refine W.widen (k := 0) (n := 0) (Nat.le_of_ble_eq_true rfl) (Nat.le_of_ble_eq_true rfl) ?_
      refine mh_top (y := .int (nI d2)) (by rw [y4]) ?_
      refine lv_iload_n hx hb dX9_blockInsideAt_45 rfl (lv_at hl 3 rfl) ?_
      refine mn_icmp_le (tgt := 51) hB dX9_blockInsideAt_46 (by decide) (by omega) (by omega) (fun h => by exfalso; omega) (fun h_46 => ?_)
      refine lv_iload_n hx hb dX9_blockInsideAt_49 rfl (lv_at hl 4 rfl) ?_
      refine mh_iret hB ⟨Nat.le_of_ble_eq_true rfl, Nat.le_of_ble_eq_true rfl⟩ hS dX9_blockInsideAt_50 ⟨?_, rfl⟩
      · rw [hfj]
  · skip
    obtain ⟨f2, d2, y1, y2, y3, y4, y6, y7⟩ := hIi
    have y5 : d2 ≤ 16 := by omega
    refine lv_aload_n hx hb dX9_blockInsideAt_19 rfl (lv_at hl 0 rfl) ?_
    refine gf_X9_27 hB hT.1 rfl dX9_blockInsideAt_20 ?_
    refine lv_iload_n hx hb dX9_blockInsideAt_23 rfl (lv_at hl 3 rfl) ?_
    refine cl_X9_56 (As := [.ref (tb + 6), .int (nI f9)]) (rest := []) hB (c_X6_at l g H0 (tb + 6) 60 nx f9 hT.a_nx (by omega) (by first | assumption | omega)) rfl hl.1 (Nat.le_of_ble_eq_true rfl) dX9_blockInsideAt_24 ⟨Nat.le_of_ble_eq_true rfl, Nat.le_of_ble_eq_true rfl⟩ ⟨Nat.le_of_ble_eq_true rfl, Nat.le_of_ble_eq_true rfl⟩ hS (by have hz9 := hS.1; rintro q (h | h) <;> first | exact Or.inr (by omega) | exact h.elim | exact Or.inl h | (simp only [ftA] at h ⊢; omega)) (fun v H1 locs hpo hfr hS => ?_)
    obtain ⟨rfl, rfl⟩ := hpo
    refine W.widen (k := 0) (n := 0) (Nat.le_of_ble_eq_true rfl) (Nat.le_of_ble_eq_true rfl) ?_
    refine mh_top (y := .int (nI f2)) (by rw [y1]) ?_
    refine lv_istore (lv' := [(5, .int (nI f2)), (0, .ref tb), (1, .int (nI e0)), (2, .int (nI x0)), (3, .int (nI f9)), (4, .int (nI k9))]) hx hb dX9_blockInsideAt_27 hl (by decide) rfl (fun ls hl => ?_)
    refine lv_iload hx hb dX9_blockInsideAt_29 (lv_at hl 0 rfl) ?_
    refine lv_bipush (v := (-9)) hx hb dX9_blockInsideAt_31 (by decide) ?_
    refine lv_icmp_eq (tgt := 49) hx hb dX9_blockInsideAt_33 (by decide) (fun h => absurd h (nI_ne9 (by omega))) (fun h_33 => ?_)
    refine lv_aload_n hx hb dX9_blockInsideAt_36 rfl (lv_at hl 1 rfl) ?_
    refine gf_X9_30 hB hT.1 rfl dX9_blockInsideAt_37 ?_
    refine lv_iload hx hb dX9_blockInsideAt_40 (lv_at hl 0 rfl) ?_
    refine cl_X9_56 (As := [.ref (tb + 7), .int (nI f2)]) (rest := []) hB (c_X6_at l g H0 (tb + 7) 60 di f2 hT.a_di (by omega) (by first | assumption | omega)) rfl hl.1 (Nat.le_of_ble_eq_true rfl) dX9_blockInsideAt_42 ⟨Nat.le_of_ble_eq_true rfl, Nat.le_of_ble_eq_true rfl⟩ ⟨Nat.le_of_ble_eq_true rfl, Nat.le_of_ble_eq_true rfl⟩ hS (by have hz9 := hS.1; rintro q (h | h) <;> first | exact Or.inr (by omega) | exact h.elim | exact Or.inl h | (simp only [ftA] at h ⊢; omega)) (fun v H1 locs hpo hfr hS => ?_)
    obtain ⟨rfl, rfl⟩ := hpo
    refine W.widen (k := 0) (n := 0) (Nat.le_of_ble_eq_true rfl) (Nat.le_of_ble_eq_true rfl) ?_
    refine mh_top (y := .int (nI d2)) (by rw [y4]) ?_
    refine lv_iload_n hx hb dX9_blockInsideAt_45 rfl (lv_at hl 3 rfl) ?_
    refine mn_icmp_le (tgt := 51) hB dX9_blockInsideAt_46 (by decide) (by omega) (by omega) (fun h_46 => ?_) (fun h => by exfalso; omega)
    refine lv_iload hx hb dX9_blockInsideAt_51 (lv_at hl 0 rfl) ?_
    refine lv_istore_n (lv' := [(3, .int (nI f2)), (5, .int (nI f2)), (0, .ref tb), (1, .int (nI e0)), (2, .int (nI x0)), (4, .int (nI k9))]) hx hb dX9_blockInsideAt_53 rfl hl (by decide) rfl (fun ls hl => ?_)
    refine lv_iinc (v := nI (k9 + 1)) (lv' := [(4, .int (nI (k9 + 1))), (3, .int (nI f2)), (5, .int (nI f2)), (0, .ref tb), (1, .int (nI e0)), (2, .int (nI x0))]) hx hb dX9_blockInsideAt_54 hl (k := 5) rfl (nI_1 _) (by decide) rfl (fun ls hl => ?_)
    refine lv_goto (tgt := 12) hx hb dX9_blockInsideAt_57 (by decide) ?_
    refine ih12 (k9 + 1, f2, m9) _ _ ⟨(y7), (y3), (by omega), hS, lv_sub hl [3, 4, 5, 1, 0] rfl⟩ (by dsimp only; omega)

def rm_c_X9_colourOfWhole : Room := { frames := 2, cells := 0, slots := 0, locals := 46 }
set_option maxRecDepth 100000 in
set_option maxHeartbeats 400000 in
theorem c_X9_colourOfWhole (l : Launch) (g : GG) (H0 : Heap) (tb : Nat) (tx : Nat → Int32) (ln : Nat) (wd : Nat → Int32) (ht : Nat → Int32) (fi : Nat → Int32) (la : Nat → Int32) (nx : Nat → Int32) (di : Nat → Int32) (op : Nat → Int32) (oc : Int32) (wh : Int32) (tc : Nat → Nat) (j0 : Nat) (i2 : Nat) (b0 : Nat) (b1 : Nat) (b2 : Nat → Nat) (x0 : Nat) (y0 : Nat) (hT : TxAt g tb tx ln wd ht fi la nx di op oc wh H0) (htc : ∀ j, j < i2 → tx j = nI (tc j) ∧ tc j < 256) (hj0 : j0 < 60) (hwh : wh = nI j0) (hDn : Den tc fi nx di wd ht (60 - j0) j0 i2 (b0, b1, b2)) (hx0 : x0 < b0) (hy0 : y0 < b1) : Ct l yX9_colourOfWhole cX9_colourOfWhole 10 (some .int) rm_c_X9_colourOfWhole g [.ref tb, .int (nI x0), .int (nI y0)] H0 (ftA (fun _ => False) H0.size) (fun v H1 => v = some (.int (nI (b2 (y0 * b0 + x0)))) ∧ H0 = H1) := by
  refine Ct.of (by decide) (fun _ h => Or.inr h) (Nat.le_of_ble_eq_true rfl) ?_
  intro p e s m below meth c ls hB hin hS hH hl
  have hx := hB.x
  have hb := hB.b
  have hl : lv_has ls 10 [(0, .ref tb), (1, .int (nI x0)), (2, .int (nI y0))] := hl
  refine lv_iload_n hx hb dX9_colourOfWhole_0 rfl (lv_at hl 1 rfl) ?_
  refine lv_istore_n (lv' := [(3, .int (nI x0)), (0, .ref tb), (1, .int (nI x0)), (2, .int (nI y0))]) hx hb dX9_colourOfWhole_1 rfl hl (by decide) rfl (fun ls hl => ?_)
  refine lv_iload_n hx hb dX9_colourOfWhole_2 rfl (lv_at hl 3 rfl) ?_
  refine lv_istore (lv' := [(4, .int (nI y0)), (3, .int (nI x0)), (0, .ref tb), (1, .int (nI x0)), (2, .int (nI y0))]) hx hb dX9_colourOfWhole_3 hl (by decide) rfl (fun ls hl => ?_)
  refine lv_aload_n hx hb dX9_colourOfWhole_5 rfl (lv_at hl 2 rfl) ?_
  refine gf_X9_36 hB hT.1 rfl dX9_colourOfWhole_6 ?_
  refine mh_top (y := .int (nI j0)) (by rw [hwh]) ?_
  refine lv_istore (lv' := [(5, .int (nI j0)), (4, .int (nI y0)), (3, .int (nI x0)), (0, .ref tb), (1, .int (nI x0)), (2, .int (nI y0))]) hx hb dX9_colourOfWhole_9 hl (by decide) rfl (fun ls hl => ?_)
  refine lv_iconst (v := nI 0) hx hb dX9_colourOfWhole_11 (by decide) ?_
  refine lv_istore (lv' := [(6, .int (nI 0)), (5, .int (nI j0)), (4, .int (nI y0)), (3, .int (nI x0)), (0, .ref tb), (1, .int (nI x0)), (2, .int (nI y0))]) hx hb dX9_colourOfWhole_12 hl (by decide) rfl (fun ls hl => ?_)
  refine mh_loopR (σ := Nat × Nat × Nat × Nat × Nat × Nat × (Nat → Nat) × Nat × Nat) (fun xx9 locs ls => match xx9 with | (kk, k9, j, ij, w, h, c, x, y) => Den tc fi nx di wd ht kk j ij (w, h, c) ∧ ij ≤ i2 ∧ x < w ∧ y < h ∧ c (y * w + x) = b2 (y0 * b0 + x0) ∧ k9 + kk ≤ 60 ∧ va_S (ftA (fun _ => False) H0.size) H0 H0 locs ∧ lv_has ls 10 [(0, .ref tb), (3, .int (nI x)), (4, .int (nI y)), (5, .int (nI j)), (6, .int (nI k9))]) (fun xx9 => match xx9 with | (kk, k9, j, ij, w, h, c, x, y) => kk) ?_ (60 - j0, 0, j0, i2, b0, b1, b2, x0, y0) ⟨(hDn), (Nat.le_refl _), (hx0), (hy0), (rfl), (by omega), hS, lv_sub hl [4, 3, 2, 1, 0] rfl⟩
  rintro ⟨kk, k9, j, ij, w, h, c, x, y⟩ locs ls ⟨hDi, hij, hx9, hy9, hc9, hk9, hS, hl⟩ ih
  have ih14 := ih
  refine lv_iload hx hb dX9_colourOfWhole_14 (lv_at hl 4 rfl) ?_
  rcases kk with _ | kk
  · skip
    exact hDi.elim
  · skip
    obtain ⟨d1, d2, d3, d4, d5, d6⟩ := hDi
    obtain ⟨e1, e2, e3, e4, e5⟩ := d5
    dsimp only at d3 d4 e1 e2 e3 e4 e5
    have htj := htc j (by omega)
    refine lv_bipush (v := nI 60) hx hb dX9_colourOfWhole_16 (by decide) ?_
    refine mn_icmp_ge (tgt := 213) hB dX9_colourOfWhole_18 (by decide) (by omega) (by omega) (fun h => by exfalso; omega) (fun h_18 => ?_)
    rcases d6 with ⟨l1, l2, l3⟩ | ⟨g1, f0, b8, g2, g3, g4, g5, g6⟩ | ⟨g1, f0, g2, g3, g4, g5⟩
    · skip
      have hce : c = fun _ => tc j - 97 := congrArg (fun z9 => z9.2.2) l3
      refine lv_aload_n hx hb dX9_colourOfWhole_21 rfl (lv_at hl 0 rfl) ?_
      refine gf_X9_9 hB hT.1 rfl dX9_colourOfWhole_22 ?_
      refine lv_iload hx hb dX9_colourOfWhole_25 (lv_at hl 3 rfl) ?_
      refine cl_X9_56 (As := [.ref (tb + 1), .int (nI j)]) (rest := []) hB (c_X6_at l g H0 (tb + 1) 60 tx j hT.a_tx (by omega) (by first | assumption | omega)) rfl hl.1 (Nat.le_of_ble_eq_true rfl) dX9_colourOfWhole_27 ⟨Nat.le_of_ble_eq_true rfl, Nat.le_of_ble_eq_true rfl⟩ ⟨Nat.le_of_ble_eq_true rfl, Nat.le_of_ble_eq_true rfl⟩ hS (by have hz9 := hS.1; rintro q (h | h) <;> first | exact Or.inr (by omega) | exact h.elim | exact Or.inl h | (simp only [ftA] at h ⊢; omega)) (fun v H1 locs hpo hfr hS => ?_)
      obtain ⟨rfl, rfl⟩ := hpo
      refine W.widen (k := 0) (n := 0) (Nat.le_of_ble_eq_true rfl) (Nat.le_of_ble_eq_true rfl) ?_
      refine mh_top (y := .int (nI (tc j))) (by rw [htj.1]) ?_
      refine lv_istore (lv' := [(7, .int (nI (tc j))), (0, .ref tb), (3, .int (nI x)), (4, .int (nI y)), (5, .int (nI j)), (6, .int (nI k9))]) hx hb dX9_colourOfWhole_30 hl (by decide) rfl (fun ls hl => ?_)
      refine lv_iload hx hb dX9_colourOfWhole_32 (lv_at hl 0 rfl) ?_
      refine cl_X9_69 (As := [.int (nI (tc j))]) (rest := []) hB (c_X9_isColour l g H0 (tc j) (htj.2)) rfl hl.1 (Nat.le_of_ble_eq_true rfl) dX9_colourOfWhole_34 ⟨Nat.le_of_ble_eq_true rfl, Nat.le_of_ble_eq_true rfl⟩ ⟨Nat.le_of_ble_eq_true rfl, Nat.le_of_ble_eq_true rfl⟩ hS (by have hz9 := hS.1; rintro q (h | h) <;> first | exact Or.inr (by omega) | exact h.elim | exact Or.inl h | (simp only [ftA] at h ⊢; omega)) (fun v H1 locs hpo hfr hS => ?_)
      obtain ⟨rfl, rfl⟩ := hpo
      refine W.widen (k := 0) (n := 0) (Nat.le_of_ble_eq_true rfl) (Nat.le_of_ble_eq_true rfl) ?_
      refine mb_if_eq (tgt := 46) hB dX9_colourOfWhole_37 (by decide) (fun h => absurd ⟨l1, l2⟩ (of_decide_eq_false h)) (fun h_37 => ?_)
      refine lv_iload hx hb dX9_colourOfWhole_40 (lv_at hl 0 rfl) ?_
      refine lv_bipush (v := nI 97) hx hb dX9_colourOfWhole_42 (by decide) ?_
      refine mn_isub hB dX9_colourOfWhole_44 (by omega) ?_
      refine mh_iret hB ⟨Nat.le_of_ble_eq_true rfl, Nat.le_of_ble_eq_true rfl⟩ hS dX9_colourOfWhole_45 ⟨?_, rfl⟩
      · rw [← hc9, hce]
    · skip
      obtain ⟨r1, r2, r3, r4, r5⟩ := g5.lt
      obtain ⟨s1, s2, s3, s4, s5⟩ := r5
      refine lv_aload_n hx hb dX9_colourOfWhole_21 rfl (lv_at hl 0 rfl) ?_
      refine gf_X9_9 hB hT.1 rfl dX9_colourOfWhole_22 ?_
      refine lv_iload hx hb dX9_colourOfWhole_25 (lv_at hl 3 rfl) ?_
      refine cl_X9_56 (As := [.ref (tb + 1), .int (nI j)]) (rest := []) hB (c_X6_at l g H0 (tb + 1) 60 tx j hT.a_tx (by omega) (by first | assumption | omega)) rfl hl.1 (Nat.le_of_ble_eq_true rfl) dX9_colourOfWhole_27 ⟨Nat.le_of_ble_eq_true rfl, Nat.le_of_ble_eq_true rfl⟩ ⟨Nat.le_of_ble_eq_true rfl, Nat.le_of_ble_eq_true rfl⟩ hS (by have hz9 := hS.1; rintro q (h | h) <;> first | exact Or.inr (by omega) | exact h.elim | exact Or.inl h | (simp only [ftA] at h ⊢; omega)) (fun v H1 locs hpo hfr hS => ?_)
      obtain ⟨rfl, rfl⟩ := hpo
      refine W.widen (k := 0) (n := 0) (Nat.le_of_ble_eq_true rfl) (Nat.le_of_ble_eq_true rfl) ?_
      refine mh_top (y := .int (nI (tc j))) (by rw [htj.1]) ?_
      refine lv_istore (lv' := [(7, .int (nI (tc j))), (0, .ref tb), (3, .int (nI x)), (4, .int (nI y)), (5, .int (nI j)), (6, .int (nI k9))]) hx hb dX9_colourOfWhole_30 hl (by decide) rfl (fun ls hl => ?_)
      refine lv_iload hx hb dX9_colourOfWhole_32 (lv_at hl 0 rfl) ?_
      refine cl_X9_69 (As := [.int (nI (tc j))]) (rest := []) hB (c_X9_isColour l g H0 (tc j) (htj.2)) rfl hl.1 (Nat.le_of_ble_eq_true rfl) dX9_colourOfWhole_34 ⟨Nat.le_of_ble_eq_true rfl, Nat.le_of_ble_eq_true rfl⟩ ⟨Nat.le_of_ble_eq_true rfl, Nat.le_of_ble_eq_true rfl⟩ hS (by have hz9 := hS.1; rintro q (h | h) <;> first | exact Or.inr (by omega) | exact h.elim | exact Or.inl h | (simp only [ftA] at h ⊢; omega)) (fun v H1 locs hpo hfr hS => ?_)
      obtain ⟨rfl, rfl⟩ := hpo
      refine W.widen (k := 0) (n := 0) (Nat.le_of_ble_eq_true rfl) (Nat.le_of_ble_eq_true rfl) ?_
      refine mb_if_eq (tgt := 46) hB dX9_colourOfWhole_37 (by decide) (fun h_37 => ?_) (fun h => by have h9 := of_decide_eq_true h; exfalso; omega)
      refine lv_aload_n hx hb dX9_colourOfWhole_46 rfl (lv_at hl 1 rfl) ?_
      refine gf_X9_21 hB hT.1 rfl dX9_colourOfWhole_47 ?_
      refine lv_iload hx hb dX9_colourOfWhole_50 (lv_at hl 4 rfl) ?_
      refine cl_X9_56 (As := [.ref (tb + 4), .int (nI j)]) (rest := []) hB (c_X6_at l g H0 (tb + 4) 60 fi j hT.a_fi (by omega) (by first | assumption | omega)) rfl hl.1 (Nat.le_of_ble_eq_true rfl) dX9_colourOfWhole_52 ⟨Nat.le_of_ble_eq_true rfl, Nat.le_of_ble_eq_true rfl⟩ ⟨Nat.le_of_ble_eq_true rfl, Nat.le_of_ble_eq_true rfl⟩ hS (by have hz9 := hS.1; rintro q (h | h) <;> first | exact Or.inr (by omega) | exact h.elim | exact Or.inl h | (simp only [ftA] at h ⊢; omega)) (fun v H1 locs hpo hfr hS => ?_)
      obtain ⟨rfl, rfl⟩ := hpo
      refine W.widen (k := 0) (n := 0) (Nat.le_of_ble_eq_true rfl) (Nat.le_of_ble_eq_true rfl) ?_
      refine mh_top (y := .int (nI f0)) (by rw [g2]) ?_
      refine lv_istore (lv' := [(8, .int (nI f0)), (7, .int (nI (tc j))), (0, .ref tb), (3, .int (nI x)), (4, .int (nI y)), (5, .int (nI j)), (6, .int (nI k9))]) hx hb dX9_colourOfWhole_55 hl (by decide) rfl (fun ls hl => ?_)
      refine lv_iload hx hb dX9_colourOfWhole_57 (lv_at hl 1 rfl) ?_
      refine lv_bipush (v := nI 40) hx hb dX9_colourOfWhole_59 (by decide) ?_
      refine mn_icmp_ne (tgt := 88) hB dX9_colourOfWhole_61 (by decide) (by omega) (by omega) (fun h_61 => ?_) (fun h => by exfalso; omega)
      refine lv_iload hx hb dX9_colourOfWhole_88 (lv_at hl 1 rfl) ?_
      refine lv_bipush (v := nI 91) hx hb dX9_colourOfWhole_90 (by decide) ?_
      refine mn_icmp_ne (tgt := 122) hB dX9_colourOfWhole_92 (by decide) (by omega) (by omega) (fun h_92 => ?_) (fun h => by exfalso; omega)
      refine lv_iload hx hb dX9_colourOfWhole_122 (lv_at hl 1 rfl) ?_
      refine lv_bipush (v := nI 60) hx hb dX9_colourOfWhole_124 (by decide) ?_
      refine mn_icmp_ne (tgt := 146) hB dX9_colourOfWhole_126 (by decide) (by omega) (by omega) (fun h_126 => ?_) (fun h_126 => ?_)
      · skip
        refine lv_iload hx hb dX9_colourOfWhole_146 (lv_at hl 1 rfl) ?_
        refine lv_bipush (v := nI 94) hx hb dX9_colourOfWhole_148 (by decide) ?_
        refine mn_icmp_ne (tgt := 178) hB dX9_colourOfWhole_150 (by decide) (by omega) (by omega) (fun h_150 => ?_) (fun h_150 => ?_)
        · skip
          obtain ⟨q2, q3⟩ := appl_n (by omega) (by omega) g6
          have hDn9 : Den tc fi nx di wd ht kk f0 ij (b8.1, b8.2.1, b8.2.2) := g5
          have hxn : x % b8.1 < b8.1 := Nat.mod_lt _ s1
          have hyn : y < b8.2.1 := by omega
          have hcn := (q3 x y hx9).symm
          refine lv_aload_n hx hb dX9_colourOfWhole_178 rfl (lv_at hl 2 rfl) ?_
          refine gf_X9_15 hB hT.1 rfl dX9_colourOfWhole_179 ?_
          refine lv_iload hx hb dX9_colourOfWhole_182 (lv_at hl 0 rfl) ?_
          refine cl_X9_56 (As := [.ref (tb + 2), .int (nI f0)]) (rest := []) hB (c_X6_at l g H0 (tb + 2) 60 wd f0 hT.a_wd (by omega) (by first | assumption | omega)) rfl hl.1 (Nat.le_of_ble_eq_true rfl) dX9_colourOfWhole_184 ⟨Nat.le_of_ble_eq_true rfl, Nat.le_of_ble_eq_true rfl⟩ ⟨Nat.le_of_ble_eq_true rfl, Nat.le_of_ble_eq_true rfl⟩ hS (by have hz9 := hS.1; rintro q (h | h) <;> first | exact Or.inr (by omega) | exact h.elim | exact Or.inl h | (simp only [ftA] at h ⊢; omega)) (fun v H1 locs hpo hfr hS => ?_)
          obtain ⟨rfl, rfl⟩ := hpo
          refine W.widen (k := 0) (n := 0) (Nat.le_of_ble_eq_true rfl) (Nat.le_of_ble_eq_true rfl) ?_
          refine mh_top (y := .int (nI b8.1)) (by rw [r3]) ?_
          refine lv_istore (lv' := [(9, .int (nI b8.1)), (8, .int (nI f0)), (7, .int (nI (tc j))), (0, .ref tb), (3, .int (nI x)), (4, .int (nI y)), (5, .int (nI j)), (6, .int (nI k9))]) hx hb dX9_colourOfWhole_187 hl (by decide) rfl (fun ls hl => ?_)
          refine lv_iload hx hb dX9_colourOfWhole_189 (lv_at hl 0 rfl) ?_
          refine mn_if_le (tgt := 201) hB dX9_colourOfWhole_191 (by decide) (by omega) (fun h => by exfalso; omega) (fun h_191 => ?_)
          refine lv_iload_n hx hb dX9_colourOfWhole_194 rfl (lv_at hl 4 rfl) ?_
          refine lv_iload hx hb dX9_colourOfWhole_195 (lv_at hl 0 rfl) ?_
          refine mn_irem hB dX9_colourOfWhole_197 (by omega) (by omega) (by omega) ?_
          refine lv_goto (tgt := 202) hx hb dX9_colourOfWhole_198 (by decide) ?_
          refine lv_istore_n (lv' := [(3, .int (nI (x % b8.1))), (9, .int (nI b8.1)), (8, .int (nI f0)), (7, .int (nI (tc j))), (0, .ref tb), (4, .int (nI y)), (5, .int (nI j)), (6, .int (nI k9))]) hx hb dX9_colourOfWhole_202 rfl hl (by decide) rfl (fun ls hl => ?_)
          refine lv_iload hx hb dX9_colourOfWhole_203 (lv_at hl 2 rfl) ?_
          refine lv_istore (lv' := [(5, .int (nI f0)), (3, .int (nI (x % b8.1))), (9, .int (nI b8.1)), (8, .int (nI f0)), (7, .int (nI (tc j))), (0, .ref tb), (4, .int (nI y)), (6, .int (nI k9))]) hx hb dX9_colourOfWhole_205 hl (by decide) rfl (fun ls hl => ?_)
          refine lv_iinc (v := nI (k9 + 1)) (lv' := [(6, .int (nI (k9 + 1))), (5, .int (nI f0)), (3, .int (nI (x % b8.1))), (9, .int (nI b8.1)), (8, .int (nI f0)), (7, .int (nI (tc j))), (0, .ref tb), (4, .int (nI y))]) hx hb dX9_colourOfWhole_207 hl (k := 7) rfl (nI_1 _) (by decide) rfl (fun ls hl => ?_)
          refine lv_goto (tgt := 14) hx hb dX9_colourOfWhole_210 (by decide) ?_
          refine ih14 (kk, k9 + 1, f0, ij, b8.1, b8.2.1, b8.2.2, x % b8.1, y) _ _ ⟨(hDn9), (by omega), (hxn), (hyn), (hcn.trans hc9), (by omega), hS, lv_sub hl [6, 2, 7, 1, 0] rfl⟩ (by dsimp only; omega)
        · skip
          have z94 : tc j = 94 := by omega
          rw [z94] at g6
          obtain ⟨q1, q2, q3⟩ := appl_94 g6
          have hDn9 : Den tc fi nx di wd ht kk f0 ij (b8.1, b8.2.1, b8.2.2) := g5
          have hxn : y < b8.1 := by omega
          have hyn : b8.2.1 - 1 - x < b8.2.1 := by omega
          have hcn := (q3 x y hx9).symm
          refine lv_iload_n hx hb dX9_colourOfWhole_153 rfl (lv_at hl 3 rfl) ?_
          refine lv_istore (lv' := [(9, .int (nI x)), (8, .int (nI f0)), (7, .int (nI (tc j))), (0, .ref tb), (3, .int (nI x)), (4, .int (nI y)), (5, .int (nI j)), (6, .int (nI k9))]) hx hb dX9_colourOfWhole_154 hl (by decide) rfl (fun ls hl => ?_)
          refine lv_iload hx hb dX9_colourOfWhole_156 (lv_at hl 5 rfl) ?_
          refine lv_istore_n (lv' := [(3, .int (nI y)), (9, .int (nI x)), (8, .int (nI f0)), (7, .int (nI (tc j))), (0, .ref tb), (4, .int (nI y)), (5, .int (nI j)), (6, .int (nI k9))]) hx hb dX9_colourOfWhole_158 rfl hl (by decide) rfl (fun ls hl => ?_)
          refine lv_aload_n hx hb dX9_colourOfWhole_159 rfl (lv_at hl 4 rfl) ?_
          refine gf_X9_18 hB hT.1 rfl dX9_colourOfWhole_160 ?_
          refine lv_iload hx hb dX9_colourOfWhole_163 (lv_at hl 2 rfl) ?_
          refine cl_X9_56 (As := [.ref (tb + 3), .int (nI f0)]) (rest := []) hB (c_X6_at l g H0 (tb + 3) 60 ht f0 hT.a_ht (by omega) (by first | assumption | omega)) rfl hl.1 (Nat.le_of_ble_eq_true rfl) dX9_colourOfWhole_165 ⟨Nat.le_of_ble_eq_true rfl, Nat.le_of_ble_eq_true rfl⟩ ⟨Nat.le_of_ble_eq_true rfl, Nat.le_of_ble_eq_true rfl⟩ hS (by have hz9 := hS.1; rintro q (h | h) <;> first | exact Or.inr (by omega) | exact h.elim | exact Or.inl h | (simp only [ftA] at h ⊢; omega)) (fun v H1 locs hpo hfr hS => ?_)
          obtain ⟨rfl, rfl⟩ := hpo
          refine W.widen (k := 0) (n := 0) (Nat.le_of_ble_eq_true rfl) (Nat.le_of_ble_eq_true rfl) ?_
          refine mh_top (y := .int (nI b8.2.1)) (by rw [r4]) ?_
          refine lv_iconst (v := nI 1) hx hb dX9_colourOfWhole_168 (by decide) ?_
          refine mn_isub hB dX9_colourOfWhole_169 (by omega) ?_
          refine lv_iload hx hb dX9_colourOfWhole_170 (lv_at hl 1 rfl) ?_
          refine mn_isub hB dX9_colourOfWhole_172 (by omega) ?_
          refine lv_istore (lv' := [(4, .int (nI ((b8.2.1 - 1) - x))), (3, .int (nI y)), (9, .int (nI x)), (8, .int (nI f0)), (7, .int (nI (tc j))), (0, .ref tb), (5, .int (nI j)), (6, .int (nI k9))]) hx hb dX9_colourOfWhole_173 hl (by decide) rfl (fun ls hl => ?_)
          refine lv_goto (tgt := 203) hx hb dX9_colourOfWhole_175 (by decide) ?_
          refine lv_iload hx hb dX9_colourOfWhole_203 (lv_at hl 3 rfl) ?_
          refine lv_istore (lv' := [(5, .int (nI f0)), (4, .int (nI ((b8.2.1 - 1) - x))), (3, .int (nI y)), (9, .int (nI x)), (8, .int (nI f0)), (7, .int (nI (tc j))), (0, .ref tb), (6, .int (nI k9))]) hx hb dX9_colourOfWhole_205 hl (by decide) rfl (fun ls hl => ?_)
          refine lv_iinc (v := nI (k9 + 1)) (lv' := [(6, .int (nI (k9 + 1))), (5, .int (nI f0)), (4, .int (nI ((b8.2.1 - 1) - x))), (3, .int (nI y)), (9, .int (nI x)), (8, .int (nI f0)), (7, .int (nI (tc j))), (0, .ref tb)]) hx hb dX9_colourOfWhole_207 hl (k := 7) rfl (nI_1 _) (by decide) rfl (fun ls hl => ?_)
          refine lv_goto (tgt := 14) hx hb dX9_colourOfWhole_210 (by decide) ?_
          refine ih14 (kk, k9 + 1, f0, ij, b8.1, b8.2.1, b8.2.2, y, b8.2.1 - 1 - x) _ _ ⟨(hDn9), (by omega), (hxn), (hyn), (hcn.trans hc9), (by omega), hS, lv_sub hl [7, 3, 2, 1, 0] rfl⟩ (by dsimp only; omega)
      · skip
        have z60 : tc j = 60 := by omega
        rw [z60] at g6
        obtain ⟨q1, q2, q3⟩ := appl_60 g6
        have hDn9 : Den tc fi nx di wd ht kk f0 ij (b8.1, b8.2.1, b8.2.2) := g5
        have hxn : b8.1 - 1 - x < b8.1 := by omega
        have hyn : y < b8.2.1 := by omega
        have hcn := (q3 x y hx9).symm
        refine lv_aload_n hx hb dX9_colourOfWhole_129 rfl (lv_at hl 2 rfl) ?_
        refine gf_X9_15 hB hT.1 rfl dX9_colourOfWhole_130 ?_
        refine lv_iload hx hb dX9_colourOfWhole_133 (lv_at hl 0 rfl) ?_
        refine cl_X9_56 (As := [.ref (tb + 2), .int (nI f0)]) (rest := []) hB (c_X6_at l g H0 (tb + 2) 60 wd f0 hT.a_wd (by omega) (by first | assumption | omega)) rfl hl.1 (Nat.le_of_ble_eq_true rfl) dX9_colourOfWhole_135 ⟨Nat.le_of_ble_eq_true rfl, Nat.le_of_ble_eq_true rfl⟩ ⟨Nat.le_of_ble_eq_true rfl, Nat.le_of_ble_eq_true rfl⟩ hS (by have hz9 := hS.1; rintro q (h | h) <;> first | exact Or.inr (by omega) | exact h.elim | exact Or.inl h | (simp only [ftA] at h ⊢; omega)) (fun v H1 locs hpo hfr hS => ?_)
        obtain ⟨rfl, rfl⟩ := hpo
        refine W.widen (k := 0) (n := 0) (Nat.le_of_ble_eq_true rfl) (Nat.le_of_ble_eq_true rfl) ?_
        refine mh_top (y := .int (nI b8.1)) (by rw [r3]) ?_
        refine lv_iconst (v := nI 1) hx hb dX9_colourOfWhole_138 (by decide) ?_
        refine mn_isub hB dX9_colourOfWhole_139 (by omega) ?_
        refine lv_iload_n hx hb dX9_colourOfWhole_140 rfl (lv_at hl 3 rfl) ?_
        refine mn_isub hB dX9_colourOfWhole_141 (by omega) ?_
        refine lv_istore_n (lv' := [(3, .int (nI ((b8.1 - 1) - x))), (8, .int (nI f0)), (7, .int (nI (tc j))), (0, .ref tb), (4, .int (nI y)), (5, .int (nI j)), (6, .int (nI k9))]) hx hb dX9_colourOfWhole_142 rfl hl (by decide) rfl (fun ls hl => ?_)
        refine lv_goto (tgt := 203) hx hb dX9_colourOfWhole_143 (by decide) ?_
        refine lv_iload hx hb dX9_colourOfWhole_203 (lv_at hl 1 rfl) ?_
        refine lv_istore (lv' := [(5, .int (nI f0)), (3, .int (nI ((b8.1 - 1) - x))), (8, .int (nI f0)), (7, .int (nI (tc j))), (0, .ref tb), (4, .int (nI y)), (6, .int (nI k9))]) hx hb dX9_colourOfWhole_205 hl (by decide) rfl (fun ls hl => ?_)
        refine lv_iinc (v := nI (k9 + 1)) (lv' := [(6, .int (nI (k9 + 1))), (5, .int (nI f0)), (3, .int (nI ((b8.1 - 1) - x))), (8, .int (nI f0)), (7, .int (nI (tc j))), (0, .ref tb), (4, .int (nI y))]) hx hb dX9_colourOfWhole_207 hl (k := 6) rfl (nI_1 _) (by decide) rfl (fun ls hl => ?_)
        refine lv_goto (tgt := 14) hx hb dX9_colourOfWhole_210 (by decide) ?_
        refine ih14 (kk, k9 + 1, f0, ij, b8.1, b8.2.1, b8.2.2, b8.1 - 1 - x, y) _ _ ⟨(hDn9), (by omega), (hxn), (hyn), (hcn.trans hc9), (by omega), hS, lv_sub hl [5, 2, 6, 1, 0] rfl⟩ (by dsimp only; omega)
    · skip
      refine lv_aload_n hx hb dX9_colourOfWhole_21 rfl (lv_at hl 0 rfl) ?_
      refine gf_X9_9 hB hT.1 rfl dX9_colourOfWhole_22 ?_
      refine lv_iload hx hb dX9_colourOfWhole_25 (lv_at hl 3 rfl) ?_
      refine cl_X9_56 (As := [.ref (tb + 1), .int (nI j)]) (rest := []) hB (c_X6_at l g H0 (tb + 1) 60 tx j hT.a_tx (by omega) (by first | assumption | omega)) rfl hl.1 (Nat.le_of_ble_eq_true rfl) dX9_colourOfWhole_27 ⟨Nat.le_of_ble_eq_true rfl, Nat.le_of_ble_eq_true rfl⟩ ⟨Nat.le_of_ble_eq_true rfl, Nat.le_of_ble_eq_true rfl⟩ hS (by have hz9 := hS.1; rintro q (h | h) <;> first | exact Or.inr (by omega) | exact h.elim | exact Or.inl h | (simp only [ftA] at h ⊢; omega)) (fun v H1 locs hpo hfr hS => ?_)
      obtain ⟨rfl, rfl⟩ := hpo
      refine W.widen (k := 0) (n := 0) (Nat.le_of_ble_eq_true rfl) (Nat.le_of_ble_eq_true rfl) ?_
      refine mh_top (y := .int (nI (tc j))) (by rw [htj.1]) ?_
      refine lv_istore (lv' := [(7, .int (nI (tc j))), (0, .ref tb), (3, .int (nI x)), (4, .int (nI y)), (5, .int (nI j)), (6, .int (nI k9))]) hx hb dX9_colourOfWhole_30 hl (by decide) rfl (fun ls hl => ?_)
      refine lv_iload hx hb dX9_colourOfWhole_32 (lv_at hl 0 rfl) ?_
      refine cl_X9_69 (As := [.int (nI (tc j))]) (rest := []) hB (c_X9_isColour l g H0 (tc j) (htj.2)) rfl hl.1 (Nat.le_of_ble_eq_true rfl) dX9_colourOfWhole_34 ⟨Nat.le_of_ble_eq_true rfl, Nat.le_of_ble_eq_true rfl⟩ ⟨Nat.le_of_ble_eq_true rfl, Nat.le_of_ble_eq_true rfl⟩ hS (by have hz9 := hS.1; rintro q (h | h) <;> first | exact Or.inr (by omega) | exact h.elim | exact Or.inl h | (simp only [ftA] at h ⊢; omega)) (fun v H1 locs hpo hfr hS => ?_)
      obtain ⟨rfl, rfl⟩ := hpo
      refine W.widen (k := 0) (n := 0) (Nat.le_of_ble_eq_true rfl) (Nat.le_of_ble_eq_true rfl) ?_
      refine mb_if_eq (tgt := 46) hB dX9_colourOfWhole_37 (by decide) (fun h_37 => ?_) (fun h => by have h9 := of_decide_eq_true h; exfalso; omega)
      refine lv_aload_n hx hb dX9_colourOfWhole_46 rfl (lv_at hl 1 rfl) ?_
      refine gf_X9_21 hB hT.1 rfl dX9_colourOfWhole_47 ?_
      refine lv_iload hx hb dX9_colourOfWhole_50 (lv_at hl 4 rfl) ?_
      refine cl_X9_56 (As := [.ref (tb + 4), .int (nI j)]) (rest := []) hB (c_X6_at l g H0 (tb + 4) 60 fi j hT.a_fi (by omega) (by first | assumption | omega)) rfl hl.1 (Nat.le_of_ble_eq_true rfl) dX9_colourOfWhole_52 ⟨Nat.le_of_ble_eq_true rfl, Nat.le_of_ble_eq_true rfl⟩ ⟨Nat.le_of_ble_eq_true rfl, Nat.le_of_ble_eq_true rfl⟩ hS (by have hz9 := hS.1; rintro q (h | h) <;> first | exact Or.inr (by omega) | exact h.elim | exact Or.inl h | (simp only [ftA] at h ⊢; omega)) (fun v H1 locs hpo hfr hS => ?_)
      obtain ⟨rfl, rfl⟩ := hpo
      refine W.widen (k := 0) (n := 0) (Nat.le_of_ble_eq_true rfl) (Nat.le_of_ble_eq_true rfl) ?_
      refine mh_top (y := .int (nI f0)) (by rw [g2]) ?_
      refine lv_istore (lv' := [(8, .int (nI f0)), (7, .int (nI (tc j))), (0, .ref tb), (3, .int (nI x)), (4, .int (nI y)), (5, .int (nI j)), (6, .int (nI k9))]) hx hb dX9_colourOfWhole_55 hl (by decide) rfl (fun ls hl => ?_)
      by_cases z40 : tc j = 40
      · skip
        obtain ⟨m9, jj, ijj, bj, dj, c1, c2, c3, c4, c5, c6⟩ := g5 x y hx9 hy9
        rw [if_pos z40] at c1 c6
        obtain ⟨t1, t2, t3, t4⟩ := c6
        have hjl := c5.lt
        have hDn9 : Den tc fi nx di wd ht kk jj ijj (bj.1, bj.2.1, bj.2.2) := c5
        have hxn : x - dj < bj.1 := t2
        have hyn : y < bj.2.1 := t3
        have hcn := t4.symm
        refine lv_iload hx hb dX9_colourOfWhole_57 (lv_at hl 1 rfl) ?_
        refine lv_bipush (v := nI 40) hx hb dX9_colourOfWhole_59 (by decide) ?_
        refine mn_icmp_ne (tgt := 88) hB dX9_colourOfWhole_61 (by decide) (by omega) (by omega) (fun h => by exfalso; omega) (fun h_61 => ?_)
        refine lv_aload_n hx hb dX9_colourOfWhole_64 rfl (lv_at hl 2 rfl) ?_
        refine lv_iload hx hb dX9_colourOfWhole_65 (lv_at hl 5 rfl) ?_
        refine lv_iload_n hx hb dX9_colourOfWhole_67 rfl (lv_at hl 3 rfl) ?_
        refine cl_X9_106 (As := [.int (nI j), .int (nI x)]) (rest := []) hB (c_X9_blockInsideAt l g H0 tb tx ln wd ht fi la nx di op oc wh j x m9 f0 jj ij hT (by omega) (by omega) (g2) (c1) (g4) (d2)) hT.1 rfl hl.1 (Nat.le_of_ble_eq_true rfl) dX9_colourOfWhole_68 ⟨Nat.le_of_ble_eq_true rfl, Nat.le_of_ble_eq_true rfl⟩ ⟨Nat.le_of_ble_eq_true rfl, Nat.le_of_ble_eq_true rfl⟩ hS (by have hz9 := hS.1; rintro q (h | h) <;> first | exact Or.inr (by omega) | exact h.elim | exact Or.inl h | (simp only [ftA] at h ⊢; omega)) (fun v H1 locs hpo hfr hS => ?_)
        obtain ⟨rfl, rfl⟩ := hpo
        refine W.widen (k := 0) (n := 0) (Nat.le_of_ble_eq_true rfl) (Nat.le_of_ble_eq_true rfl) ?_
        refine lv_istore (lv' := [(8, .int (nI jj)), (7, .int (nI (tc j))), (0, .ref tb), (3, .int (nI x)), (4, .int (nI y)), (5, .int (nI j)), (6, .int (nI k9))]) hx hb dX9_colourOfWhole_71 hl (by decide) rfl (fun ls hl => ?_)
        refine lv_iload_n hx hb dX9_colourOfWhole_73 rfl (lv_at hl 3 rfl) ?_
        refine lv_aload_n hx hb dX9_colourOfWhole_74 rfl (lv_at hl 2 rfl) ?_
        refine gf_X9_30 hB hT.1 rfl dX9_colourOfWhole_75 ?_
        refine lv_iload hx hb dX9_colourOfWhole_78 (lv_at hl 0 rfl) ?_
        refine cl_X9_56 (As := [.ref (tb + 7), .int (nI jj)]) (rest := [.int (nI x)]) hB (c_X6_at l g H0 (tb + 7) 60 di jj hT.a_di (by omega) (by first | assumption | omega)) rfl hl.1 (Nat.le_of_ble_eq_true rfl) dX9_colourOfWhole_80 ⟨Nat.le_of_ble_eq_true rfl, Nat.le_of_ble_eq_true rfl⟩ ⟨Nat.le_of_ble_eq_true rfl, Nat.le_of_ble_eq_true rfl⟩ hS (by have hz9 := hS.1; rintro q (h | h) <;> first | exact Or.inr (by omega) | exact h.elim | exact Or.inl h | (simp only [ftA] at h ⊢; omega)) (fun v H1 locs hpo hfr hS => ?_)
        obtain ⟨rfl, rfl⟩ := hpo
        refine W.widen (k := 0) (n := 0) (Nat.le_of_ble_eq_true rfl) (Nat.le_of_ble_eq_true rfl) ?_
        refine mh_top (y := .int (nI dj)) (by rw [c4]) ?_
        refine mn_isub hB dX9_colourOfWhole_83 (by omega) ?_
        refine lv_istore_n (lv' := [(3, .int (nI (x - dj))), (8, .int (nI jj)), (7, .int (nI (tc j))), (0, .ref tb), (4, .int (nI y)), (5, .int (nI j)), (6, .int (nI k9))]) hx hb dX9_colourOfWhole_84 rfl hl (by decide) rfl (fun ls hl => ?_)
        refine lv_goto (tgt := 203) hx hb dX9_colourOfWhole_85 (by decide) ?_
        refine lv_iload hx hb dX9_colourOfWhole_203 (lv_at hl 1 rfl) ?_
        refine lv_istore (lv' := [(5, .int (nI jj)), (3, .int (nI (x - dj))), (8, .int (nI jj)), (7, .int (nI (tc j))), (0, .ref tb), (4, .int (nI y)), (6, .int (nI k9))]) hx hb dX9_colourOfWhole_205 hl (by decide) rfl (fun ls hl => ?_)
        refine lv_iinc (v := nI (k9 + 1)) (lv' := [(6, .int (nI (k9 + 1))), (5, .int (nI jj)), (3, .int (nI (x - dj))), (8, .int (nI jj)), (7, .int (nI (tc j))), (0, .ref tb), (4, .int (nI y))]) hx hb dX9_colourOfWhole_207 hl (k := 6) rfl (nI_1 _) (by decide) rfl (fun ls hl => ?_)
        refine lv_goto (tgt := 14) hx hb dX9_colourOfWhole_210 (by decide) ?_
        refine ih14 (kk, k9 + 1, jj, ijj, bj.1, bj.2.1, bj.2.2, x - dj, y) _ _ ⟨(hDn9), (by omega), (hxn), (hyn), (hcn.trans hc9), (by omega), hS, lv_sub hl [5, 2, 6, 1, 0] rfl⟩ (by dsimp only; omega)
      · skip
        obtain ⟨m9, jj, ijj, bj, dj, c1, c2, c3, c4, c5, c6⟩ := g5 x y hx9 hy9
        rw [if_neg z40] at c1 c6
        obtain ⟨t1, t2, t3, t4⟩ := c6
        have hjl := c5.lt
        have hDn9 : Den tc fi nx di wd ht kk jj ijj (bj.1, bj.2.1, bj.2.2) := c5
        have hxn : x < bj.1 := t2
        have hyn : y - dj < bj.2.1 := t3
        have hcn := t4.symm
        refine lv_iload hx hb dX9_colourOfWhole_57 (lv_at hl 1 rfl) ?_
        refine lv_bipush (v := nI 40) hx hb dX9_colourOfWhole_59 (by decide) ?_
        refine mn_icmp_ne (tgt := 88) hB dX9_colourOfWhole_61 (by decide) (by omega) (by omega) (fun h_61 => ?_) (fun h => by exfalso; omega)
        refine lv_iload hx hb dX9_colourOfWhole_88 (lv_at hl 1 rfl) ?_
        refine lv_bipush (v := nI 91) hx hb dX9_colourOfWhole_90 (by decide) ?_
        refine mn_icmp_ne (tgt := 122) hB dX9_colourOfWhole_92 (by decide) (by omega) (by omega) (fun h => by exfalso; omega) (fun h_92 => ?_)
        refine lv_aload_n hx hb dX9_colourOfWhole_95 rfl (lv_at hl 2 rfl) ?_
        refine lv_iload hx hb dX9_colourOfWhole_96 (lv_at hl 5 rfl) ?_
        refine lv_iload hx hb dX9_colourOfWhole_98 (lv_at hl 4 rfl) ?_
        refine cl_X9_106 (As := [.int (nI j), .int (nI y)]) (rest := []) hB (c_X9_blockInsideAt l g H0 tb tx ln wd ht fi la nx di op oc wh j y m9 f0 jj ij hT (by omega) (by omega) (g2) (c1) (g4) (d2)) hT.1 rfl hl.1 (Nat.le_of_ble_eq_true rfl) dX9_colourOfWhole_100 ⟨Nat.le_of_ble_eq_true rfl, Nat.le_of_ble_eq_true rfl⟩ ⟨Nat.le_of_ble_eq_true rfl, Nat.le_of_ble_eq_true rfl⟩ hS (by have hz9 := hS.1; rintro q (h | h) <;> first | exact Or.inr (by omega) | exact h.elim | exact Or.inl h | (simp only [ftA] at h ⊢; omega)) (fun v H1 locs hpo hfr hS => ?_)
        obtain ⟨rfl, rfl⟩ := hpo
        refine W.widen (k := 0) (n := 0) (Nat.le_of_ble_eq_true rfl) (Nat.le_of_ble_eq_true rfl) ?_
        refine lv_istore (lv' := [(8, .int (nI jj)), (7, .int (nI (tc j))), (0, .ref tb), (3, .int (nI x)), (4, .int (nI y)), (5, .int (nI j)), (6, .int (nI k9))]) hx hb dX9_colourOfWhole_103 hl (by decide) rfl (fun ls hl => ?_)
        refine lv_iload hx hb dX9_colourOfWhole_105 (lv_at hl 4 rfl) ?_
        refine lv_aload_n hx hb dX9_colourOfWhole_107 rfl (lv_at hl 2 rfl) ?_
        refine gf_X9_30 hB hT.1 rfl dX9_colourOfWhole_108 ?_
        refine lv_iload hx hb dX9_colourOfWhole_111 (lv_at hl 0 rfl) ?_
        refine cl_X9_56 (As := [.ref (tb + 7), .int (nI jj)]) (rest := [.int (nI y)]) hB (c_X6_at l g H0 (tb + 7) 60 di jj hT.a_di (by omega) (by first | assumption | omega)) rfl hl.1 (Nat.le_of_ble_eq_true rfl) dX9_colourOfWhole_113 ⟨Nat.le_of_ble_eq_true rfl, Nat.le_of_ble_eq_true rfl⟩ ⟨Nat.le_of_ble_eq_true rfl, Nat.le_of_ble_eq_true rfl⟩ hS (by have hz9 := hS.1; rintro q (h | h) <;> first | exact Or.inr (by omega) | exact h.elim | exact Or.inl h | (simp only [ftA] at h ⊢; omega)) (fun v H1 locs hpo hfr hS => ?_)
        obtain ⟨rfl, rfl⟩ := hpo
        refine W.widen (k := 0) (n := 0) (Nat.le_of_ble_eq_true rfl) (Nat.le_of_ble_eq_true rfl) ?_
        refine mh_top (y := .int (nI dj)) (by rw [c4]) ?_
        refine mn_isub hB dX9_colourOfWhole_116 (by omega) ?_
        refine lv_istore (lv' := [(4, .int (nI (y - dj))), (8, .int (nI jj)), (7, .int (nI (tc j))), (0, .ref tb), (3, .int (nI x)), (5, .int (nI j)), (6, .int (nI k9))]) hx hb dX9_colourOfWhole_117 hl (by decide) rfl (fun ls hl => ?_)
        refine lv_goto (tgt := 203) hx hb dX9_colourOfWhole_119 (by decide) ?_
        refine lv_iload hx hb dX9_colourOfWhole_203 (lv_at hl 1 rfl) ?_
        refine lv_istore (lv' := [(5, .int (nI jj)), (4, .int (nI (y - dj))), (8, .int (nI jj)), (7, .int (nI (tc j))), (0, .ref tb), (3, .int (nI x)), (6, .int (nI k9))]) hx hb dX9_colourOfWhole_205 hl (by decide) rfl (fun ls hl => ?_)
        refine lv_iinc (v := nI (k9 + 1)) (lv' := [(6, .int (nI (k9 + 1))), (5, .int (nI jj)), (4, .int (nI (y - dj))), (8, .int (nI jj)), (7, .int (nI (tc j))), (0, .ref tb), (3, .int (nI x))]) hx hb dX9_colourOfWhole_207 hl (k := 6) rfl (nI_1 _) (by decide) rfl (fun ls hl => ?_)
        refine lv_goto (tgt := 14) hx hb dX9_colourOfWhole_210 (by decide) ?_
        refine ih14 (kk, k9 + 1, jj, ijj, bj.1, bj.2.1, bj.2.2, x, y - dj) _ _ ⟨(hDn9), (by omega), (hxn), (hyn), (hcn.trans hc9), (by omega), hS, lv_sub hl [5, 6, 2, 1, 0] rfl⟩ (by dsimp only; omega)

def rm_c_X9_toPattern : Room := { frames := 3, cells := 2, slots := 259, locals := 75 }
set_option maxRecDepth 100000 in
set_option maxHeartbeats 400000 in
theorem c_X9_toPattern (l : Launch) (g : GG) (H0 : Heap) (tb : Nat) (tx : Nat → Int32) (ln : Nat) (wd : Nat → Int32) (ht : Nat → Int32) (fi : Nat → Int32) (la : Nat → Int32) (nx : Nat → Int32) (di : Nat → Int32) (op : Nat → Int32) (oc : Int32) (wh : Int32) (tc : Nat → Nat) (j0 : Nat) (i2 : Nat) (b0 : Nat) (b1 : Nat) (b2 : Nat → Nat) (n0 : Nat) (hT : TxAt g tb tx ln wd ht fi la nx di op oc wh H0) (htc : ∀ j, j < i2 → tx j = nI (tc j) ∧ tc j < 256) (hj0 : j0 < 60) (hwh : wh = nI j0) (hDn : Den tc fi nx di wd ht (60 - j0) j0 i2 (b0, b1, b2)) (hsz : H0.size = n0) : Ct l yX9_toPattern cX9_toPattern 5 (some (.object "QuiltGuild$Pattern")) rm_c_X9_toPattern g [.ref tb] H0 (ftA (fun _ => False) H0.size) (fun v H1 => v = some (.ref (n0 + 1)) ∧ PatB g (n0 + 1) n0 b0 b1 b2 H1 ∧ H1.size = n0 + 2) := by
  refine Ct.of (by decide) (fun _ h => Or.inr h) (Nat.le_of_ble_eq_true rfl) ?_
  intro p e s m below meth c ls hB hin hS hH hl
  have hx := hB.x
  have hb := hB.b
  have hl : lv_has ls 5 [(0, .ref tb)] := hl
  have hTl := hT.lt
  obtain ⟨d1, d2, d3, d4, d5⟩ := hDn.lt
  obtain ⟨e1, e2, e3, e4, e5⟩ := d5
  dsimp only at d3 d4 e1 e2 e3 e4 e5
  have h256 : b0 * b1 ≤ 256 := Nat.mul_le_mul e2 e4
  have hpos : 0 < b0 * b1 := Nat.mul_pos e1 e3
  refine lv_aload_n hx hb dX9_toPattern_0 rfl (lv_at hl 0 rfl) ?_
  refine gf_X9_36 hB hT.1 rfl dX9_toPattern_1 ?_
  refine mh_top (y := .int (nI j0)) (by rw [hwh]) ?_
  refine lv_bipush (v := (-9)) hx hb dX9_toPattern_4 (by decide) ?_
  refine lv_icmp_ne (tgt := 11) hx hb dX9_toPattern_6 (by decide) (fun h_6 => ?_) (fun h => absurd h (nI_ne9 hj0))
  refine lv_aload_n hx hb dX9_toPattern_11 rfl (lv_at hl 0 rfl) ?_
  refine gf_X9_15 hB hT.1 rfl dX9_toPattern_12 ?_
  refine lv_aload_n hx hb dX9_toPattern_15 rfl (lv_at hl 0 rfl) ?_
  refine gf_X9_36 hB hT.1 rfl dX9_toPattern_16 ?_
  refine mh_top (y := .int (nI j0)) (by rw [hwh]) ?_
  refine cl_X9_56 (As := [.ref (tb + 2), .int (nI j0)]) (rest := []) hB (c_X6_at l g H0 (tb + 2) 60 wd j0 hT.a_wd (hj0) (by first | assumption | omega)) rfl hl.1 (Nat.le_of_ble_eq_true rfl) dX9_toPattern_19 ⟨Nat.le_of_ble_eq_true rfl, Nat.le_of_ble_eq_true rfl⟩ ⟨Nat.le_of_ble_eq_true rfl, Nat.le_of_ble_eq_true rfl⟩ hS (by have hz9 := hS.1; rintro q (h | h) <;> first | exact Or.inr (by omega) | exact h.elim | exact Or.inl h | (simp only [ftA] at h ⊢; omega)) (fun v H1 locs hpo hfr hS => ?_)
  obtain ⟨rfl, rfl⟩ := hpo
  refine W.widen (k := 0) (n := 0) (Nat.le_of_ble_eq_true rfl) (Nat.le_of_ble_eq_true rfl) ?_
  refine mh_top (y := .int (nI b0)) (by rw [d3]) ?_
  refine lv_istore_n (lv' := [(1, .int (nI b0)), (0, .ref tb)]) hx hb dX9_toPattern_22 rfl hl (by decide) rfl (fun ls hl => ?_)
  refine lv_aload_n hx hb dX9_toPattern_23 rfl (lv_at hl 1 rfl) ?_
  refine gf_X9_18 hB hT.1 rfl dX9_toPattern_24 ?_
  refine lv_aload_n hx hb dX9_toPattern_27 rfl (lv_at hl 1 rfl) ?_
  refine gf_X9_36 hB hT.1 rfl dX9_toPattern_28 ?_
  refine mh_top (y := .int (nI j0)) (by rw [hwh]) ?_
  refine cl_X9_56 (As := [.ref (tb + 3), .int (nI j0)]) (rest := []) hB (c_X6_at l g H0 (tb + 3) 60 ht j0 hT.a_ht (hj0) (by first | assumption | omega)) rfl hl.1 (Nat.le_of_ble_eq_true rfl) dX9_toPattern_31 ⟨Nat.le_of_ble_eq_true rfl, Nat.le_of_ble_eq_true rfl⟩ ⟨Nat.le_of_ble_eq_true rfl, Nat.le_of_ble_eq_true rfl⟩ hS (by have hz9 := hS.1; rintro q (h | h) <;> first | exact Or.inr (by omega) | exact h.elim | exact Or.inl h | (simp only [ftA] at h ⊢; omega)) (fun v H1 locs hpo hfr hS => ?_)
  obtain ⟨rfl, rfl⟩ := hpo
  refine W.widen (k := 0) (n := 0) (Nat.le_of_ble_eq_true rfl) (Nat.le_of_ble_eq_true rfl) ?_
  refine mh_top (y := .int (nI b1)) (by rw [d4]) ?_
  refine lv_istore_n (lv' := [(2, .int (nI b1)), (1, .int (nI b0)), (0, .ref tb)]) hx hb dX9_toPattern_34 rfl hl (by decide) rfl (fun ls hl => ?_)
  refine lv_iload_n hx hb dX9_toPattern_35 rfl (lv_at hl 1 rfl) ?_
  refine lv_iconst (v := nI 1) hx hb dX9_toPattern_36 (by decide) ?_
  refine mn_icmp_lt (tgt := 57) hB dX9_toPattern_37 (by decide) (by omega) (by omega) (fun h => by exfalso; omega) (fun h_37 => ?_)
  refine lv_iload_n hx hb dX9_toPattern_40 rfl (lv_at hl 1 rfl) ?_
  refine lv_bipush (v := nI 16) hx hb dX9_toPattern_41 (by decide) ?_
  refine mn_icmp_gt (tgt := 57) hB dX9_toPattern_43 (by decide) (by omega) (by omega) (fun h => by exfalso; omega) (fun h_43 => ?_)
  refine lv_iload_n hx hb dX9_toPattern_46 rfl (lv_at hl 0 rfl) ?_
  refine lv_iconst (v := nI 1) hx hb dX9_toPattern_47 (by decide) ?_
  refine mn_icmp_lt (tgt := 57) hB dX9_toPattern_48 (by decide) (by omega) (by omega) (fun h => by exfalso; omega) (fun h_48 => ?_)
  refine lv_iload_n hx hb dX9_toPattern_51 rfl (lv_at hl 0 rfl) ?_
  refine lv_bipush (v := nI 16) hx hb dX9_toPattern_52 (by decide) ?_
  refine mn_icmp_le (tgt := 59) hB dX9_toPattern_54 (by decide) (by omega) (by omega) (fun h_54 => ?_) (fun h => by exfalso; omega)
  refine lv_iload_n hx hb dX9_toPattern_59 rfl (lv_at hl 1 rfl) ?_
  refine lv_iload_n hx hb dX9_toPattern_60 rfl (lv_at hl 0 rfl) ?_
  refine mn_imul hB dX9_toPattern_61 ?_
  refine mh_newa (atype := .byte) (a0 := (b0 * b1, .inl (fun _ => 0))) (N' := b0 * b1) hB 1 rfl rfl (fun _ h => by cases h) kw_714 (fun _ => rfl) (nI_pos (by omega)) (nI_clamp (by omega)) (by show b0 * b1 * 1 ≤ 536870912; omega) hS (Nat.le_of_ble_eq_true rfl) (by show 0 + b0 * b1 ≤ 259; omega) dX9_toPattern_62 (fun H1 hwr => ?_)
  obtain ⟨hq1, ho, hz, hS⟩ := hwr
  have hT := hT.kept (fun q9 h1 h2 => ho q9 (by have := hT.lt; omega))
  rw [hsz] at hq1 hz
  refine mh_top (congrArg Value.ref hsz) ?_
  have hsz := hz
  generalize H1 = H at hq1 hS hsz hT ⊢
  refine W.widen (k := 1) (n := 256) (Nat.le_of_ble_eq_true rfl) (by omega) ?_
  refine lv_astore_n (lv' := [(3, .ref n0), (2, .int (nI b1)), (1, .int (nI b0)), (0, .ref tb)]) hx hb dX9_toPattern_64 rfl hl (by decide) rfl (fun ls hl => ?_)
  refine lv_iconst (v := nI 0) hx hb dX9_toPattern_65 (by decide) ?_
  refine lv_istore (lv' := [(4, .int (nI 0)), (3, .ref n0), (2, .int (nI b1)), (1, .int (nI b0)), (0, .ref tb)]) hx hb dX9_toPattern_66 hl (by decide) rfl (fun ls hl => ?_)
  refine mh_loop (σ := Nat) (fun xx9 H locs ls => match xx9 with | i9 => i9 ≤ b0 * b1 ∧ H.size = n0 + 1 ∧ TxAt g tb tx ln wd ht fi la nx di op oc wh H ∧ at_ g H n0 (eB g (b0 * b1) (lowOf (fun k => nI (b2 k)) (fun _ => 0) i9)) ∧ va_S (ftA (fun _ => False) H0.size) H0 H locs ∧ lv_has ls 5 [(0, .ref tb), (1, .int (nI b0)), (2, .int (nI b1)), (3, .ref n0), (4, .int (nI i9))]) (fun xx9 => match xx9 with | i9 => b0 * b1 - i9) ?_ 0 ⟨(by omega), (hsz), hT, (by rw [lowOf_0]; exact hq1), hS, lv_sub hl [4, 3, 2, 1, 0] rfl⟩
  rintro i9 H locs ls ⟨hi9, hsz, hT, hq1, hS, hl⟩ ih
  have ih68 := ih
  refine lv_iload hx hb dX9_toPattern_68 (lv_at hl 4 rfl) ?_
  refine lv_aload_n hx hb dX9_toPattern_70 rfl (lv_at hl 3 rfl) ?_
  refine mh_alen hB 1 rfl hq1 dX9_toPattern_71 ?_
  refine mn_icmp_ge (tgt := 98) hB dX9_toPattern_72 (by decide) (by omega) (by omega) (fun h_72 => ?_) (fun h_72 => ?_)
  · skip
    have hin9 : i9 = b0 * b1 := by omega
    subst hin9
    refine nw_X9_64 hB hS (Nat.le_of_ble_eq_true rfl) (Nat.le_of_ble_eq_true rfl) dX9_toPattern_98 (fun H1 hwr => ?_)
    obtain ⟨hq2, ho, hz, hS⟩ := hwr
    have hT := hT.kept (fun q9 h1 h2 => ho q9 (by have := hT.lt; omega))
    have hq1 := hq1.kept (ho _ hq1.lt)
    rw [hsz] at hq2 hz
    refine mh_top (congrArg Value.ref hsz) ?_
    have hsz := hz
    generalize H1 = H at hq2 hS hsz hT hq1 ⊢
    refine W.widen (k := 2) (n := 259) (Nat.le_of_ble_eq_true rfl) (Nat.le_of_ble_eq_true rfl) ?_
    refine lv_dup hx hb dX9_toPattern_101 rfl ?_
    refine lv_iload_n hx hb dX9_toPattern_102 rfl (lv_at hl 1 rfl) ?_
    refine lv_iload_n hx hb dX9_toPattern_103 rfl (lv_at hl 2 rfl) ?_
    refine lv_aload_n hx hb dX9_toPattern_104 rfl (lv_at hl 3 rfl) ?_
    refine cl_X9_66 (As := [.int (nI b0), .int (nI b1), .ref n0]) (rest := [.ref (n0 + 1)]) hB (c_X4_init l g H (n0 + 1) (n0 + 2) n0 b0 b1 hq2 (by assumption)) rfl hl.1 (Nat.le_of_ble_eq_true rfl) dX9_toPattern_105 ⟨Nat.le_of_ble_eq_true rfl, Nat.le_of_ble_eq_true rfl⟩ ⟨Nat.le_of_ble_eq_true rfl, Nat.le_of_ble_eq_true rfl⟩ hS (by have hz9 := hS.1; rintro q (h | h) <;> first | exact Or.inr (by omega) | exact h.elim | exact Or.inl h | (simp only [ftA] at h ⊢; omega)) (fun v H1 locs hpo hfr hS => ?_)
    obtain ⟨rfl, hq2, hsz⟩ := hpo
    have hT := hT.keptF hfr (fun q9 h1 h2 => by first | omega | exact fun y => y.elim)
    have hq1 := Fr.keep hfr hq1 (by first | omega | exact fun y => y.elim)
    generalize H1 = H at hfr hS hT hq1 hq2 hsz ⊢
    refine W.widen (k := 2) (n := 259) (Nat.le_of_ble_eq_true rfl) (Nat.le_of_ble_eq_true rfl) ?_
    refine mh_aret hB (Or.inr ⟨_, rfl⟩) ⟨Nat.le_of_ble_eq_true rfl, Nat.le_of_ble_eq_true rfl⟩ hS dX9_toPattern_108 ⟨?_, ?_, ?_⟩
    · rfl
    · exact ⟨hq2, hq1.eqB (fun j hj => lowOf_all _ _ hj), e1, e2, e3, e4, h256, e5⟩
    · exact hsz
  · skip
    refine lv_aload_n hx hb dX9_toPattern_75 rfl (lv_at hl 3 rfl) ?_
    refine lv_iload hx hb dX9_toPattern_76 (lv_at hl 4 rfl) ?_
    refine lv_aload_n hx hb dX9_toPattern_78 rfl (lv_at hl 0 rfl) ?_
    refine lv_iload hx hb dX9_toPattern_79 (lv_at hl 4 rfl) ?_
    refine lv_iload_n hx hb dX9_toPattern_81 rfl (lv_at hl 1 rfl) ?_
    refine mn_irem hB dX9_toPattern_82 (by omega) (by omega) (by omega) ?_
    refine lv_iload hx hb dX9_toPattern_83 (lv_at hl 4 rfl) ?_
    refine lv_iload_n hx hb dX9_toPattern_85 rfl (lv_at hl 1 rfl) ?_
    refine mn_idiv hB dX9_toPattern_86 (by omega) (by omega) (by omega) ?_
    refine cl_X9_60 (As := [.int (nI (i9 % b0)), .int (nI (i9 / b0))]) (rest := [.int (nI i9), .ref n0]) hB (c_X9_colourOfWhole l g H tb tx ln wd ht fi la nx di op oc wh tc j0 i2 b0 b1 b2 (i9 % b0) (i9 / b0) hT (htc) (hj0) (hwh) (hDn) (Nat.mod_lt _ e1) (Nat.div_lt_of_lt_mul (by omega))) hT.1 rfl hl.1 (Nat.le_of_ble_eq_true rfl) dX9_toPattern_87 ⟨Nat.le_of_ble_eq_true rfl, Nat.le_of_ble_eq_true rfl⟩ ⟨Nat.le_of_ble_eq_true rfl, Nat.le_of_ble_eq_true rfl⟩ hS (by have hz9 := hS.1; rintro q (h | h) <;> first | exact Or.inr (by omega) | exact h.elim | exact Or.inl h | (simp only [ftA] at h ⊢; omega)) (fun v H1 locs hpo hfr hS => ?_)
    obtain ⟨rfl, rfl⟩ := hpo
    refine W.widen (k := 1) (n := 256) (Nat.le_of_ble_eq_true rfl) (Nat.le_of_ble_eq_true rfl) ?_
    refine mh_top (y := .int (nI (b2 i9))) (by rw [Nat.div_add_mod']) ?_
    have hs6 := e5 i9 (by omega)
    refine lv_i2b (v := (nI (b2 i9)).toInt8.toInt32) hx hb dX9_toPattern_90 rfl ?_
    refine mh_top (y := .int (nI (b2 i9))) (by rw [i2b6 _ hs6]) ?_
    refine mn_bast hB hq1 (by first | exact Or.inl rfl | (simp only [ftA]; omega) | (simp [ftA]; omega)) hS (by omega) (by omega) dX9_toPattern_91 (fun H locs hwr => ?_)
    obtain ⟨hq1, ho, hz, hS⟩ := hwr
    have hT := hT.kept (fun q9 h1 h2 => ho q9 (by omega))
    have hsz := hz.trans hsz
    refine lv_iinc (v := nI (i9 + 1)) (lv' := [(4, .int (nI (i9 + 1))), (0, .ref tb), (1, .int (nI b0)), (2, .int (nI b1)), (3, .ref n0)]) hx hb dX9_toPattern_92 hl (k := 4) rfl (nI_1 _) (by decide) rfl (fun ls hl => ?_)
    refine lv_goto (tgt := 68) hx hb dX9_toPattern_95 (by decide) ?_
    rw [nar6 _ hs6] at hq1
    refine ih68 (i9 + 1) _ _ _ ⟨(by omega), (hsz), hT, (by rw [← lowOf_up]; exact hq1), hS, lv_sub hl [1, 2, 3, 4, 0] rfl⟩ (by dsimp only; omega)
