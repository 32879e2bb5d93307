def rm_f_X10_becomes : Room := { frames := 4, cells := 0, slots := 0, locals := 96 }
set_option maxRecDepth 100000 in
set_option maxHeartbeats 400000 in
theorem f_X10_becomes (l : Launch) (g : GG) (H0 : Heap) (xb : Nat) (lim : Nat) (q : Nat → Int32) (n : Nat) (rm : Nat → Int32) (sl : Nat → Int32) (sv : Nat → Int32) (tx : Nat → Int32) (ln : Nat) (f : Nat) (g0 : Nat) (hC : CLS g xb lim q n rm sl sv tx ln H0) (hf : f < 3) (hg : g0 < 3) : Ct l yX10_becomes cX10_becomes 6 (some .int) rm_f_X10_becomes g [.ref xb, .int (nI f), .int (nI g0)] H0 (ftA (fun _ => False) H0.size) (fun v H1 => v = some (.int (becV q f g0)) ∧ H0 = H1) := by
  refine Ct.of (by decide) (fun _ h => Or.inr h) (Nat.le_of_ble_eq_true rfl) ?_
  intro p e s m below meth c ls hB hin hS hH hl
  have hx := hB.x
  have hb := hB.b
  have hl : lv_has ls 6 [(0, .ref xb), (1, .int (nI f)), (2, .int (nI g0))] := hl
  obtain ⟨D, P, T, Zr, Pr, zt, Pt, nx, hCi⟩ := hC
  have hS1 := hCi.2.2.1
  have hPT := hCi.2.2.2.1
  have hD : ∀ q9, xb + 10 ≤ q9 → q9 < xb + 10 + 26 → D q9 := fun q9 h1 h2 => hCi.2.2.2.2.2.2.2.2.2.2.2.2.1 q9 (by omega) (Nat.lt_of_lt_of_le (show q9 < xb + 68 by omega) hCi.2.2.2.2.2.2.2.2.2.2.2.2.2.2.2.2.1)
  have hW : WF q := hCi.2.2.2.2.2.2.2.2.2.2.2.2.2.2.1
  have hZ : WZ q := hCi.2.2.2.2.2.2.2.2.2.2.2.2.2.2.2.1
  have hnm5 := hW.2.2.1
  have hz0 : (zOf q) 0 = nI (nmQ q) := by rw [zOf_lo (by omega), hW.1]
  rcases hPf : P f with _ | p9
  · skip
    have hfz := hPT.none0 hf hPf
    refine lv_aload_n hx hb dX10_becomes_0 rfl (lv_at hl 0 rfl) ?_
    rcases hPg : P g0 with _ | p8
    · skip
      have hgz := hPT.none0 hg hPg
      refine lv_iload_n hx hb dX10_becomes_1 rfl (lv_at hl 1 rfl) ?_
      refine cl_X10_123 (As := [.int (nI f)]) (rest := []) hB (c_X10_existingFrame l g H0 xb (zOf q) P f hCi.1 hS1 (by first | assumption | omega)) hCi.1 rfl hl.1 (Nat.le_of_ble_eq_true rfl) dX10_becomes_2 ⟨Nat.le_of_ble_eq_true rfl, Nat.le_of_ble_eq_true rfl⟩ ⟨Nat.le_of_ble_eq_true rfl, Nat.le_of_ble_eq_true rfl⟩ hS (by have hz9 := hS.1; rintro q (h | h) <;> first | exact Or.inr (by omega) | exact h.elim | exact Or.inl h | (simp only [ftA] at h ⊢; omega)) (fun v H1 locs hpo hfr hS => ?_)
      obtain ⟨rfl, rfl⟩ := hpo
      refine W.widen (k := 0) (n := 0) (Nat.le_of_ble_eq_true rfl) (Nat.le_of_ble_eq_true rfl) ?_
      refine gf_X10_127 hB (hS1.ofN (k := f) (by omega) hPf) rfl dX10_becomes_5 ?_
      refine lv_astore_nN (lv' := [(3, .null), (0, .ref xb), (1, .int (nI f)), (2, .int (nI g0))]) hx hb dX10_becomes_8 rfl hl (by decide) rfl (fun ls hl => ?_)
      refine lv_aload_n hx hb dX10_becomes_9 rfl (lv_at hl 1 rfl) ?_
      refine lv_iload_n hx hb dX10_becomes_10 rfl (lv_at hl 3 rfl) ?_
      refine cl_X10_123 (As := [.int (nI g0)]) (rest := []) hB (c_X10_existingFrame l g H0 xb (zOf q) P g0 hCi.1 hS1 (by first | assumption | omega)) hCi.1 rfl hl.1 (Nat.le_of_ble_eq_true rfl) dX10_becomes_11 ⟨Nat.le_of_ble_eq_true rfl, Nat.le_of_ble_eq_true rfl⟩ ⟨Nat.le_of_ble_eq_true rfl, Nat.le_of_ble_eq_true rfl⟩ hS (by have hz9 := hS.1; rintro q (h | h) <;> first | exact Or.inr (by omega) | exact h.elim | exact Or.inl h | (simp only [ftA] at h ⊢; omega)) (fun v H1 locs hpo hfr hS => ?_)
      obtain ⟨rfl, rfl⟩ := hpo
      refine W.widen (k := 0) (n := 0) (Nat.le_of_ble_eq_true rfl) (Nat.le_of_ble_eq_true rfl) ?_
      refine gf_X10_127 hB (hS1.ofN (k := g0) (by omega) hPg) rfl dX10_becomes_14 ?_
      refine lv_astoreN (lv' := [(4, .null), (3, .null), (0, .ref xb), (1, .int (nI f)), (2, .int (nI g0))]) hx hb dX10_becomes_17 hl (by decide) rfl (fun ls hl => ?_)
      refine lv_aload_nN hx hb dX10_becomes_19 rfl (lv_at hl 1 rfl) ?_
      refine lv_ifnullN (tgt := 28) hx hb dX10_becomes_20 (by decide) ?_
      refine lv_bipush (v := (-9)) hx hb dX10_becomes_28 (by decide) ?_
      refine mh_iret hB ⟨Nat.le_of_ble_eq_true rfl, Nat.le_of_ble_eq_true rfl⟩ hS dX10_becomes_30 ⟨?_, rfl⟩
      · rw [show becV q f g0 = -9 from if_neg (by omega)]
    · skip
      have hgz := hPT.pos hg hPg
      obtain ⟨b8, hc1, hc2, hpo⟩ := hPT.some0 hg hPg
      have hgzz : szF q g0 = wdF q g0 * htF q g0 := rfl
      refine lv_iload_n hx hb dX10_becomes_1 rfl (lv_at hl 1 rfl) ?_
      refine cl_X10_123 (As := [.int (nI f)]) (rest := []) hB (c_X10_existingFrame l g H0 xb (zOf q) P f hCi.1 hS1 (by first | assumption | omega)) hCi.1 rfl hl.1 (Nat.le_of_ble_eq_true rfl) dX10_becomes_2 ⟨Nat.le_of_ble_eq_true rfl, Nat.le_of_ble_eq_true rfl⟩ ⟨Nat.le_of_ble_eq_true rfl, Nat.le_of_ble_eq_true rfl⟩ hS (by have hz9 := hS.1; rintro q (h | h) <;> first | exact Or.inr (by omega) | exact h.elim | exact Or.inl h | (simp only [ftA] at h ⊢; omega)) (fun v H1 locs hpo hfr hS => ?_)
      obtain ⟨rfl, rfl⟩ := hpo
      refine W.widen (k := 0) (n := 0) (Nat.le_of_ble_eq_true rfl) (Nat.le_of_ble_eq_true rfl) ?_
      refine gf_X10_127 hB (hS1.ofN (k := f) (by omega) hPf) rfl dX10_becomes_5 ?_
      refine lv_astore_nN (lv' := [(3, .null), (0, .ref xb), (1, .int (nI f)), (2, .int (nI g0))]) hx hb dX10_becomes_8 rfl hl (by decide) rfl (fun ls hl => ?_)
      refine lv_aload_n hx hb dX10_becomes_9 rfl (lv_at hl 1 rfl) ?_
      refine lv_iload_n hx hb dX10_becomes_10 rfl (lv_at hl 3 rfl) ?_
      refine cl_X10_123 (As := [.int (nI g0)]) (rest := []) hB (c_X10_existingFrame l g H0 xb (zOf q) P g0 hCi.1 hS1 (by first | assumption | omega)) hCi.1 rfl hl.1 (Nat.le_of_ble_eq_true rfl) dX10_becomes_11 ⟨Nat.le_of_ble_eq_true rfl, Nat.le_of_ble_eq_true rfl⟩ ⟨Nat.le_of_ble_eq_true rfl, Nat.le_of_ble_eq_true rfl⟩ hS (by have hz9 := hS.1; rintro q (h | h) <;> first | exact Or.inr (by omega) | exact h.elim | exact Or.inl h | (simp only [ftA] at h ⊢; omega)) (fun v H1 locs hpo hfr hS => ?_)
      obtain ⟨rfl, rfl⟩ := hpo
      refine W.widen (k := 0) (n := 0) (Nat.le_of_ble_eq_true rfl) (Nat.le_of_ble_eq_true rfl) ?_
      refine gf_X10_127 hB (hS1.ofS (k := g0) (by omega) hPg) rfl dX10_becomes_14 ?_
      refine lv_astore (lv' := [(4, .ref p8), (3, .null), (0, .ref xb), (1, .int (nI f)), (2, .int (nI g0))]) hx hb dX10_becomes_17 hl (by decide) rfl (fun ls hl => ?_)
      refine lv_aload_nN hx hb dX10_becomes_19 rfl (lv_at hl 1 rfl) ?_
      refine lv_ifnullN (tgt := 28) hx hb dX10_becomes_20 (by decide) ?_
      refine lv_bipush (v := (-9)) hx hb dX10_becomes_28 (by decide) ?_
      refine mh_iret hB ⟨Nat.le_of_ble_eq_true rfl, Nat.le_of_ble_eq_true rfl⟩ hS dX10_becomes_30 ⟨?_, rfl⟩
      · rw [show becV q f g0 = -9 from if_neg (by omega)]
  · skip
    have hfz := hPT.pos hf hPf
    obtain ⟨b9, hd1, hd2, hpb⟩ := hPT.some0 hf hPf
    have hw0 := hpb.2.2.1
    have hw16 := hpb.2.2.2.1
    have hh0 := hpb.2.2.2.2.1
    have hh16 := hpb.2.2.2.2.2.1
    have hwh := hpb.2.2.2.2.2.2.1
    have hcol := hpb.2.2.2.2.2.2.2
    have hfzz : szF q f = wdF q f * htF q f := rfl
    refine lv_aload_n hx hb dX10_becomes_0 rfl (lv_at hl 0 rfl) ?_
    rcases hPg : P g0 with _ | p8
    · skip
      have hgz := hPT.none0 hg hPg
      refine lv_iload_n hx hb dX10_becomes_1 rfl (lv_at hl 1 rfl) ?_
      refine cl_X10_123 (As := [.int (nI f)]) (rest := []) hB (c_X10_existingFrame l g H0 xb (zOf q) P f hCi.1 hS1 (by first | assumption | omega)) hCi.1 rfl hl.1 (Nat.le_of_ble_eq_true rfl) dX10_becomes_2 ⟨Nat.le_of_ble_eq_true rfl, Nat.le_of_ble_eq_true rfl⟩ ⟨Nat.le_of_ble_eq_true rfl, Nat.le_of_ble_eq_true rfl⟩ hS (by have hz9 := hS.1; rintro q (h | h) <;> first | exact Or.inr (by omega) | exact h.elim | exact Or.inl h | (simp only [ftA] at h ⊢; omega)) (fun v H1 locs hpo hfr hS => ?_)
      obtain ⟨rfl, rfl⟩ := hpo
      refine W.widen (k := 0) (n := 0) (Nat.le_of_ble_eq_true rfl) (Nat.le_of_ble_eq_true rfl) ?_
      refine gf_X10_127 hB (hS1.ofS (k := f) (by omega) hPf) rfl dX10_becomes_5 ?_
      refine lv_astore_n (lv' := [(3, .ref p9), (0, .ref xb), (1, .int (nI f)), (2, .int (nI g0))]) hx hb dX10_becomes_8 rfl hl (by decide) rfl (fun ls hl => ?_)
      refine lv_aload_n hx hb dX10_becomes_9 rfl (lv_at hl 1 rfl) ?_
      refine lv_iload_n hx hb dX10_becomes_10 rfl (lv_at hl 3 rfl) ?_
      refine cl_X10_123 (As := [.int (nI g0)]) (rest := []) hB (c_X10_existingFrame l g H0 xb (zOf q) P g0 hCi.1 hS1 (by first | assumption | omega)) hCi.1 rfl hl.1 (Nat.le_of_ble_eq_true rfl) dX10_becomes_11 ⟨Nat.le_of_ble_eq_true rfl, Nat.le_of_ble_eq_true rfl⟩ ⟨Nat.le_of_ble_eq_true rfl, Nat.le_of_ble_eq_true rfl⟩ hS (by have hz9 := hS.1; rintro q (h | h) <;> first | exact Or.inr (by omega) | exact h.elim | exact Or.inl h | (simp only [ftA] at h ⊢; omega)) (fun v H1 locs hpo hfr hS => ?_)
      obtain ⟨rfl, rfl⟩ := hpo
      refine W.widen (k := 0) (n := 0) (Nat.le_of_ble_eq_true rfl) (Nat.le_of_ble_eq_true rfl) ?_
      refine gf_X10_127 hB (hS1.ofN (k := g0) (by omega) hPg) rfl dX10_becomes_14 ?_
      refine lv_astoreN (lv' := [(4, .null), (3, .ref p9), (0, .ref xb), (1, .int (nI f)), (2, .int (nI g0))]) hx hb dX10_becomes_17 hl (by decide) rfl (fun ls hl => ?_)
      refine lv_aload_n hx hb dX10_becomes_19 rfl (lv_at hl 1 rfl) ?_
      refine lv_ifnull hx hb dX10_becomes_20 ?_
      refine lv_aloadN hx hb dX10_becomes_23 (lv_at hl 0 rfl) ?_
      refine lv_ifnonnullN hx hb dX10_becomes_25 ?_
      refine lv_bipush (v := (-9)) hx hb dX10_becomes_28 (by decide) ?_
      refine mh_iret hB ⟨Nat.le_of_ble_eq_true rfl, Nat.le_of_ble_eq_true rfl⟩ hS dX10_becomes_30 ⟨?_, rfl⟩
      · rw [show becV q f g0 = -9 from if_neg (by omega)]
    · skip
      have hgz := hPT.pos hg hPg
      obtain ⟨b8, hc1, hc2, hpo⟩ := hPT.some0 hg hPg
      have hgzz : szF q g0 = wdF q g0 * htF q g0 := rfl
      refine lv_iload_n hx hb dX10_becomes_1 rfl (lv_at hl 1 rfl) ?_
      refine cl_X10_123 (As := [.int (nI f)]) (rest := []) hB (c_X10_existingFrame l g H0 xb (zOf q) P f hCi.1 hS1 (by first | assumption | omega)) hCi.1 rfl hl.1 (Nat.le_of_ble_eq_true rfl) dX10_becomes_2 ⟨Nat.le_of_ble_eq_true rfl, Nat.le_of_ble_eq_true rfl⟩ ⟨Nat.le_of_ble_eq_true rfl, Nat.le_of_ble_eq_true rfl⟩ hS (by have hz9 := hS.1; rintro q (h | h) <;> first | exact Or.inr (by omega) | exact h.elim | exact Or.inl h | (simp only [ftA] at h ⊢; omega)) (fun v H1 locs hpo hfr hS => ?_)
      obtain ⟨rfl, rfl⟩ := hpo
      refine W.widen (k := 0) (n := 0) (Nat.le_of_ble_eq_true rfl) (Nat.le_of_ble_eq_true rfl) ?_
      refine gf_X10_127 hB (hS1.ofS (k := f) (by omega) hPf) rfl dX10_becomes_5 ?_
      refine lv_astore_n (lv' := [(3, .ref p9), (0, .ref xb), (1, .int (nI f)), (2, .int (nI g0))]) hx hb dX10_becomes_8 rfl hl (by decide) rfl (fun ls hl => ?_)
      refine lv_aload_n hx hb dX10_becomes_9 rfl (lv_at hl 1 rfl) ?_
      refine lv_iload_n hx hb dX10_becomes_10 rfl (lv_at hl 3 rfl) ?_
      refine cl_X10_123 (As := [.int (nI g0)]) (rest := []) hB (c_X10_existingFrame l g H0 xb (zOf q) P g0 hCi.1 hS1 (by first | assumption | omega)) hCi.1 rfl hl.1 (Nat.le_of_ble_eq_true rfl) dX10_becomes_11 ⟨Nat.le_of_ble_eq_true rfl, Nat.le_of_ble_eq_true rfl⟩ ⟨Nat.le_of_ble_eq_true rfl, Nat.le_of_ble_eq_true rfl⟩ hS (by have hz9 := hS.1; rintro q (h | h) <;> first | exact Or.inr (by omega) | exact h.elim | exact Or.inl h | (simp only [ftA] at h ⊢; omega)) (fun v H1 locs hpo hfr hS => ?_)
      obtain ⟨rfl, rfl⟩ := hpo
      refine W.widen (k := 0) (n := 0) (Nat.le_of_ble_eq_true rfl) (Nat.le_of_ble_eq_true rfl) ?_
      refine gf_X10_127 hB (hS1.ofS (k := g0) (by omega) hPg) rfl dX10_becomes_14 ?_
      refine lv_astore (lv' := [(4, .ref p8), (3, .ref p9), (0, .ref xb), (1, .int (nI f)), (2, .int (nI g0))]) hx hb dX10_becomes_17 hl (by decide) rfl (fun ls hl => ?_)
      refine lv_aload_n hx hb dX10_becomes_19 rfl (lv_at hl 1 rfl) ?_
      refine lv_ifnull hx hb dX10_becomes_20 ?_
      refine lv_aload hx hb dX10_becomes_23 (lv_at hl 0 rfl) ?_
      refine lv_ifnonnull (tgt := 31) hx hb dX10_becomes_25 (by decide) ?_
      refine lv_iconst (v := nI 0) hx hb dX10_becomes_31 (by decide) ?_
      refine lv_istore (lv' := [(5, .int (nI 0)), (4, .ref p8), (3, .ref p9), (0, .ref xb), (1, .int (nI f)), (2, .int (nI g0))]) hx hb dX10_becomes_32 hl (by decide) rfl (fun ls hl => ?_)
      refine mh_loopR (σ := Nat) (fun xx9 locs ls => match xx9 with | i9 => i9 ≤ 8 ∧ becG q f g0 (8 - i9) = becV q f g0 ∧ va_S (ftA (fun _ => False) H0.size) H0 H0 locs ∧ lv_has ls 6 [(0, .ref xb), (3, .ref p9), (4, .ref p8), (5, .int (nI i9))]) (fun xx9 => match xx9 with | i9 => 8 - i9) ?_ 0 ⟨(by omega), ((if_pos ⟨by omega, by omega⟩ : becV q f g0 = _).symm), hS, lv_sub hl [3, 2, 1, 0] rfl⟩
      rintro i9 locs ls ⟨hi9, hbe, hS, hl⟩ ih
      have ih34 := ih
      refine lv_iload hx hb dX10_becomes_34 (lv_at hl 3 rfl) ?_
      refine lv_bipush (v := nI 8) hx hb dX10_becomes_36 (by decide) ?_
      refine mn_icmp_ge (tgt := 61) hB dX10_becomes_38 (by decide) (by omega) (by omega) (fun h_38 => ?_) (fun h_38 => ?_)
      · skip
        have hj9 : i9 = 8 := by omega
        subst hj9
        refine lv_bipush (v := (-9)) hx hb dX10_becomes_61 (by decide) ?_
        refine mh_iret hB ⟨Nat.le_of_ble_eq_true rfl, Nat.le_of_ble_eq_true rfl⟩ hS dX10_becomes_63 ⟨?_, rfl⟩
        · exact congrArg (fun y9 => some (Value.int y9)) hbe
      · skip
        refine lv_aload_n hx hb dX10_becomes_41 rfl (lv_at hl 1 rfl) ?_
        refine lv_iload hx hb dX10_becomes_42 (lv_at hl 3 rfl) ?_
        refine lv_aload hx hb dX10_becomes_44 (lv_at hl 2 rfl) ?_
        refine cl_X10_169 (As := [.int (nI i9), .ref p8]) (rest := []) hB (c_X4_becomesBy l g H0 p9 b9 (wdF q f) (htF q f) (clF q f) i9 p8 b8 (wdF q g0) (htF q g0) (clF q g0) hpb hpo (by omega)) hpb.1 rfl hl.1 (Nat.le_of_ble_eq_true rfl) dX10_becomes_46 ⟨Nat.le_of_ble_eq_true rfl, Nat.le_of_ble_eq_true rfl⟩ ⟨Nat.le_of_ble_eq_true rfl, Nat.le_of_ble_eq_true rfl⟩ hS (by have hz9 := hS.1; rintro q (h | h) <;> first | exact Or.inr (by omega) | exact h.elim | exact Or.inl h | (simp only [ftA] at h ⊢; omega)) (fun v H1 locs hpo hfr hS => ?_)
        obtain ⟨rfl, rfl⟩ := hpo
        refine W.widen (k := 0) (n := 0) (Nat.le_of_ble_eq_true rfl) (Nat.le_of_ble_eq_true rfl) ?_
        refine mb_if_eq (tgt := 55) hB dX10_becomes_49 (by decide) (fun h_49 => ?_) (fun h_49 => ?_)
        · skip
          refine lv_iinc (v := nI (i9 + 1)) (lv' := [(5, .int (nI (i9 + 1))), (0, .ref xb), (3, .ref p9), (4, .ref p8)]) hx hb dX10_becomes_55 hl (k := 3) rfl (nI_1 _) (by decide) rfl (fun ls hl => ?_)
          refine lv_goto (tgt := 34) hx hb dX10_becomes_58 (by decide) ?_
          refine ih34 (i9 + 1) _ _ ⟨(by omega), ((becG_f (by omega) h_49).symm.trans hbe), hS, lv_sub hl [1, 2, 3, 0] rfl⟩ (by dsimp only; omega)
        · skip
          refine lv_iload hx hb dX10_becomes_52 (lv_at hl 3 rfl) ?_
          refine mh_iret hB ⟨Nat.le_of_ble_eq_true rfl, Nat.le_of_ble_eq_true rfl⟩ hS dX10_becomes_54 ⟨?_, rfl⟩
          · rw [becG_t (by omega) h_49] at hbe
            exact congrArg (fun y9 => some (Value.int y9)) hbe
