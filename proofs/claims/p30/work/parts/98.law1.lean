def rm_c_L_cloth : Room := { frames := 4, cells := 0, slots := 0, locals := 93 }
set_option maxRecDepth 100000 in
set_option maxHeartbeats 400000 in
theorem c_L_cloth (l : Launch) (g : GG) (H0 : Heap) (xb : Nat) (lim : Nat) (q : Nat → Int32) (n : Nat) (rm : Nat → Int32) (sl : Nat → Int32) (sv : Nat → Int32) (tx : Nat → Int32) (ln : Nat) (t : Nat) (hC : CLS g xb lim q n rm sl sv tx ln H0) (hSD : SD t q) (ht : t ≤ 60) : Ct l yL_cloth cL_cloth 8 (some .boolean) rm_c_L_cloth g [.ref xb] H0 (ftA (fun _ => False) H0.size) (fun v H1 => v = some (.int (nI 1)) ∧ H0 = H1) := by
  refine Ct.of (by decide) (fun _ h => Or.inr h) (Nat.le_of_ble_eq_true rfl) ?_
  intro p e s m below meth c ls hB hin hS hH hl
  have hx := hB.x
  have hb := hB.b
  have hl : lv_has ls 8 [(0, .ref xb)] := hl
  have hW := hC.wf
  have hZw := hC.wz
  have hA := sd_cloth hSD ht hW
  refine lv_iconst (v := nI 0) hx hb dL_cloth_0 (by decide) ?_
  refine lv_istore_n (lv' := [(1, .int (nI 0)), (0, .ref xb)]) hx hb dL_cloth_1 rfl hl (by decide) rfl (fun ls hl => ?_)
  refine lv_iconst (v := nI 0) hx hb dL_cloth_2 (by decide) ?_
  refine lv_istore_n (lv' := [(2, .int (nI 0)), (1, .int (nI 0)), (0, .ref xb)]) hx hb dL_cloth_3 rfl hl (by decide) rfl (fun ls hl => ?_)
  refine lv_iconst (v := nI 0) hx hb dL_cloth_4 (by decide) ?_
  refine lv_istore_n (lv' := [(3, .int (nI 0)), (2, .int (nI 0)), (1, .int (nI 0)), (0, .ref xb)]) hx hb dL_cloth_5 rfl hl (by decide) rfl (fun ls hl => ?_)
  refine lv_iconst (v := nI 1) hx hb dL_cloth_6 (by decide) ?_
  refine lv_istore (lv' := [(4, .int (nI 1)), (3, .int (nI 0)), (2, .int (nI 0)), (1, .int (nI 0)), (0, .ref xb)]) hx hb dL_cloth_7 hl (by decide) rfl (fun ls hl => ?_)
  refine lv_iconst (v := nI 0) hx hb dL_cloth_9 (by decide) ?_
  refine lv_istore (lv' := [(5, .int (nI 0)), (4, .int (nI 1)), (3, .int (nI 0)), (2, .int (nI 0)), (1, .int (nI 0)), (0, .ref xb)]) hx hb dL_cloth_10 hl (by decide) rfl (fun ls hl => ?_)
  refine mh_loopR (σ := Nat) (fun xx9 locs ls => match xx9 with | c9 => c9 ≤ 6 ∧ va_S (ftA (fun _ => False) H0.size) H0 H0 locs ∧ lv_has ls 8 [(0, .ref xb), (1, .int (bx_sum (fun j9 => q (50 + j9)) c9)), (2, .int (bx_sum (fun j9 => q (56 + j9)) c9)), (3, .int (bx_sum (fun j9 => q (62 + j9)) c9)), (4, .int (nI 1)), (5, .int (nI c9))]) (fun xx9 => match xx9 with | c9 => 6 - c9) ?_ 0 ⟨(by omega), hS, lv_sub hl [5, 4, 3, 2, 1, 0] rfl⟩
  rintro c9 locs ls ⟨hc9, hS, hl⟩ ih
  have ih12 := ih
  refine lv_iload hx hb dL_cloth_12 (lv_at hl 5 rfl) ?_
  refine lv_bipush (v := nI 6) hx hb dL_cloth_14 (by decide) ?_
  refine mn_icmp_ge (tgt := 162) hB dL_cloth_16 (by decide) (by omega) (by omega) (fun h_16 => ?_) (fun h_16 => ?_)
  · skip
    have hin9 : c9 = 6 := by omega
    subst hin9
    refine lv_iload hx hb dL_cloth_162 (lv_at hl 4 rfl) ?_
    refine mn_if_eq (tgt := 201) hB dL_cloth_164 (by decide) (by omega) (fun h => by exfalso; omega) (fun h_164 => ?_)
    refine lv_aload_n hx hb dL_cloth_167 rfl (lv_at hl 0 rfl) ?_
    refine lv_bipush (v := nI 6) hx hb dL_cloth_168 (by decide) ?_
    refine cl_L_19 (As := [.int (nI 6)]) (rest := []) hB (f_X10_about_6 l g H0 xb lim q n rm sl sv tx ln (hC)) hC.ob rfl hl.1 (Nat.le_of_ble_eq_true rfl) dL_cloth_170 ⟨Nat.le_of_ble_eq_true rfl, Nat.le_of_ble_eq_true rfl⟩ ⟨Nat.le_of_ble_eq_true rfl, Nat.le_of_ble_eq_true rfl⟩ hS (by have hz9 := hS.1; rintro q (h | h) <;> first | exact Or.inr (by omega) | exact h.elim | exact Or.inl h | (simp only [ftA] at h ⊢; omega)) (fun v H1 locs hpo hfr hS => ?_)
    obtain ⟨rfl, rfl⟩ := hpo
    refine W.widen (k := 0) (n := 0) (Nat.le_of_ble_eq_true rfl) (Nat.le_of_ble_eq_true rfl) ?_
    refine lv_iload_n hx hb dL_cloth_173 rfl (lv_at hl 1 rfl) ?_
    refine lv_icmp_ne (tgt := 201) hx hb dL_cloth_174 (by decide) (fun h => absurd (show abV q 6 = bx_sum (fun j9 => q (50 + j9)) 6 from rfl) h) (fun h_174 => ?_)
    refine lv_aload_n hx hb dL_cloth_177 rfl (lv_at hl 0 rfl) ?_
    refine lv_bipush (v := nI 7) hx hb dL_cloth_178 (by decide) ?_
    refine cl_L_19 (As := [.int (nI 7)]) (rest := []) hB (f_X10_about_7 l g H0 xb lim q n rm sl sv tx ln (hC)) hC.ob rfl hl.1 (Nat.le_of_ble_eq_true rfl) dL_cloth_180 ⟨Nat.le_of_ble_eq_true rfl, Nat.le_of_ble_eq_true rfl⟩ ⟨Nat.le_of_ble_eq_true rfl, Nat.le_of_ble_eq_true rfl⟩ hS (by have hz9 := hS.1; rintro q (h | h) <;> first | exact Or.inr (by omega) | exact h.elim | exact Or.inl h | (simp only [ftA] at h ⊢; omega)) (fun v H1 locs hpo hfr hS => ?_)
    obtain ⟨rfl, rfl⟩ := hpo
    refine W.widen (k := 0) (n := 0) (Nat.le_of_ble_eq_true rfl) (Nat.le_of_ble_eq_true rfl) ?_
    refine lv_iload_n hx hb dL_cloth_183 rfl (lv_at hl 2 rfl) ?_
    refine lv_icmp_ne (tgt := 201) hx hb dL_cloth_184 (by decide) (fun h => absurd (show abV q 7 = bx_sum (fun j9 => q (56 + j9)) 6 from rfl) h) (fun h_184 => ?_)
    refine lv_aload_n hx hb dL_cloth_187 rfl (lv_at hl 0 rfl) ?_
    refine lv_bipush (v := nI 8) hx hb dL_cloth_188 (by decide) ?_
    refine cl_L_19 (As := [.int (nI 8)]) (rest := []) hB (f_X10_about_8 l g H0 xb lim q n rm sl sv tx ln (hC)) hC.ob rfl hl.1 (Nat.le_of_ble_eq_true rfl) dL_cloth_190 ⟨Nat.le_of_ble_eq_true rfl, Nat.le_of_ble_eq_true rfl⟩ ⟨Nat.le_of_ble_eq_true rfl, Nat.le_of_ble_eq_true rfl⟩ hS (by have hz9 := hS.1; rintro q (h | h) <;> first | exact Or.inr (by omega) | exact h.elim | exact Or.inl h | (simp only [ftA] at h ⊢; omega)) (fun v H1 locs hpo hfr hS => ?_)
    obtain ⟨rfl, rfl⟩ := hpo
    refine W.widen (k := 0) (n := 0) (Nat.le_of_ble_eq_true rfl) (Nat.le_of_ble_eq_true rfl) ?_
    refine lv_iload_n hx hb dL_cloth_193 rfl (lv_at hl 3 rfl) ?_
    refine lv_icmp_ne (tgt := 201) hx hb dL_cloth_194 (by decide) (fun h => absurd (show abV q 8 = bx_sum (fun j9 => q (62 + j9)) 6 from rfl) h) (fun h_194 => ?_)
    refine lv_iconst (v := nI 1) hx hb dL_cloth_197 (by decide) ?_
    refine lv_goto (tgt := 202) hx hb dL_cloth_198 (by decide) ?_
    refine mh_zret hB ⟨Nat.le_of_ble_eq_true rfl, Nat.le_of_ble_eq_true rfl⟩ hS dL_cloth_202 (by first | rfl | decide | (split <;> rfl)) ⟨?_, rfl⟩
    · rfl
  · skip
    refine lv_iload_n hx hb dL_cloth_19 rfl (lv_at hl 1 rfl) ?_
    refine lv_aload_n hx hb dL_cloth_20 rfl (lv_at hl 0 rfl) ?_
    refine lv_iload hx hb dL_cloth_21 (lv_at hl 5 rfl) ?_
    refine lv_iconst (v := nI 0) hx hb dL_cloth_23 (by decide) ?_
    refine cl_L_9 (As := [.int (nI c9), .int (nI 0)]) (rest := [.int (bx_sum (fun j9 => q (50 + j9)) c9)]) hB (f_X10_cloth l g H0 xb lim q n rm sl sv tx ln c9 0 (hC) (by first | assumption | omega) (by first | assumption | omega)) hC.ob rfl hl.1 (Nat.le_of_ble_eq_true rfl) dL_cloth_24 ⟨Nat.le_of_ble_eq_true rfl, Nat.le_of_ble_eq_true rfl⟩ ⟨Nat.le_of_ble_eq_true rfl, Nat.le_of_ble_eq_true rfl⟩ hS (by have hz9 := hS.1; rintro q (h | h) <;> first | exact Or.inr (by omega) | exact h.elim | exact Or.inl h | (simp only [ftA] at h ⊢; omega)) (fun v H1 locs hpo hfr hS => ?_)
    obtain ⟨rfl, rfl⟩ := hpo
    refine W.widen (k := 0) (n := 0) (Nat.le_of_ble_eq_true rfl) (Nat.le_of_ble_eq_true rfl) ?_
    refine lv_iadd hx hb dL_cloth_27 ?_
    refine mh_top (y := .int (bx_sum (fun j9 => q (50 + j9)) (c9 + 1))) (rfl) ?_
    refine lv_istore_n (lv' := [(1, .int (bx_sum (fun j9 => q (50 + j9)) (c9 + 1))), (0, .ref xb), (2, .int (bx_sum (fun j9 => q (56 + j9)) c9)), (3, .int (bx_sum (fun j9 => q (62 + j9)) c9)), (4, .int (nI 1)), (5, .int (nI c9))]) hx hb dL_cloth_28 rfl hl (by decide) rfl (fun ls hl => ?_)
    refine lv_iload_n hx hb dL_cloth_29 rfl (lv_at hl 2 rfl) ?_
    refine lv_aload_n hx hb dL_cloth_30 rfl (lv_at hl 1 rfl) ?_
    refine lv_iload hx hb dL_cloth_31 (lv_at hl 5 rfl) ?_
    refine lv_iconst (v := nI 3) hx hb dL_cloth_33 (by decide) ?_
    refine cl_L_9 (As := [.int (nI c9), .int (nI 3)]) (rest := [.int (bx_sum (fun j9 => q (56 + j9)) c9)]) hB (f_X10_cloth l g H0 xb lim q n rm sl sv tx ln c9 3 (hC) (by first | assumption | omega) (by first | assumption | omega)) hC.ob rfl hl.1 (Nat.le_of_ble_eq_true rfl) dL_cloth_34 ⟨Nat.le_of_ble_eq_true rfl, Nat.le_of_ble_eq_true rfl⟩ ⟨Nat.le_of_ble_eq_true rfl, Nat.le_of_ble_eq_true rfl⟩ hS (by have hz9 := hS.1; rintro q (h | h) <;> first | exact Or.inr (by omega) | exact h.elim | exact Or.inl h | (simp only [ftA] at h ⊢; omega)) (fun v H1 locs hpo hfr hS => ?_)
    obtain ⟨rfl, rfl⟩ := hpo
    refine W.widen (k := 0) (n := 0) (Nat.le_of_ble_eq_true rfl) (Nat.le_of_ble_eq_true rfl) ?_
    refine lv_iadd hx hb dL_cloth_37 ?_
    refine mh_top (y := .int (bx_sum (fun j9 => q (56 + j9)) (c9 + 1))) (rfl) ?_
    refine lv_istore_n (lv' := [(2, .int (bx_sum (fun j9 => q (56 + j9)) (c9 + 1))), (1, .int (bx_sum (fun j9 => q (50 + j9)) (c9 + 1))), (0, .ref xb), (3, .int (bx_sum (fun j9 => q (62 + j9)) c9)), (4, .int (nI 1)), (5, .int (nI c9))]) hx hb dL_cloth_38 rfl hl (by decide) rfl (fun ls hl => ?_)
    refine lv_iload_n hx hb dL_cloth_39 rfl (lv_at hl 3 rfl) ?_
    refine lv_aload_n hx hb dL_cloth_40 rfl (lv_at hl 2 rfl) ?_
    refine lv_iload hx hb dL_cloth_41 (lv_at hl 5 rfl) ?_
    refine lv_iconst (v := nI 4) hx hb dL_cloth_43 (by decide) ?_
    refine cl_L_9 (As := [.int (nI c9), .int (nI 4)]) (rest := [.int (bx_sum (fun j9 => q (62 + j9)) c9)]) hB (f_X10_cloth l g H0 xb lim q n rm sl sv tx ln c9 4 (hC) (by first | assumption | omega) (by first | assumption | omega)) hC.ob rfl hl.1 (Nat.le_of_ble_eq_true rfl) dL_cloth_44 ⟨Nat.le_of_ble_eq_true rfl, Nat.le_of_ble_eq_true rfl⟩ ⟨Nat.le_of_ble_eq_true rfl, Nat.le_of_ble_eq_true rfl⟩ hS (by have hz9 := hS.1; rintro q (h | h) <;> first | exact Or.inr (by omega) | exact h.elim | exact Or.inl h | (simp only [ftA] at h ⊢; omega)) (fun v H1 locs hpo hfr hS => ?_)
    obtain ⟨rfl, rfl⟩ := hpo
    refine W.widen (k := 0) (n := 0) (Nat.le_of_ble_eq_true rfl) (Nat.le_of_ble_eq_true rfl) ?_
    refine lv_iadd hx hb dL_cloth_47 ?_
    refine mh_top (y := .int (bx_sum (fun j9 => q (62 + j9)) (c9 + 1))) (rfl) ?_
    refine lv_istore_n (lv' := [(3, .int (bx_sum (fun j9 => q (62 + j9)) (c9 + 1))), (2, .int (bx_sum (fun j9 => q (56 + j9)) (c9 + 1))), (1, .int (bx_sum (fun j9 => q (50 + j9)) (c9 + 1))), (0, .ref xb), (4, .int (nI 1)), (5, .int (nI c9))]) hx hb dL_cloth_48 rfl hl (by decide) rfl (fun ls hl => ?_)
    refine lv_iconst (v := nI 0) hx hb dL_cloth_49 (by decide) ?_
    refine lv_istore (lv' := [(6, .int (nI 0)), (3, .int (bx_sum (fun j9 => q (62 + j9)) (c9 + 1))), (2, .int (bx_sum (fun j9 => q (56 + j9)) (c9 + 1))), (1, .int (bx_sum (fun j9 => q (50 + j9)) (c9 + 1))), (0, .ref xb), (4, .int (nI 1)), (5, .int (nI c9))]) hx hb dL_cloth_50 hl (by decide) rfl (fun ls hl => ?_)
    refine lv_iconst (v := nI 0) hx hb dL_cloth_52 (by decide) ?_
    refine lv_istore (lv' := [(7, .int (nI 0)), (6, .int (nI 0)), (3, .int (bx_sum (fun j9 => q (62 + j9)) (c9 + 1))), (2, .int (bx_sum (fun j9 => q (56 + j9)) (c9 + 1))), (1, .int (bx_sum (fun j9 => q (50 + j9)) (c9 + 1))), (0, .ref xb), (4, .int (nI 1)), (5, .int (nI c9))]) hx hb dL_cloth_53 hl (by decide) rfl (fun ls hl => ?_)
    refine mh_loopR (σ := Nat) (fun xx9 locs ls => match xx9 with | f9 => f9 ≤ 3 ∧ va_S (ftA (fun _ => False) H0.size) H0 H0 locs ∧ lv_has ls 8 [(0, .ref xb), (1, .int (bx_sum (fun j9 => q (50 + j9)) (c9 + 1))), (2, .int (bx_sum (fun j9 => q (56 + j9)) (c9 + 1))), (3, .int (bx_sum (fun j9 => q (62 + j9)) (c9 + 1))), (4, .int (nI 1)), (5, .int (nI c9)), (6, .int (nI (swC q c9 f9))), (7, .int (nI f9))]) (fun xx9 => match xx9 with | f9 => 3 - f9) ?_ 0 ⟨(by omega), hS, lv_sub hl [5, 4, 3, 2, 6, 7, 1, 0] rfl⟩
    rintro f9 locs ls ⟨hf9, hS, hl⟩ ih
    have ih55 := ih
    have hsl := swC_le (c := c9) hW f9 hf9
    refine lv_iload hx hb dL_cloth_55 (lv_at hl 7 rfl) ?_
    refine lv_iconst (v := nI 3) hx hb dL_cloth_57 (by decide) ?_
    refine mn_icmp_ge (tgt := 81) hB dL_cloth_58 (by decide) (by omega) (by omega) (fun h_58 => ?_) (fun h_58 => ?_)
    · skip
      have hin9 : f9 = 3 := by omega
      subst hin9
      refine lv_iload hx hb dL_cloth_81 (lv_at hl 4 rfl) ?_
      refine mn_if_eq (tgt := 153) hB dL_cloth_83 (by decide) (by omega) (fun h => by exfalso; omega) (fun h_83 => ?_)
      refine lv_aload_n hx hb dL_cloth_86 rfl (lv_at hl 0 rfl) ?_
      refine lv_iload hx hb dL_cloth_87 (lv_at hl 5 rfl) ?_
      refine lv_iconst (v := nI 0) hx hb dL_cloth_89 (by decide) ?_
      refine cl_L_9 (As := [.int (nI c9), .int (nI 0)]) (rest := []) hB (f_X10_cloth l g H0 xb lim q n rm sl sv tx ln c9 0 (hC) (by first | assumption | omega) (by first | assumption | omega)) hC.ob rfl hl.1 (Nat.le_of_ble_eq_true rfl) dL_cloth_90 ⟨Nat.le_of_ble_eq_true rfl, Nat.le_of_ble_eq_true rfl⟩ ⟨Nat.le_of_ble_eq_true rfl, Nat.le_of_ble_eq_true rfl⟩ hS (by have hz9 := hS.1; rintro q (h | h) <;> first | exact Or.inr (by omega) | exact h.elim | exact Or.inl h | (simp only [ftA] at h ⊢; omega)) (fun v H1 locs hpo hfr hS => ?_)
      obtain ⟨rfl, rfl⟩ := hpo
      refine W.widen (k := 0) (n := 0) (Nat.le_of_ble_eq_true rfl) (Nat.le_of_ble_eq_true rfl) ?_
      refine lv_if_lt (tgt := 153) hx hb dL_cloth_93 (by decide) (fun h => absurd h (hA c9 (by omega)).2.1) (fun h_93 => ?_)
      refine lv_aload_n hx hb dL_cloth_96 rfl (lv_at hl 0 rfl) ?_
      refine lv_iload hx hb dL_cloth_97 (lv_at hl 5 rfl) ?_
      refine lv_iconst (v := nI 2) hx hb dL_cloth_99 (by decide) ?_
      refine cl_L_9 (As := [.int (nI c9), .int (nI 2)]) (rest := []) hB (f_X10_cloth l g H0 xb lim q n rm sl sv tx ln c9 2 (hC) (by first | assumption | omega) (by first | assumption | omega)) hC.ob rfl hl.1 (Nat.le_of_ble_eq_true rfl) dL_cloth_100 ⟨Nat.le_of_ble_eq_true rfl, Nat.le_of_ble_eq_true rfl⟩ ⟨Nat.le_of_ble_eq_true rfl, Nat.le_of_ble_eq_true rfl⟩ hS (by have hz9 := hS.1; rintro q (h | h) <;> first | exact Or.inr (by omega) | exact h.elim | exact Or.inl h | (simp only [ftA] at h ⊢; omega)) (fun v H1 locs hpo hfr hS => ?_)
      obtain ⟨rfl, rfl⟩ := hpo
      refine W.widen (k := 0) (n := 0) (Nat.le_of_ble_eq_true rfl) (Nat.le_of_ble_eq_true rfl) ?_
      refine lv_iload hx hb dL_cloth_103 (lv_at hl 6 rfl) ?_
      refine lv_icmp_lt (tgt := 153) hx hb dL_cloth_105 (by decide) (fun h => absurd h (hA c9 (by omega)).2.2) (fun h_105 => ?_)
      refine lv_aload_n hx hb dL_cloth_108 rfl (lv_at hl 0 rfl) ?_
      refine lv_iload hx hb dL_cloth_109 (lv_at hl 5 rfl) ?_
      refine lv_iconst (v := nI 1) hx hb dL_cloth_111 (by decide) ?_
      refine cl_L_9 (As := [.int (nI c9), .int (nI 1)]) (rest := []) hB (f_X10_cloth l g H0 xb lim q n rm sl sv tx ln c9 1 (hC) (by first | assumption | omega) (by first | assumption | omega)) hC.ob rfl hl.1 (Nat.le_of_ble_eq_true rfl) dL_cloth_112 ⟨Nat.le_of_ble_eq_true rfl, Nat.le_of_ble_eq_true rfl⟩ ⟨Nat.le_of_ble_eq_true rfl, Nat.le_of_ble_eq_true rfl⟩ hS (by have hz9 := hS.1; rintro q (h | h) <;> first | exact Or.inr (by omega) | exact h.elim | exact Or.inl h | (simp only [ftA] at h ⊢; omega)) (fun v H1 locs hpo hfr hS => ?_)
      obtain ⟨rfl, rfl⟩ := hpo
      refine W.widen (k := 0) (n := 0) (Nat.le_of_ble_eq_true rfl) (Nat.le_of_ble_eq_true rfl) ?_
      refine lv_aload_n hx hb dL_cloth_115 rfl (lv_at hl 0 rfl) ?_
      refine lv_iload hx hb dL_cloth_116 (lv_at hl 5 rfl) ?_
      refine lv_iconst (v := nI 0) hx hb dL_cloth_118 (by decide) ?_
      refine cl_L_9 (As := [.int (nI c9), .int (nI 0)]) (rest := [.int (coV q c9 1)]) hB (f_X10_cloth l g H0 xb lim q n rm sl sv tx ln c9 0 (hC) (by first | assumption | omega) (by first | assumption | omega)) hC.ob rfl hl.1 (Nat.le_of_ble_eq_true rfl) dL_cloth_119 ⟨Nat.le_of_ble_eq_true rfl, Nat.le_of_ble_eq_true rfl⟩ ⟨Nat.le_of_ble_eq_true rfl, Nat.le_of_ble_eq_true rfl⟩ hS (by have hz9 := hS.1; rintro q (h | h) <;> first | exact Or.inr (by omega) | exact h.elim | exact Or.inl h | (simp only [ftA] at h ⊢; omega)) (fun v H1 locs hpo hfr hS => ?_)
      obtain ⟨rfl, rfl⟩ := hpo
      refine W.widen (k := 0) (n := 0) (Nat.le_of_ble_eq_true rfl) (Nat.le_of_ble_eq_true rfl) ?_
      refine lv_aload_n hx hb dL_cloth_122 rfl (lv_at hl 0 rfl) ?_
      refine lv_iload hx hb dL_cloth_123 (lv_at hl 5 rfl) ?_
      refine lv_iconst (v := nI 2) hx hb dL_cloth_125 (by decide) ?_
      refine cl_L_9 (As := [.int (nI c9), .int (nI 2)]) (rest := [.int (coV q c9 0), .int (coV q c9 1)]) hB (f_X10_cloth l g H0 xb lim q n rm sl sv tx ln c9 2 (hC) (by first | assumption | omega) (by first | assumption | omega)) hC.ob rfl hl.1 (Nat.le_of_ble_eq_true rfl) dL_cloth_126 ⟨Nat.le_of_ble_eq_true rfl, Nat.le_of_ble_eq_true rfl⟩ ⟨Nat.le_of_ble_eq_true rfl, Nat.le_of_ble_eq_true rfl⟩ hS (by have hz9 := hS.1; rintro q (h | h) <;> first | exact Or.inr (by omega) | exact h.elim | exact Or.inl h | (simp only [ftA] at h ⊢; omega)) (fun v H1 locs hpo hfr hS => ?_)
      obtain ⟨rfl, rfl⟩ := hpo
      refine W.widen (k := 0) (n := 0) (Nat.le_of_ble_eq_true rfl) (Nat.le_of_ble_eq_true rfl) ?_
      refine lv_iadd hx hb dL_cloth_129 ?_
      refine lv_aload_n hx hb dL_cloth_130 rfl (lv_at hl 0 rfl) ?_
      refine lv_iload hx hb dL_cloth_131 (lv_at hl 5 rfl) ?_
      refine lv_iconst (v := nI 3) hx hb dL_cloth_133 (by decide) ?_
      refine cl_L_9 (As := [.int (nI c9), .int (nI 3)]) (rest := [.int ((coV q c9 0) + (coV q c9 2)), .int (coV q c9 1)]) hB (f_X10_cloth l g H0 xb lim q n rm sl sv tx ln c9 3 (hC) (by first | assumption | omega) (by first | assumption | omega)) hC.ob rfl hl.1 (Nat.le_of_ble_eq_true rfl) dL_cloth_134 ⟨Nat.le_of_ble_eq_true rfl, Nat.le_of_ble_eq_true rfl⟩ ⟨Nat.le_of_ble_eq_true rfl, Nat.le_of_ble_eq_true rfl⟩ hS (by have hz9 := hS.1; rintro q (h | h) <;> first | exact Or.inr (by omega) | exact h.elim | exact Or.inl h | (simp only [ftA] at h ⊢; omega)) (fun v H1 locs hpo hfr hS => ?_)
      obtain ⟨rfl, rfl⟩ := hpo
      refine W.widen (k := 0) (n := 0) (Nat.le_of_ble_eq_true rfl) (Nat.le_of_ble_eq_true rfl) ?_
      refine lv_iadd hx hb dL_cloth_137 ?_
      refine lv_aload_n hx hb dL_cloth_138 rfl (lv_at hl 0 rfl) ?_
      refine lv_iload hx hb dL_cloth_139 (lv_at hl 5 rfl) ?_
      refine lv_iconst (v := nI 4) hx hb dL_cloth_141 (by decide) ?_
      refine cl_L_9 (As := [.int (nI c9), .int (nI 4)]) (rest := [.int (((coV q c9 0) + (coV q c9 2)) + (coV q c9 3)), .int (coV q c9 1)]) hB (f_X10_cloth l g H0 xb lim q n rm sl sv tx ln c9 4 (hC) (by first | assumption | omega) (by first | assumption | omega)) hC.ob rfl hl.1 (Nat.le_of_ble_eq_true rfl) dL_cloth_142 ⟨Nat.le_of_ble_eq_true rfl, Nat.le_of_ble_eq_true rfl⟩ ⟨Nat.le_of_ble_eq_true rfl, Nat.le_of_ble_eq_true rfl⟩ hS (by have hz9 := hS.1; rintro q (h | h) <;> first | exact Or.inr (by omega) | exact h.elim | exact Or.inl h | (simp only [ftA] at h ⊢; omega)) (fun v H1 locs hpo hfr hS => ?_)
      obtain ⟨rfl, rfl⟩ := hpo
      refine W.widen (k := 0) (n := 0) (Nat.le_of_ble_eq_true rfl) (Nat.le_of_ble_eq_true rfl) ?_
      refine lv_iadd hx hb dL_cloth_145 ?_
      refine lv_icmp_ne (tgt := 153) hx hb dL_cloth_146 (by decide) (fun h => absurd (hA c9 (by omega)).1 h) (fun h_146 => ?_)
      refine lv_iconst (v := nI 1) hx hb dL_cloth_149 (by decide) ?_
      refine lv_goto (tgt := 154) hx hb dL_cloth_150 (by decide) ?_
      refine lv_istore (lv' := [(4, .int (nI 1)), (0, .ref xb), (1, .int (bx_sum (fun j9 => q (50 + j9)) (c9 + 1))), (2, .int (bx_sum (fun j9 => q (56 + j9)) (c9 + 1))), (3, .int (bx_sum (fun j9 => q (62 + j9)) (c9 + 1))), (5, .int (nI c9)), (6, .int (nI (swC q c9 3))), (7, .int (nI 3))]) hx hb dL_cloth_154 hl (by decide) rfl (fun ls hl => ?_)
      refine lv_iinc (v := nI (c9 + 1)) (lv' := [(5, .int (nI (c9 + 1))), (4, .int (nI 1)), (0, .ref xb), (1, .int (bx_sum (fun j9 => q (50 + j9)) (c9 + 1))), (2, .int (bx_sum (fun j9 => q (56 + j9)) (c9 + 1))), (3, .int (bx_sum (fun j9 => q (62 + j9)) (c9 + 1))), (6, .int (nI (swC q c9 3))), (7, .int (nI 3))]) hx hb dL_cloth_156 hl (k := 5) rfl (nI_1 _) (by decide) rfl (fun ls hl => ?_)
      refine lv_goto (tgt := 12) hx hb dL_cloth_159 (by decide) ?_
      refine ih12 (c9 + 1) _ _ ⟨(by omega), hS, lv_sub hl [2, 3, 4, 5, 1, 0] rfl⟩ (by dsimp only; omega)
    · skip
      refine lv_iload hx hb dL_cloth_61 (lv_at hl 6 rfl) ?_
      refine lv_aload_n hx hb dL_cloth_63 rfl (lv_at hl 0 rfl) ?_
      refine lv_iload hx hb dL_cloth_64 (lv_at hl 7 rfl) ?_
      refine lv_iload hx hb dL_cloth_66 (lv_at hl 5 rfl) ?_
      refine lv_iconst (v := nI 1) hx hb dL_cloth_68 (by decide) ?_
      refine cl_L_15 (As := [.int (nI f9), .int (nI c9), .int (nI 1)]) (rest := [.int (nI (swC q c9 f9))]) hB (f_X10_count_1 l g H0 xb lim q n rm sl sv tx ln f9 c9 (hC) (by first | assumption | omega) (by first | assumption | omega)) hC.ob rfl hl.1 (Nat.le_of_ble_eq_true rfl) dL_cloth_69 ⟨Nat.le_of_ble_eq_true rfl, Nat.le_of_ble_eq_true rfl⟩ ⟨Nat.le_of_ble_eq_true rfl, Nat.le_of_ble_eq_true rfl⟩ hS (by have hz9 := hS.1; rintro q (h | h) <;> first | exact Or.inr (by omega) | exact h.elim | exact Or.inl h | (simp only [ftA] at h ⊢; omega)) (fun v H1 locs hpo hfr hS => ?_)
      obtain ⟨rfl, rfl⟩ := hpo
      refine W.widen (k := 0) (n := 0) (Nat.le_of_ble_eq_true rfl) (Nat.le_of_ble_eq_true rfl) ?_
      refine mn_iadd hB dL_cloth_72 ?_
      refine mh_top (y := .int (nI (swC q c9 (f9 + 1)))) (rfl) ?_
      refine lv_istore (lv' := [(6, .int (nI (swC q c9 (f9 + 1)))), (0, .ref xb), (1, .int (bx_sum (fun j9 => q (50 + j9)) (c9 + 1))), (2, .int (bx_sum (fun j9 => q (56 + j9)) (c9 + 1))), (3, .int (bx_sum (fun j9 => q (62 + j9)) (c9 + 1))), (4, .int (nI 1)), (5, .int (nI c9)), (7, .int (nI f9))]) hx hb dL_cloth_73 hl (by decide) rfl (fun ls hl => ?_)
      refine lv_iinc (v := nI (f9 + 1)) (lv' := [(7, .int (nI (f9 + 1))), (6, .int (nI (swC q c9 (f9 + 1)))), (0, .ref xb), (1, .int (bx_sum (fun j9 => q (50 + j9)) (c9 + 1))), (2, .int (bx_sum (fun j9 => q (56 + j9)) (c9 + 1))), (3, .int (bx_sum (fun j9 => q (62 + j9)) (c9 + 1))), (4, .int (nI 1)), (5, .int (nI c9))]) hx hb dL_cloth_75 hl (k := 7) rfl (nI_1 _) (by decide) rfl (fun ls hl => ?_)
      refine lv_goto (tgt := 55) hx hb dL_cloth_78 (by decide) ?_
      refine ih55 (f9 + 1) _ _ ⟨(by omega), hS, lv_sub hl [2, 3, 4, 5, 6, 7, 1, 0] rfl⟩ (by dsimp only; omega)

def rm_c_L_members : Room := { frames := 3, cells := 0, slots := 0, locals := 66 }
set_option maxRecDepth 100000 in
set_option maxHeartbeats 400000 in
theorem c_L_members (l : Launch) (g : GG) (H0 : Heap) (xb : Nat) (lim : Nat) (q : Nat → Int32) (n : Nat) (rm : Nat → Int32) (sl : Nat → Int32) (sv : Nat → Int32) (tx : Nat → Int32) (ln : Nat) (t : Nat) (hC : CLS g xb lim q n rm sl sv tx ln H0) (hSD : SD t q) (ht : t ≤ 60) : Ct l yL_members cL_members 6 (some .boolean) rm_c_L_members g [.ref xb] H0 (ftA (fun _ => False) H0.size) (fun v H1 => v = some (.int (nI 1)) ∧ H0 = H1) := by
  refine Ct.of (by decide) (fun _ h => Or.inr h) (Nat.le_of_ble_eq_true rfl) ?_
  intro p e s m below meth c ls hB hin hS hH hl
  have hx := hB.x
  have hb := hB.b
  have hl : lv_has ls 6 [(0, .ref xb)] := hl
  have hW := hC.wf
  have hZw := hC.wz
  have hM := sd_mem hSD hW hZw
  have hn5 := hW.2.2.1
  have ht5 : tnQ q < 5 := by have := hW.2.2.2.1; omega
  refine lv_iconst (v := nI 0) hx hb dL_members_0 (by decide) ?_
  refine lv_istore_n (lv' := [(1, .int (nI 0)), (0, .ref xb)]) hx hb dL_members_1 rfl hl (by decide) rfl (fun ls hl => ?_)
  refine lv_iconst (v := nI 0) hx hb dL_members_2 (by decide) ?_
  refine lv_istore_n (lv' := [(2, .int (nI 0)), (1, .int (nI 0)), (0, .ref xb)]) hx hb dL_members_3 rfl hl (by decide) rfl (fun ls hl => ?_)
  refine lv_iconst (v := nI 0) hx hb dL_members_4 (by decide) ?_
  refine lv_istore_n (lv' := [(3, .int (nI 0)), (2, .int (nI 0)), (1, .int (nI 0)), (0, .ref xb)]) hx hb dL_members_5 rfl hl (by decide) rfl (fun ls hl => ?_)
  refine lv_iconst (v := nI 0) hx hb dL_members_6 (by decide) ?_
  refine lv_istore (lv' := [(4, .int (nI 0)), (3, .int (nI 0)), (2, .int (nI 0)), (1, .int (nI 0)), (0, .ref xb)]) hx hb dL_members_7 hl (by decide) rfl (fun ls hl => ?_)
  refine lv_iconst (v := nI 0) hx hb dL_members_9 (by decide) ?_
  refine lv_istore (lv' := [(5, .int (nI 0)), (4, .int (nI 0)), (3, .int (nI 0)), (2, .int (nI 0)), (1, .int (nI 0)), (0, .ref xb)]) hx hb dL_members_10 hl (by decide) rfl (fun ls hl => ?_)
  refine mh_loopR (σ := Nat) (fun xx9 locs ls => match xx9 with | m9 => m9 ≤ nmQ q ∧ va_S (ftA (fun _ => False) H0.size) H0 H0 locs ∧ lv_has ls 6 [(0, .ref xb), (1, .int (bx_sum (fun j9 => q (10 + j9)) m9)), (2, .int (bx_sum (fun j9 => meV q j9 2) m9)), (3, .int (bx_sum (fun j9 => q (45 + j9)) m9)), (4, .int (nI 0)), (5, .int (nI m9))]) (fun xx9 => match xx9 with | m9 => nmQ q - m9) ?_ 0 ⟨(by omega), hS, lv_sub hl [5, 4, 3, 2, 1, 0] rfl⟩
  rintro m9 locs ls ⟨hm9, hS, hl⟩ ih
  have ih12 := ih
  refine lv_iload hx hb dL_members_12 (lv_at hl 5 rfl) ?_
  refine lv_aload_n hx hb dL_members_14 rfl (lv_at hl 0 rfl) ?_
  refine lv_iconst (v := nI 0) hx hb dL_members_15 (by decide) ?_
  refine cl_L_19 (As := [.int (nI 0)]) (rest := [.int (nI m9)]) hB (f_X10_about_0 l g H0 xb lim q n rm sl sv tx ln (hC)) hC.ob rfl hl.1 (Nat.le_of_ble_eq_true rfl) dL_members_16 ⟨Nat.le_of_ble_eq_true rfl, Nat.le_of_ble_eq_true rfl⟩ ⟨Nat.le_of_ble_eq_true rfl, Nat.le_of_ble_eq_true rfl⟩ hS (by have hz9 := hS.1; rintro q (h | h) <;> first | exact Or.inr (by omega) | exact h.elim | exact Or.inl h | (simp only [ftA] at h ⊢; omega)) (fun v H1 locs hpo hfr hS => ?_)
  obtain ⟨rfl, rfl⟩ := hpo
  refine W.widen (k := 0) (n := 0) (Nat.le_of_ble_eq_true rfl) (Nat.le_of_ble_eq_true rfl) ?_
  refine mh_top (y := .int (nI (nmQ q))) (by rw [abV_0 hW]) ?_
  refine mn_icmp_ge (tgt := 58) hB dL_members_19 (by decide) (by omega) (by omega) (fun h_19 => ?_) (fun h_19 => ?_)
  · skip
    have hin9 : m9 = nmQ q := by omega
    subst hin9
    refine lv_iconst (v := nI 0) hx hb dL_members_58 (by decide) ?_
    refine lv_istore (lv' := [(5, .int (nI 0)), (0, .ref xb), (1, .int (bx_sum (fun j9 => q (10 + j9)) (nmQ q))), (2, .int (bx_sum (fun j9 => meV q j9 2) (nmQ q))), (3, .int (bx_sum (fun j9 => q (45 + j9)) (nmQ q))), (4, .int (nI 0))]) hx hb dL_members_59 hl (by decide) rfl (fun ls hl => ?_)
    refine mh_loopR (σ := Nat) (fun xx9 locs ls => match xx9 with | c9 => c9 ≤ 6 ∧ va_S (ftA (fun _ => False) H0.size) H0 H0 locs ∧ lv_has ls 6 [(0, .ref xb), (1, .int (bx_sum (fun j9 => q (10 + j9)) (nmQ q))), (2, .int (bx_sum (fun j9 => meV q j9 2) (nmQ q))), (3, .int (bx_sum (fun j9 => q (45 + j9)) (nmQ q))), (4, .int (bx_sum (fun j9 => coV q j9 1) c9)), (5, .int (nI c9))]) (fun xx9 => match xx9 with | c9 => 6 - c9) ?_ 0 ⟨(by omega), hS, lv_sub hl [1, 2, 3, 4, 5, 0] rfl⟩
    rintro c9 locs ls ⟨hc9, hS, hl⟩ ih
    have ih61 := ih
    refine lv_iload hx hb dL_members_61 (lv_at hl 5 rfl) ?_
    refine lv_bipush (v := nI 6) hx hb dL_members_63 (by decide) ?_
    refine mn_icmp_ge (tgt := 86) hB dL_members_65 (by decide) (by omega) (by omega) (fun h_65 => ?_) (fun h_65 => ?_)
    · skip
      have hin9 : c9 = 6 := by omega
      subst hin9
      refine lv_iload_n hx hb dL_members_86 rfl (lv_at hl 1 rfl) ?_
      refine lv_aload_n hx hb dL_members_87 rfl (lv_at hl 0 rfl) ?_
      refine lv_iconst (v := nI 5) hx hb dL_members_88 (by decide) ?_
      refine cl_L_19 (As := [.int (nI 5)]) (rest := [.int (bx_sum (fun j9 => q (10 + j9)) (nmQ q))]) hB (f_X10_about_5 l g H0 xb lim q n rm sl sv tx ln (hC)) hC.ob rfl hl.1 (Nat.le_of_ble_eq_true rfl) dL_members_89 ⟨Nat.le_of_ble_eq_true rfl, Nat.le_of_ble_eq_true rfl⟩ ⟨Nat.le_of_ble_eq_true rfl, Nat.le_of_ble_eq_true rfl⟩ hS (by have hz9 := hS.1; rintro q (h | h) <;> first | exact Or.inr (by omega) | exact h.elim | exact Or.inl h | (simp only [ftA] at h ⊢; omega)) (fun v H1 locs hpo hfr hS => ?_)
      obtain ⟨rfl, rfl⟩ := hpo
      refine W.widen (k := 0) (n := 0) (Nat.le_of_ble_eq_true rfl) (Nat.le_of_ble_eq_true rfl) ?_
      refine lv_icmp_ne (tgt := 157) hx hb dL_members_92 (by decide) (fun h => absurd hM.1 h) (fun h_92 => ?_)
      refine lv_iload_n hx hb dL_members_95 rfl (lv_at hl 2 rfl) ?_
      refine lv_iload hx hb dL_members_96 (lv_at hl 4 rfl) ?_
      refine lv_icmp_ne (tgt := 157) hx hb dL_members_98 (by decide) (fun h => absurd hM.2.1 h) (fun h_98 => ?_)
      refine lv_iload_n hx hb dL_members_101 rfl (lv_at hl 3 rfl) ?_
      refine lv_aload_n hx hb dL_members_102 rfl (lv_at hl 0 rfl) ?_
      refine lv_bipush (v := nI 8) hx hb dL_members_103 (by decide) ?_
      refine cl_L_19 (As := [.int (nI 8)]) (rest := [.int (bx_sum (fun j9 => q (45 + j9)) (nmQ q))]) hB (f_X10_about_8 l g H0 xb lim q n rm sl sv tx ln (hC)) hC.ob rfl hl.1 (Nat.le_of_ble_eq_true rfl) dL_members_105 ⟨Nat.le_of_ble_eq_true rfl, Nat.le_of_ble_eq_true rfl⟩ ⟨Nat.le_of_ble_eq_true rfl, Nat.le_of_ble_eq_true rfl⟩ hS (by have hz9 := hS.1; rintro q (h | h) <;> first | exact Or.inr (by omega) | exact h.elim | exact Or.inl h | (simp only [ftA] at h ⊢; omega)) (fun v H1 locs hpo hfr hS => ?_)
      obtain ⟨rfl, rfl⟩ := hpo
      refine W.widen (k := 0) (n := 0) (Nat.le_of_ble_eq_true rfl) (Nat.le_of_ble_eq_true rfl) ?_
      refine lv_icmp_ne (tgt := 157) hx hb dL_members_108 (by decide) (fun h => absurd hM.2.2 h) (fun h_108 => ?_)
      refine lv_aload_n hx hb dL_members_111 rfl (lv_at hl 0 rfl) ?_
      refine lv_iconst (v := nI 0) hx hb dL_members_112 (by decide) ?_
      refine cl_L_19 (As := [.int (nI 0)]) (rest := []) hB (f_X10_about_0 l g H0 xb lim q n rm sl sv tx ln (hC)) hC.ob rfl hl.1 (Nat.le_of_ble_eq_true rfl) dL_members_113 ⟨Nat.le_of_ble_eq_true rfl, Nat.le_of_ble_eq_true rfl⟩ ⟨Nat.le_of_ble_eq_true rfl, Nat.le_of_ble_eq_true rfl⟩ hS (by have hz9 := hS.1; rintro q (h | h) <;> first | exact Or.inr (by omega) | exact h.elim | exact Or.inl h | (simp only [ftA] at h ⊢; omega)) (fun v H1 locs hpo hfr hS => ?_)
      obtain ⟨rfl, rfl⟩ := hpo
      refine W.widen (k := 0) (n := 0) (Nat.le_of_ble_eq_true rfl) (Nat.le_of_ble_eq_true rfl) ?_
      refine mh_top (y := .int (nI (nmQ q))) (by rw [abV_0 hW]) ?_
      refine mn_if_ne (tgt := 132) hB dL_members_116 (by decide) (by omega) (fun h_116 => ?_) (fun h_116 => ?_)
      · skip
        refine lv_aload_n hx hb dL_members_132 rfl (lv_at hl 0 rfl) ?_
        refine lv_iconst (v := nI 1) hx hb dL_members_133 (by decide) ?_
        refine cl_L_19 (As := [.int (nI 1)]) (rest := []) hB (f_X10_about_1 l g H0 xb lim q n rm sl sv tx ln (hC)) hC.ob rfl hl.1 (Nat.le_of_ble_eq_true rfl) dL_members_134 ⟨Nat.le_of_ble_eq_true rfl, Nat.le_of_ble_eq_true rfl⟩ ⟨Nat.le_of_ble_eq_true rfl, Nat.le_of_ble_eq_true rfl⟩ hS (by have hz9 := hS.1; rintro q (h | h) <;> first | exact Or.inr (by omega) | exact h.elim | exact Or.inl h | (simp only [ftA] at h ⊢; omega)) (fun v H1 locs hpo hfr hS => ?_)
        obtain ⟨rfl, rfl⟩ := hpo
        refine W.widen (k := 0) (n := 0) (Nat.le_of_ble_eq_true rfl) (Nat.le_of_ble_eq_true rfl) ?_
        refine mh_top (y := .int (nI (tnQ q))) (by rw [abV_1 hW (by omega)]) ?_
        refine mn_if_lt (tgt := 157) hB dL_members_137 (by decide) (by omega) (fun h => by exfalso; omega) (fun h_137 => ?_)
        refine lv_aload_n hx hb dL_members_140 rfl (lv_at hl 0 rfl) ?_
        refine lv_iconst (v := nI 1) hx hb dL_members_141 (by decide) ?_
        refine cl_L_19 (As := [.int (nI 1)]) (rest := []) hB (f_X10_about_1 l g H0 xb lim q n rm sl sv tx ln (hC)) hC.ob rfl hl.1 (Nat.le_of_ble_eq_true rfl) dL_members_142 ⟨Nat.le_of_ble_eq_true rfl, Nat.le_of_ble_eq_true rfl⟩ ⟨Nat.le_of_ble_eq_true rfl, Nat.le_of_ble_eq_true rfl⟩ hS (by have hz9 := hS.1; rintro q (h | h) <;> first | exact Or.inr (by omega) | exact h.elim | exact Or.inl h | (simp only [ftA] at h ⊢; omega)) (fun v H1 locs hpo hfr hS => ?_)
        obtain ⟨rfl, rfl⟩ := hpo
        refine W.widen (k := 0) (n := 0) (Nat.le_of_ble_eq_true rfl) (Nat.le_of_ble_eq_true rfl) ?_
        refine mh_top (y := .int (nI (tnQ q))) (by rw [abV_1 hW (by omega)]) ?_
        refine lv_aload_n hx hb dL_members_145 rfl (lv_at hl 0 rfl) ?_
        refine lv_iconst (v := nI 0) hx hb dL_members_146 (by decide) ?_
        refine cl_L_19 (As := [.int (nI 0)]) (rest := [.int (nI (tnQ q))]) hB (f_X10_about_0 l g H0 xb lim q n rm sl sv tx ln (hC)) hC.ob rfl hl.1 (Nat.le_of_ble_eq_true rfl) dL_members_147 ⟨Nat.le_of_ble_eq_true rfl, Nat.le_of_ble_eq_true rfl⟩ ⟨Nat.le_of_ble_eq_true rfl, Nat.le_of_ble_eq_true rfl⟩ hS (by have hz9 := hS.1; rintro q (h | h) <;> first | exact Or.inr (by omega) | exact h.elim | exact Or.inl h | (simp only [ftA] at h ⊢; omega)) (fun v H1 locs hpo hfr hS => ?_)
        obtain ⟨rfl, rfl⟩ := hpo
        refine W.widen (k := 0) (n := 0) (Nat.le_of_ble_eq_true rfl) (Nat.le_of_ble_eq_true rfl) ?_
        refine mh_top (y := .int (nI (nmQ q))) (by rw [abV_0 hW]) ?_
        refine mn_icmp_ge (tgt := 157) hB dL_members_150 (by decide) (by omega) (by omega) (fun h => by exfalso; have h8 := tn_lt hW (by omega); omega) (fun h_150 => ?_)
        refine lv_iconst (v := nI 1) hx hb dL_members_153 (by decide) ?_
        refine lv_goto (tgt := 158) hx hb dL_members_154 (by decide) ?_
        refine mh_zret hB ⟨Nat.le_of_ble_eq_true rfl, Nat.le_of_ble_eq_true rfl⟩ hS dL_members_158 (by first | rfl | decide | (split <;> rfl)) ⟨?_, rfl⟩
        · rfl
      · skip
        refine lv_aload_n hx hb dL_members_119 rfl (lv_at hl 0 rfl) ?_
        refine lv_iconst (v := nI 1) hx hb dL_members_120 (by decide) ?_
        refine cl_L_19 (As := [.int (nI 1)]) (rest := []) hB (f_X10_about_1 l g H0 xb lim q n rm sl sv tx ln (hC)) hC.ob rfl hl.1 (Nat.le_of_ble_eq_true rfl) dL_members_121 ⟨Nat.le_of_ble_eq_true rfl, Nat.le_of_ble_eq_true rfl⟩ ⟨Nat.le_of_ble_eq_true rfl, Nat.le_of_ble_eq_true rfl⟩ hS (by have hz9 := hS.1; rintro q (h | h) <;> first | exact Or.inr (by omega) | exact h.elim | exact Or.inl h | (simp only [ftA] at h ⊢; omega)) (fun v H1 locs hpo hfr hS => ?_)
        obtain ⟨rfl, rfl⟩ := hpo
        refine W.widen (k := 0) (n := 0) (Nat.le_of_ble_eq_true rfl) (Nat.le_of_ble_eq_true rfl) ?_
        refine mh_top (y := .int (-9)) (by rw [abV_1n (by omega)]) ?_
        refine lv_bipush (v := (-9)) hx hb dL_members_124 (by decide) ?_
        refine lv_icmp_ne (tgt := 157) hx hb dL_members_126 (by decide) (fun h => absurd rfl h) (fun h_126 => ?_)
        refine lv_goto (tgt := 153) hx hb dL_members_129 (by decide) ?_
        refine lv_iconst (v := nI 1) hx hb dL_members_153 (by decide) ?_
        refine lv_goto (tgt := 158) hx hb dL_members_154 (by decide) ?_
        refine mh_zret hB ⟨Nat.le_of_ble_eq_true rfl, Nat.le_of_ble_eq_true rfl⟩ hS dL_members_158 (by first | rfl | decide | (split <;> rfl)) ⟨?_, rfl⟩
        · rfl
    · skip
      refine lv_iload hx hb dL_members_68 (lv_at hl 4 rfl) ?_
      refine lv_aload_n hx hb dL_members_70 rfl (lv_at hl 0 rfl) ?_
      refine lv_iload hx hb dL_members_71 (lv_at hl 5 rfl) ?_
      refine lv_iconst (v := nI 1) hx hb dL_members_73 (by decide) ?_
      refine cl_L_9 (As := [.int (nI c9), .int (nI 1)]) (rest := [.int (bx_sum (fun j9 => coV q j9 1) c9)]) hB (f_X10_cloth l g H0 xb lim q n rm sl sv tx ln c9 1 (hC) (by first | assumption | omega) (by first | assumption | omega)) hC.ob rfl hl.1 (Nat.le_of_ble_eq_true rfl) dL_members_74 ⟨Nat.le_of_ble_eq_true rfl, Nat.le_of_ble_eq_true rfl⟩ ⟨Nat.le_of_ble_eq_true rfl, Nat.le_of_ble_eq_true rfl⟩ hS (by have hz9 := hS.1; rintro q (h | h) <;> first | exact Or.inr (by omega) | exact h.elim | exact Or.inl h | (simp only [ftA] at h ⊢; omega)) (fun v H1 locs hpo hfr hS => ?_)
      obtain ⟨rfl, rfl⟩ := hpo
      refine W.widen (k := 0) (n := 0) (Nat.le_of_ble_eq_true rfl) (Nat.le_of_ble_eq_true rfl) ?_
      refine lv_iadd hx hb dL_members_77 ?_
      refine mh_top (y := .int (bx_sum (fun j9 => coV q j9 1) (c9 + 1))) (rfl) ?_
      refine lv_istore (lv' := [(4, .int (bx_sum (fun j9 => coV q j9 1) (c9 + 1))), (0, .ref xb), (1, .int (bx_sum (fun j9 => q (10 + j9)) (nmQ q))), (2, .int (bx_sum (fun j9 => meV q j9 2) (nmQ q))), (3, .int (bx_sum (fun j9 => q (45 + j9)) (nmQ q))), (5, .int (nI c9))]) hx hb dL_members_78 hl (by decide) rfl (fun ls hl => ?_)
      refine lv_iinc (v := nI (c9 + 1)) (lv' := [(5, .int (nI (c9 + 1))), (4, .int (bx_sum (fun j9 => coV q j9 1) (c9 + 1))), (0, .ref xb), (1, .int (bx_sum (fun j9 => q (10 + j9)) (nmQ q))), (2, .int (bx_sum (fun j9 => meV q j9 2) (nmQ q))), (3, .int (bx_sum (fun j9 => q (45 + j9)) (nmQ q)))]) hx hb dL_members_80 hl (k := 5) rfl (nI_1 _) (by decide) rfl (fun ls hl => ?_)
      refine lv_goto (tgt := 61) hx hb dL_members_83 (by decide) ?_
      refine ih61 (c9 + 1) _ _ ⟨(by omega), hS, lv_sub hl [2, 3, 4, 5, 1, 0] rfl⟩ (by dsimp only; omega)
  · skip
    refine lv_iload_n hx hb dL_members_22 rfl (lv_at hl 1 rfl) ?_
    refine lv_aload_n hx hb dL_members_23 rfl (lv_at hl 0 rfl) ?_
    refine lv_iload hx hb dL_members_24 (lv_at hl 5 rfl) ?_
    refine lv_iconst (v := nI 1) hx hb dL_members_26 (by decide) ?_
    refine cl_L_23 (As := [.int (nI m9), .int (nI 1)]) (rest := [.int (bx_sum (fun j9 => q (10 + j9)) m9)]) hB (f_X10_member_1 l g H0 xb lim q n rm sl sv tx ln m9 (hC) (by first | assumption | omega)) hC.ob rfl hl.1 (Nat.le_of_ble_eq_true rfl) dL_members_27 ⟨Nat.le_of_ble_eq_true rfl, Nat.le_of_ble_eq_true rfl⟩ ⟨Nat.le_of_ble_eq_true rfl, Nat.le_of_ble_eq_true rfl⟩ hS (by have hz9 := hS.1; rintro q (h | h) <;> first | exact Or.inr (by omega) | exact h.elim | exact Or.inl h | (simp only [ftA] at h ⊢; omega)) (fun v H1 locs hpo hfr hS => ?_)
    obtain ⟨rfl, rfl⟩ := hpo
    refine W.widen (k := 0) (n := 0) (Nat.le_of_ble_eq_true rfl) (Nat.le_of_ble_eq_true rfl) ?_
    refine lv_iadd hx hb dL_members_30 ?_
    refine mh_top (y := .int (bx_sum (fun j9 => q (10 + j9)) (m9 + 1))) (rfl) ?_
    refine lv_istore_n (lv' := [(1, .int (bx_sum (fun j9 => q (10 + j9)) (m9 + 1))), (0, .ref xb), (2, .int (bx_sum (fun j9 => meV q j9 2) m9)), (3, .int (bx_sum (fun j9 => q (45 + j9)) m9)), (4, .int (nI 0)), (5, .int (nI m9))]) hx hb dL_members_31 rfl hl (by decide) rfl (fun ls hl => ?_)
    refine lv_iload_n hx hb dL_members_32 rfl (lv_at hl 2 rfl) ?_
    refine lv_aload_n hx hb dL_members_33 rfl (lv_at hl 1 rfl) ?_
    refine lv_iload hx hb dL_members_34 (lv_at hl 5 rfl) ?_
    refine lv_iconst (v := nI 2) hx hb dL_members_36 (by decide) ?_
    refine cl_L_23 (As := [.int (nI m9), .int (nI 2)]) (rest := [.int (bx_sum (fun j9 => meV q j9 2) m9)]) hB (f_X10_member_2 l g H0 xb lim q n rm sl sv tx ln m9 (hC) (by first | assumption | omega)) hC.ob rfl hl.1 (Nat.le_of_ble_eq_true rfl) dL_members_37 ⟨Nat.le_of_ble_eq_true rfl, Nat.le_of_ble_eq_true rfl⟩ ⟨Nat.le_of_ble_eq_true rfl, Nat.le_of_ble_eq_true rfl⟩ hS (by have hz9 := hS.1; rintro q (h | h) <;> first | exact Or.inr (by omega) | exact h.elim | exact Or.inl h | (simp only [ftA] at h ⊢; omega)) (fun v H1 locs hpo hfr hS => ?_)
    obtain ⟨rfl, rfl⟩ := hpo
    refine W.widen (k := 0) (n := 0) (Nat.le_of_ble_eq_true rfl) (Nat.le_of_ble_eq_true rfl) ?_
    refine lv_iadd hx hb dL_members_40 ?_
    refine mh_top (y := .int (bx_sum (fun j9 => meV q j9 2) (m9 + 1))) (rfl) ?_
    refine lv_istore_n (lv' := [(2, .int (bx_sum (fun j9 => meV q j9 2) (m9 + 1))), (1, .int (bx_sum (fun j9 => q (10 + j9)) (m9 + 1))), (0, .ref xb), (3, .int (bx_sum (fun j9 => q (45 + j9)) m9)), (4, .int (nI 0)), (5, .int (nI m9))]) hx hb dL_members_41 rfl hl (by decide) rfl (fun ls hl => ?_)
    refine lv_iload_n hx hb dL_members_42 rfl (lv_at hl 3 rfl) ?_
    refine lv_aload_n hx hb dL_members_43 rfl (lv_at hl 2 rfl) ?_
    refine lv_iload hx hb dL_members_44 (lv_at hl 5 rfl) ?_
    refine lv_iconst (v := nI 3) hx hb dL_members_46 (by decide) ?_
    refine cl_L_23 (As := [.int (nI m9), .int (nI 3)]) (rest := [.int (bx_sum (fun j9 => q (45 + j9)) m9)]) hB (f_X10_member_3 l g H0 xb lim q n rm sl sv tx ln m9 (hC) (by first | assumption | omega)) hC.ob rfl hl.1 (Nat.le_of_ble_eq_true rfl) dL_members_47 ⟨Nat.le_of_ble_eq_true rfl, Nat.le_of_ble_eq_true rfl⟩ ⟨Nat.le_of_ble_eq_true rfl, Nat.le_of_ble_eq_true rfl⟩ hS (by have hz9 := hS.1; rintro q (h | h) <;> first | exact Or.inr (by omega) | exact h.elim | exact Or.inl h | (simp only [ftA] at h ⊢; omega)) (fun v H1 locs hpo hfr hS => ?_)
    obtain ⟨rfl, rfl⟩ := hpo
    refine W.widen (k := 0) (n := 0) (Nat.le_of_ble_eq_true rfl) (Nat.le_of_ble_eq_true rfl) ?_
    refine lv_iadd hx hb dL_members_50 ?_
    refine mh_top (y := .int (bx_sum (fun j9 => q (45 + j9)) (m9 + 1))) (rfl) ?_
    refine lv_istore_n (lv' := [(3, .int (bx_sum (fun j9 => q (45 + j9)) (m9 + 1))), (2, .int (bx_sum (fun j9 => meV q j9 2) (m9 + 1))), (1, .int (bx_sum (fun j9 => q (10 + j9)) (m9 + 1))), (0, .ref xb), (4, .int (nI 0)), (5, .int (nI m9))]) hx hb dL_members_51 rfl hl (by decide) rfl (fun ls hl => ?_)
    refine lv_iinc (v := nI (m9 + 1)) (lv' := [(5, .int (nI (m9 + 1))), (3, .int (bx_sum (fun j9 => q (45 + j9)) (m9 + 1))), (2, .int (bx_sum (fun j9 => meV q j9 2) (m9 + 1))), (1, .int (bx_sum (fun j9 => q (10 + j9)) (m9 + 1))), (0, .ref xb), (4, .int (nI 0))]) hx hb dL_members_52 hl (k := 5) rfl (nI_1 _) (by decide) rfl (fun ls hl => ?_)
    refine lv_goto (tgt := 12) hx hb dL_members_55 (by decide) ?_
    refine ih12 (m9 + 1) _ _ ⟨(by omega), hS, lv_sub hl [4, 3, 2, 1, 5, 0] rfl⟩ (by dsimp only; omega)

