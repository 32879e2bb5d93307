def rm_c_L_gets_n : Room := { frames := 4, cells := 0, slots := 0, locals := 84 }
set_option maxRecDepth 100000 in
set_option maxHeartbeats 400000 in
theorem c_L_gets_n (l : Launch) (g : GG) (H0 : Heap) (xb : Nat) (lim : Nat) (q : Nat → Int32) (n : Nat) (rm : Nat → Int32) (sl : Nat → Int32) (sv : Nat → Int32) (tx : Nat → Int32) (ln : Nat) (f : Nat) (p0 : Nat) (hC : CLS g xb lim q n rm sl sv tx ln H0) (hf : f < 3) (hp : p0 < 10000) (hnf : ¬ (0 < szF q f ∧ swF q f = szF q f)) : Ct l yL_gets cL_gets 10 (some .boolean) rm_c_L_gets_n g [.ref xb, .int (nI f), .int (nI p0)] H0 (ftA (fun _ => False) H0.size) (fun v H1 => v = some (.int (nI 1)) ∧ H0 = H1) := by
  refine Ct.of (by decide) (fun _ h => Or.inr h) (Nat.le_of_ble_eq_true rfl) ?_
  intro p e s m below meth c ls hB hin hS hH hl
  have hx := hB.x
  have hb := hB.b
  have hl : lv_has ls 10 [(0, .ref xb), (1, .int (nI f)), (2, .int (nI p0))] := hl
  have hW := hC.wf
  have hZw := hC.wz
  have hF := hW.fr hf
  have hz6 := WF.sz hF
  have hsw := WF.sw hF
  have hszd : szF q f = wdF q f * htF q f := rfl
  have hw16 := hF.w16
  have hh16 := hF.h16
  have hn5 := hW.2.2.1
  refine lv_aload_n hx hb dL_gets_0 rfl (lv_at hl 0 rfl) ?_
  refine lv_iload_n hx hb dL_gets_1 rfl (lv_at hl 1 rfl) ?_
  refine lv_iconst (v := nI 0) hx hb dL_gets_2 (by decide) ?_
  refine cl_L_26 (As := [.int (nI f), .int (nI 0)]) (rest := []) hB (f_X10_frame_0 l g H0 xb lim q n rm sl sv tx ln f (hC) (by first | assumption | omega)) hC.ob rfl hl.1 (Nat.le_of_ble_eq_true rfl) dL_gets_3 ⟨Nat.le_of_ble_eq_true rfl, Nat.le_of_ble_eq_true rfl⟩ ⟨Nat.le_of_ble_eq_true rfl, Nat.le_of_ble_eq_true rfl⟩ hS (by have hz9 := hS.1; rintro q (h | h) <;> first | exact Or.inr (by omega) | exact h.elim | exact Or.inl h | (simp only [ftA] at h ⊢; omega)) (fun v H1 locs hpo hfr hS => ?_)
  obtain ⟨rfl, rfl⟩ := hpo
  refine W.widen (k := 0) (n := 0) (Nat.le_of_ble_eq_true rfl) (Nat.le_of_ble_eq_true rfl) ?_
  refine mh_top (y := .int (nI (wdF q f))) (by rw [hF.w]) ?_
  refine mn_if_le (tgt := 35) hB dL_gets_6 (by decide) (by omega) (fun h_6 => ?_) (fun h_6 => ?_)
  · skip
    refine lv_iconst (v := nI 0) hx hb dL_gets_35 (by decide) ?_
    refine lv_istore_n (lv' := [(3, .int (nI 0)), (0, .ref xb), (1, .int (nI f)), (2, .int (nI p0))]) hx hb dL_gets_36 rfl hl (by decide) rfl (fun ls hl => ?_)
    refine lv_iconst (v := nI 0) hx hb dL_gets_37 (by decide) ?_
    refine lv_istore (lv' := [(4, .int (nI 0)), (3, .int (nI 0)), (0, .ref xb), (1, .int (nI f)), (2, .int (nI p0))]) hx hb dL_gets_38 hl (by decide) rfl (fun ls hl => ?_)
    refine lv_iconst (v := nI 0) hx hb dL_gets_40 (by decide) ?_
    refine lv_istore (lv' := [(5, .int (nI 0)), (4, .int (nI 0)), (3, .int (nI 0)), (0, .ref xb), (1, .int (nI f)), (2, .int (nI p0))]) hx hb dL_gets_41 hl (by decide) rfl (fun ls hl => ?_)
    refine mh_loopR (σ := Nat) (fun xx9 locs ls => match xx9 with | m9 => m9 ≤ nmQ q ∧ va_S (ftA (fun _ => False) H0.size) H0 H0 locs ∧ lv_has ls 10 [(0, .ref xb), (1, .int (nI f)), (2, .int (nI p0)), (3, .int (nI 0)), (4, .int (nI 0)), (5, .int (nI m9))]) (fun xx9 => match xx9 with | m9 => nmQ q - m9) ?_ 0 ⟨(by omega), hS, lv_sub hl [3, 4, 5, 2, 1, 0] rfl⟩
    rintro m9 locs ls ⟨hm9, hS, hl⟩ ih
    have ih43 := ih
    refine lv_iload hx hb dL_gets_43 (lv_at hl 5 rfl) ?_
    refine lv_aload_n hx hb dL_gets_45 rfl (lv_at hl 0 rfl) ?_
    refine lv_iconst (v := nI 0) hx hb dL_gets_46 (by decide) ?_
    refine cl_L_19 (As := [.int (nI 0)]) (rest := [.int (nI m9)]) hB (f_X10_about_0 l g H0 xb lim q n rm sl sv tx ln (hC)) hC.ob rfl hl.1 (Nat.le_of_ble_eq_true rfl) dL_gets_47 ⟨Nat.le_of_ble_eq_true rfl, Nat.le_of_ble_eq_true rfl⟩ ⟨Nat.le_of_ble_eq_true rfl, Nat.le_of_ble_eq_true rfl⟩ hS (by have hz9 := hS.1; rintro q (h | h) <;> first | exact Or.inr (by omega) | exact h.elim | exact Or.inl h | (simp only [ftA] at h ⊢; omega)) (fun v H1 locs hpo hfr hS => ?_)
    obtain ⟨rfl, rfl⟩ := hpo
    refine W.widen (k := 0) (n := 0) (Nat.le_of_ble_eq_true rfl) (Nat.le_of_ble_eq_true rfl) ?_
    refine mh_top (y := .int (nI (nmQ q))) (by rw [abV_0 hW]) ?_
    refine mn_icmp_ge (tgt := 99) hB dL_gets_50 (by decide) (by omega) (by omega) (fun h_50 => ?_) (fun h_50 => ?_)
    · skip
      have hin9 : m9 = nmQ q := by omega
      subst hin9
      refine lv_iload_n hx hb dL_gets_99 rfl (lv_at hl 3 rfl) ?_
      refine mn_if_ne (tgt := 114) hB dL_gets_100 (by decide) (by omega) (fun h => by exfalso; omega) (fun h_100 => ?_)
      refine lv_iload hx hb dL_gets_103 (lv_at hl 4 rfl) ?_
      refine mn_if_ne (tgt := 112) hB dL_gets_105 (by decide) (by omega) (fun h => by exfalso; omega) (fun h_105 => ?_)
      refine lv_iconst (v := nI 1) hx hb dL_gets_108 (by decide) ?_
      refine lv_goto (tgt := 113) hx hb dL_gets_109 (by decide) ?_
      refine mh_zret hB ⟨Nat.le_of_ble_eq_true rfl, Nat.le_of_ble_eq_true rfl⟩ hS dL_gets_113 (by first | rfl | decide | (split <;> rfl)) ⟨?_, rfl⟩
      · rfl
    · skip
      refine lv_iload hx hb dL_gets_53 (lv_at hl 4 rfl) ?_
      refine lv_iload_n hx hb dL_gets_55 rfl (lv_at hl 3 rfl) ?_
      refine mn_if_eq (tgt := 70) hB dL_gets_56 (by decide) (by omega) (fun h_56 => ?_) (fun h => by exfalso; omega)
      refine lv_aload_n hx hb dL_gets_70 rfl (lv_at hl 0 rfl) ?_
      refine lv_iload_n hx hb dL_gets_71 rfl (lv_at hl 1 rfl) ?_
      refine lv_iload hx hb dL_gets_72 (lv_at hl 5 rfl) ?_
      refine lv_iload_n hx hb dL_gets_74 rfl (lv_at hl 2 rfl) ?_
      refine cl_L_40 (As := [.int (nI f), .int (nI m9), .int (nI p0)]) (rest := [.int (nI 0)]) hB (f_X10_wouldGet_no l g H0 xb lim q n rm sl sv tx ln f m9 p0 (hC) (by first | assumption | omega) (by first | assumption | omega) (by first | assumption | omega) (hnf)) hC.ob rfl hl.1 (Nat.le_of_ble_eq_true rfl) dL_gets_75 ⟨Nat.le_of_ble_eq_true rfl, Nat.le_of_ble_eq_true rfl⟩ ⟨Nat.le_of_ble_eq_true rfl, Nat.le_of_ble_eq_true rfl⟩ hS (by have hz9 := hS.1; rintro q (h | h) <;> first | exact Or.inr (by omega) | exact h.elim | exact Or.inl h | (simp only [ftA] at h ⊢; omega)) (fun v H1 locs hpo hfr hS => ?_)
      obtain ⟨rfl, rfl⟩ := hpo
      refine W.widen (k := 0) (n := 0) (Nat.le_of_ble_eq_true rfl) (Nat.le_of_ble_eq_true rfl) ?_
      refine lv_bipush (v := (-9)) hx hb dL_gets_78 (by decide) ?_
      refine lv_icmp_ne (tgt := 87) hx hb dL_gets_80 (by decide) (fun h => absurd rfl h) (fun h_80 => ?_)
      refine lv_iconst (v := nI 0) hx hb dL_gets_83 (by decide) ?_
      refine lv_goto (tgt := 90) hx hb dL_gets_84 (by decide) ?_
      refine mn_iadd hB dL_gets_90 ?_
      refine mh_top (y := .int (nI 0)) (rfl) ?_
      refine lv_istore (lv' := [(4, .int (nI 0)), (0, .ref xb), (1, .int (nI f)), (2, .int (nI p0)), (3, .int (nI 0)), (5, .int (nI m9))]) hx hb dL_gets_91 hl (by decide) rfl (fun ls hl => ?_)
      refine lv_iinc (v := nI (m9 + 1)) (lv' := [(5, .int (nI (m9 + 1))), (4, .int (nI 0)), (0, .ref xb), (1, .int (nI f)), (2, .int (nI p0)), (3, .int (nI 0))]) hx hb dL_gets_93 hl (k := 5) rfl (nI_1 _) (by decide) rfl (fun ls hl => ?_)
      refine lv_goto (tgt := 43) hx hb dL_gets_96 (by decide) ?_
      refine ih43 (m9 + 1) _ _ ⟨(by omega), hS, lv_sub hl [2, 3, 4, 5, 1, 0] rfl⟩ (by dsimp only; omega)
  · skip
    refine lv_aload_n hx hb dL_gets_9 rfl (lv_at hl 0 rfl) ?_
    refine lv_iload_n hx hb dL_gets_10 rfl (lv_at hl 1 rfl) ?_
    refine lv_iconst (v := nI 2) hx hb dL_gets_11 (by decide) ?_
    refine cl_L_26 (As := [.int (nI f), .int (nI 2)]) (rest := []) hB (f_X10_frame_2 l g H0 xb lim q n rm sl sv tx ln f (hC) (by first | assumption | omega)) hC.ob rfl hl.1 (Nat.le_of_ble_eq_true rfl) dL_gets_12 ⟨Nat.le_of_ble_eq_true rfl, Nat.le_of_ble_eq_true rfl⟩ ⟨Nat.le_of_ble_eq_true rfl, Nat.le_of_ble_eq_true rfl⟩ hS (by have hz9 := hS.1; rintro q (h | h) <;> first | exact Or.inr (by omega) | exact h.elim | exact Or.inl h | (simp only [ftA] at h ⊢; omega)) (fun v H1 locs hpo hfr hS => ?_)
    obtain ⟨rfl, rfl⟩ := hpo
    refine W.widen (k := 0) (n := 0) (Nat.le_of_ble_eq_true rfl) (Nat.le_of_ble_eq_true rfl) ?_
    refine mh_top (y := .int (nI (swF q f))) (by rw [hF.s]) ?_
    refine lv_aload_n hx hb dL_gets_15 rfl (lv_at hl 0 rfl) ?_
    refine lv_iload_n hx hb dL_gets_16 rfl (lv_at hl 1 rfl) ?_
    refine lv_iconst (v := nI 0) hx hb dL_gets_17 (by decide) ?_
    refine cl_L_26 (As := [.int (nI f), .int (nI 0)]) (rest := [.int (nI (swF q f))]) hB (f_X10_frame_0 l g H0 xb lim q n rm sl sv tx ln f (hC) (by first | assumption | omega)) hC.ob rfl hl.1 (Nat.le_of_ble_eq_true rfl) dL_gets_18 ⟨Nat.le_of_ble_eq_true rfl, Nat.le_of_ble_eq_true rfl⟩ ⟨Nat.le_of_ble_eq_true rfl, Nat.le_of_ble_eq_true rfl⟩ hS (by have hz9 := hS.1; rintro q (h | h) <;> first | exact Or.inr (by omega) | exact h.elim | exact Or.inl h | (simp only [ftA] at h ⊢; omega)) (fun v H1 locs hpo hfr hS => ?_)
    obtain ⟨rfl, rfl⟩ := hpo
    refine W.widen (k := 0) (n := 0) (Nat.le_of_ble_eq_true rfl) (Nat.le_of_ble_eq_true rfl) ?_
    refine mh_top (y := .int (nI (wdF q f))) (by rw [hF.w]) ?_
    refine lv_aload_n hx hb dL_gets_21 rfl (lv_at hl 0 rfl) ?_
    refine lv_iload_n hx hb dL_gets_22 rfl (lv_at hl 1 rfl) ?_
    refine lv_iconst (v := nI 1) hx hb dL_gets_23 (by decide) ?_
    refine cl_L_26 (As := [.int (nI f), .int (nI 1)]) (rest := [.int (nI (wdF q f)), .int (nI (swF q f))]) hB (f_X10_frame_1 l g H0 xb lim q n rm sl sv tx ln f (hC) (by first | assumption | omega)) hC.ob rfl hl.1 (Nat.le_of_ble_eq_true rfl) dL_gets_24 ⟨Nat.le_of_ble_eq_true rfl, Nat.le_of_ble_eq_true rfl⟩ ⟨Nat.le_of_ble_eq_true rfl, Nat.le_of_ble_eq_true rfl⟩ hS (by have hz9 := hS.1; rintro q (h | h) <;> first | exact Or.inr (by omega) | exact h.elim | exact Or.inl h | (simp only [ftA] at h ⊢; omega)) (fun v H1 locs hpo hfr hS => ?_)
    obtain ⟨rfl, rfl⟩ := hpo
    refine W.widen (k := 0) (n := 0) (Nat.le_of_ble_eq_true rfl) (Nat.le_of_ble_eq_true rfl) ?_
    refine mh_top (y := .int (nI (htF q f))) (by rw [hF.h]) ?_
    refine mn_imul hB dL_gets_27 ?_
    refine mn_icmp_ne (tgt := 35) hB dL_gets_28 (by decide) (by omega) (by omega) (fun h_28 => ?_) (fun h => by exfalso; have h8 := wd_sz hF (by omega); omega)
    refine lv_iconst (v := nI 0) hx hb dL_gets_35 (by decide) ?_
    refine lv_istore_n (lv' := [(3, .int (nI 0)), (0, .ref xb), (1, .int (nI f)), (2, .int (nI p0))]) hx hb dL_gets_36 rfl hl (by decide) rfl (fun ls hl => ?_)
    refine lv_iconst (v := nI 0) hx hb dL_gets_37 (by decide) ?_
    refine lv_istore (lv' := [(4, .int (nI 0)), (3, .int (nI 0)), (0, .ref xb), (1, .int (nI f)), (2, .int (nI p0))]) hx hb dL_gets_38 hl (by decide) rfl (fun ls hl => ?_)
    refine lv_iconst (v := nI 0) hx hb dL_gets_40 (by decide) ?_
    refine lv_istore (lv' := [(5, .int (nI 0)), (4, .int (nI 0)), (3, .int (nI 0)), (0, .ref xb), (1, .int (nI f)), (2, .int (nI p0))]) hx hb dL_gets_41 hl (by decide) rfl (fun ls hl => ?_)
    refine mh_loopR (σ := Nat) (fun xx9 locs ls => match xx9 with | m9 => m9 ≤ nmQ q ∧ va_S (ftA (fun _ => False) H0.size) H0 H0 locs ∧ lv_has ls 10 [(0, .ref xb), (1, .int (nI f)), (2, .int (nI p0)), (3, .int (nI 0)), (4, .int (nI 0)), (5, .int (nI m9))]) (fun xx9 => match xx9 with | m9 => nmQ q - m9) ?_ 0 ⟨(by omega), hS, lv_sub hl [3, 4, 5, 2, 1, 0] rfl⟩
    rintro m9 locs ls ⟨hm9, hS, hl⟩ ih
    have ih43 := ih
    refine lv_iload hx hb dL_gets_43 (lv_at hl 5 rfl) ?_
    refine lv_aload_n hx hb dL_gets_45 rfl (lv_at hl 0 rfl) ?_
    refine lv_iconst (v := nI 0) hx hb dL_gets_46 (by decide) ?_
    refine cl_L_19 (As := [.int (nI 0)]) (rest := [.int (nI m9)]) hB (f_X10_about_0 l g H0 xb lim q n rm sl sv tx ln (hC)) hC.ob rfl hl.1 (Nat.le_of_ble_eq_true rfl) dL_gets_47 ⟨Nat.le_of_ble_eq_true rfl, Nat.le_of_ble_eq_true rfl⟩ ⟨Nat.le_of_ble_eq_true rfl, Nat.le_of_ble_eq_true rfl⟩ hS (by have hz9 := hS.1; rintro q (h | h) <;> first | exact Or.inr (by omega) | exact h.elim | exact Or.inl h | (simp only [ftA] at h ⊢; omega)) (fun v H1 locs hpo hfr hS => ?_)
    obtain ⟨rfl, rfl⟩ := hpo
    refine W.widen (k := 0) (n := 0) (Nat.le_of_ble_eq_true rfl) (Nat.le_of_ble_eq_true rfl) ?_
    refine mh_top (y := .int (nI (nmQ q))) (by rw [abV_0 hW]) ?_
    refine mn_icmp_ge (tgt := 99) hB dL_gets_50 (by decide) (by omega) (by omega) (fun h_50 => ?_) (fun h_50 => ?_)
    · skip
      have hin9 : m9 = nmQ q := by omega
      subst hin9
      refine lv_iload_n hx hb dL_gets_99 rfl (lv_at hl 3 rfl) ?_
      refine mn_if_ne (tgt := 114) hB dL_gets_100 (by decide) (by omega) (fun h => by exfalso; omega) (fun h_100 => ?_)
      refine lv_iload hx hb dL_gets_103 (lv_at hl 4 rfl) ?_
      refine mn_if_ne (tgt := 112) hB dL_gets_105 (by decide) (by omega) (fun h => by exfalso; omega) (fun h_105 => ?_)
      refine lv_iconst (v := nI 1) hx hb dL_gets_108 (by decide) ?_
      refine lv_goto (tgt := 113) hx hb dL_gets_109 (by decide) ?_
      refine mh_zret hB ⟨Nat.le_of_ble_eq_true rfl, Nat.le_of_ble_eq_true rfl⟩ hS dL_gets_113 (by first | rfl | decide | (split <;> rfl)) ⟨?_, rfl⟩
      · rfl
    · skip
      refine lv_iload hx hb dL_gets_53 (lv_at hl 4 rfl) ?_
      refine lv_iload_n hx hb dL_gets_55 rfl (lv_at hl 3 rfl) ?_
      refine mn_if_eq (tgt := 70) hB dL_gets_56 (by decide) (by omega) (fun h_56 => ?_) (fun h => by exfalso; omega)
      refine lv_aload_n hx hb dL_gets_70 rfl (lv_at hl 0 rfl) ?_
      refine lv_iload_n hx hb dL_gets_71 rfl (lv_at hl 1 rfl) ?_
      refine lv_iload hx hb dL_gets_72 (lv_at hl 5 rfl) ?_
      refine lv_iload_n hx hb dL_gets_74 rfl (lv_at hl 2 rfl) ?_
      refine cl_L_40 (As := [.int (nI f), .int (nI m9), .int (nI p0)]) (rest := [.int (nI 0)]) hB (f_X10_wouldGet_no l g H0 xb lim q n rm sl sv tx ln f m9 p0 (hC) (by first | assumption | omega) (by first | assumption | omega) (by first | assumption | omega) (hnf)) hC.ob rfl hl.1 (Nat.le_of_ble_eq_true rfl) dL_gets_75 ⟨Nat.le_of_ble_eq_true rfl, Nat.le_of_ble_eq_true rfl⟩ ⟨Nat.le_of_ble_eq_true rfl, Nat.le_of_ble_eq_true rfl⟩ hS (by have hz9 := hS.1; rintro q (h | h) <;> first | exact Or.inr (by omega) | exact h.elim | exact Or.inl h | (simp only [ftA] at h ⊢; omega)) (fun v H1 locs hpo hfr hS => ?_)
      obtain ⟨rfl, rfl⟩ := hpo
      refine W.widen (k := 0) (n := 0) (Nat.le_of_ble_eq_true rfl) (Nat.le_of_ble_eq_true rfl) ?_
      refine lv_bipush (v := (-9)) hx hb dL_gets_78 (by decide) ?_
      refine lv_icmp_ne (tgt := 87) hx hb dL_gets_80 (by decide) (fun h => absurd rfl h) (fun h_80 => ?_)
      refine lv_iconst (v := nI 0) hx hb dL_gets_83 (by decide) ?_
      refine lv_goto (tgt := 90) hx hb dL_gets_84 (by decide) ?_
      refine mn_iadd hB dL_gets_90 ?_
      refine mh_top (y := .int (nI 0)) (rfl) ?_
      refine lv_istore (lv' := [(4, .int (nI 0)), (0, .ref xb), (1, .int (nI f)), (2, .int (nI p0)), (3, .int (nI 0)), (5, .int (nI m9))]) hx hb dL_gets_91 hl (by decide) rfl (fun ls hl => ?_)
      refine lv_iinc (v := nI (m9 + 1)) (lv' := [(5, .int (nI (m9 + 1))), (4, .int (nI 0)), (0, .ref xb), (1, .int (nI f)), (2, .int (nI p0)), (3, .int (nI 0))]) hx hb dL_gets_93 hl (k := 5) rfl (nI_1 _) (by decide) rfl (fun ls hl => ?_)
      refine lv_goto (tgt := 43) hx hb dL_gets_96 (by decide) ?_
      refine ih43 (m9 + 1) _ _ ⟨(by omega), hS, lv_sub hl [2, 3, 4, 5, 1, 0] rfl⟩ (by dsimp only; omega)

def rm_c_L_gets_y : Room := { frames := 7, cells := 26, slots := 126, locals := 155 }
set_option maxRecDepth 100000 in
set_option maxHeartbeats 400000 in
theorem c_L_gets_y (l : Launch) (g : GG) (H0 : Heap) (xb : Nat) (lim : Nat) (q : Nat → Int32) (n : Nat) (rm : Nat → Int32) (sl : Nat → Int32) (sv : Nat → Int32) (tx : Nat → Int32) (ln : Nat) (f : Nat) (p0 : Nat) (hC : CLS g xb lim q n rm sl sv tx ln H0) (hf : f < 3) (hp : p0 < 10000) (hs0 : 0 < szF q f) (hs1 : swF q f = szF q f) : Ct l yL_gets cL_gets 10 (some .boolean) rm_c_L_gets_y g [.ref xb, .int (nI f), .int (nI p0)] H0 (ftA (CF xb lim) H0.size) (fun v H1 => v = some (.int (nI 1)) ∧ CLS g xb lim (rafQ q f p0) (nxtS n) (remA rm n q) sl sv tx ln H1) := by
  refine Ct.of (by decide) (fun _ h => Or.inr h) (Nat.le_of_ble_eq_true rfl) ?_
  intro p e s m below meth c ls hB hin hS hH hl
  have hx := hB.x
  have hb := hB.b
  have hl : lv_has ls 10 [(0, .ref xb), (1, .int (nI f)), (2, .int (nI p0))] := hl
  have hW := hC.wf
  have hZw := hC.wz
  have hF := hW.fr hf
  have hz6 := WF.sz hF
  have hsw := WF.sw hF
  have hszd : szF q f = wdF q f * htF q f := rfl
  have hw16 := hF.w16
  have hh16 := hF.h16
  have hn5 := hW.2.2.1
  have hnm0 := fin_nm hW hZw hf hs0 hs1
  refine lv_aload_n hx hb dL_gets_0 rfl (lv_at hl 0 rfl) ?_
  refine lv_iload_n hx hb dL_gets_1 rfl (lv_at hl 1 rfl) ?_
  refine lv_iconst (v := nI 0) hx hb dL_gets_2 (by decide) ?_
  refine cl_L_26 (As := [.int (nI f), .int (nI 0)]) (rest := []) hB (f_X10_frame_0 l g H0 xb lim q n rm sl sv tx ln f (hC) (by first | assumption | omega)) hC.ob rfl hl.1 (Nat.le_of_ble_eq_true rfl) dL_gets_3 ⟨Nat.le_of_ble_eq_true rfl, Nat.le_of_ble_eq_true rfl⟩ ⟨Nat.le_of_ble_eq_true rfl, Nat.le_of_ble_eq_true rfl⟩ hS (by have hz9 := hS.1; rintro q (h | h) <;> first | exact Or.inr (by omega) | exact h.elim | exact Or.inl h | (simp only [ftA] at h ⊢; omega)) (fun v H1 locs hpo hfr hS => ?_)
  obtain ⟨rfl, rfl⟩ := hpo
  refine W.widen (k := 0) (n := 0) (Nat.le_of_ble_eq_true rfl) (Nat.le_of_ble_eq_true rfl) ?_
  refine mh_top (y := .int (nI (wdF q f))) (by rw [hF.w]) ?_
  refine mn_if_le (tgt := 35) hB dL_gets_6 (by decide) (by omega) (fun h => by exfalso; have h8 := sz_wd (q := q) (f := f) (by omega); omega) (fun h_6 => ?_)
  refine lv_aload_n hx hb dL_gets_9 rfl (lv_at hl 0 rfl) ?_
  refine lv_iload_n hx hb dL_gets_10 rfl (lv_at hl 1 rfl) ?_
  refine lv_iconst (v := nI 2) hx hb dL_gets_11 (by decide) ?_
  refine cl_L_26 (As := [.int (nI f), .int (nI 2)]) (rest := []) hB (f_X10_frame_2 l g H0 xb lim q n rm sl sv tx ln f (hC) (by first | assumption | omega)) hC.ob rfl hl.1 (Nat.le_of_ble_eq_true rfl) dL_gets_12 ⟨Nat.le_of_ble_eq_true rfl, Nat.le_of_ble_eq_true rfl⟩ ⟨Nat.le_of_ble_eq_true rfl, Nat.le_of_ble_eq_true rfl⟩ hS (by have hz9 := hS.1; rintro q (h | h) <;> first | exact Or.inr (by omega) | exact h.elim | exact Or.inl h | (simp only [ftA] at h ⊢; omega)) (fun v H1 locs hpo hfr hS => ?_)
  obtain ⟨rfl, rfl⟩ := hpo
  refine W.widen (k := 0) (n := 0) (Nat.le_of_ble_eq_true rfl) (Nat.le_of_ble_eq_true rfl) ?_
  refine mh_top (y := .int (nI (swF q f))) (by rw [hF.s]) ?_
  refine lv_aload_n hx hb dL_gets_15 rfl (lv_at hl 0 rfl) ?_
  refine lv_iload_n hx hb dL_gets_16 rfl (lv_at hl 1 rfl) ?_
  refine lv_iconst (v := nI 0) hx hb dL_gets_17 (by decide) ?_
  refine cl_L_26 (As := [.int (nI f), .int (nI 0)]) (rest := [.int (nI (swF q f))]) hB (f_X10_frame_0 l g H0 xb lim q n rm sl sv tx ln f (hC) (by first | assumption | omega)) hC.ob rfl hl.1 (Nat.le_of_ble_eq_true rfl) dL_gets_18 ⟨Nat.le_of_ble_eq_true rfl, Nat.le_of_ble_eq_true rfl⟩ ⟨Nat.le_of_ble_eq_true rfl, Nat.le_of_ble_eq_true rfl⟩ hS (by have hz9 := hS.1; rintro q (h | h) <;> first | exact Or.inr (by omega) | exact h.elim | exact Or.inl h | (simp only [ftA] at h ⊢; omega)) (fun v H1 locs hpo hfr hS => ?_)
  obtain ⟨rfl, rfl⟩ := hpo
  refine W.widen (k := 0) (n := 0) (Nat.le_of_ble_eq_true rfl) (Nat.le_of_ble_eq_true rfl) ?_
  refine mh_top (y := .int (nI (wdF q f))) (by rw [hF.w]) ?_
  refine lv_aload_n hx hb dL_gets_21 rfl (lv_at hl 0 rfl) ?_
  refine lv_iload_n hx hb dL_gets_22 rfl (lv_at hl 1 rfl) ?_
  refine lv_iconst (v := nI 1) hx hb dL_gets_23 (by decide) ?_
  refine cl_L_26 (As := [.int (nI f), .int (nI 1)]) (rest := [.int (nI (wdF q f)), .int (nI (swF q f))]) hB (f_X10_frame_1 l g H0 xb lim q n rm sl sv tx ln f (hC) (by first | assumption | omega)) hC.ob rfl hl.1 (Nat.le_of_ble_eq_true rfl) dL_gets_24 ⟨Nat.le_of_ble_eq_true rfl, Nat.le_of_ble_eq_true rfl⟩ ⟨Nat.le_of_ble_eq_true rfl, Nat.le_of_ble_eq_true rfl⟩ hS (by have hz9 := hS.1; rintro q (h | h) <;> first | exact Or.inr (by omega) | exact h.elim | exact Or.inl h | (simp only [ftA] at h ⊢; omega)) (fun v H1 locs hpo hfr hS => ?_)
  obtain ⟨rfl, rfl⟩ := hpo
  refine W.widen (k := 0) (n := 0) (Nat.le_of_ble_eq_true rfl) (Nat.le_of_ble_eq_true rfl) ?_
  refine mh_top (y := .int (nI (htF q f))) (by rw [hF.h]) ?_
  refine mn_imul hB dL_gets_27 ?_
  refine mn_icmp_ne (tgt := 35) hB dL_gets_28 (by decide) (by omega) (by omega) (fun h => by exfalso; omega) (fun h_28 => ?_)
  refine lv_iconst (v := nI 1) hx hb dL_gets_31 (by decide) ?_
  refine lv_goto (tgt := 36) hx hb dL_gets_32 (by decide) ?_
  refine lv_istore_n (lv' := [(3, .int (nI 1)), (0, .ref xb), (1, .int (nI f)), (2, .int (nI p0))]) hx hb dL_gets_36 rfl hl (by decide) rfl (fun ls hl => ?_)
  refine lv_iconst (v := nI 0) hx hb dL_gets_37 (by decide) ?_
  refine lv_istore (lv' := [(4, .int (nI 0)), (3, .int (nI 1)), (0, .ref xb), (1, .int (nI f)), (2, .int (nI p0))]) hx hb dL_gets_38 hl (by decide) rfl (fun ls hl => ?_)
  refine lv_iconst (v := nI 0) hx hb dL_gets_40 (by decide) ?_
  refine lv_istore (lv' := [(5, .int (nI 0)), (4, .int (nI 0)), (3, .int (nI 1)), (0, .ref xb), (1, .int (nI f)), (2, .int (nI p0))]) hx hb dL_gets_41 hl (by decide) rfl (fun ls hl => ?_)
  refine mh_loop (σ := Nat) (fun xx9 H locs ls => match xx9 with | m9 => m9 ≤ nmQ q ∧ CLS g xb lim q n rm sl sv tx ln H ∧ va_S (ftA (CF xb lim) H0.size) H0 H locs ∧ lv_has ls 10 [(0, .ref xb), (1, .int (nI f)), (2, .int (nI p0)), (3, .int (nI 1)), (4, .int (bx_sum (shrQ q f p0) m9)), (5, .int (nI m9))]) (fun xx9 => match xx9 with | m9 => nmQ q - m9) ?_ 0 ⟨(by omega), hC, hS, lv_sub hl [3, 4, 5, 2, 1, 0] rfl⟩
  rintro m9 H locs ls ⟨hm9, hC, hS, hl⟩ ih
  have ih43 := ih
  refine lv_iload hx hb dL_gets_43 (lv_at hl 5 rfl) ?_
  refine lv_aload_n hx hb dL_gets_45 rfl (lv_at hl 0 rfl) ?_
  refine lv_iconst (v := nI 0) hx hb dL_gets_46 (by decide) ?_
  refine cl_L_19 (As := [.int (nI 0)]) (rest := [.int (nI m9)]) hB (f_X10_about_0 l g H xb lim q n rm sl sv tx ln (hC)) hC.ob rfl hl.1 (Nat.le_of_ble_eq_true rfl) dL_gets_47 ⟨Nat.le_of_ble_eq_true rfl, Nat.le_of_ble_eq_true rfl⟩ ⟨Nat.le_of_ble_eq_true rfl, Nat.le_of_ble_eq_true rfl⟩ hS (by have hz9 := hS.1; rintro q (h | h) <;> first | exact Or.inr (by omega) | exact h.elim | exact Or.inl h | (simp only [ftA] at h ⊢; omega)) (fun v H1 locs hpo hfr hS => ?_)
  obtain ⟨rfl, rfl⟩ := hpo
  refine W.widen (k := 0) (n := 0) (Nat.le_of_ble_eq_true rfl) (Nat.le_of_ble_eq_true rfl) ?_
  refine mh_top (y := .int (nI (nmQ q))) (by rw [abV_0 hW]) ?_
  refine mn_icmp_ge (tgt := 99) hB dL_gets_50 (by decide) (by omega) (by omega) (fun h_50 => ?_) (fun h_50 => ?_)
  · skip
    have hin9 : m9 = nmQ q := by omega
    subst hin9
    refine lv_iload_n hx hb dL_gets_99 rfl (lv_at hl 3 rfl) ?_
    refine mn_if_ne (tgt := 114) hB dL_gets_100 (by decide) (by omega) (fun h_100 => ?_) (fun h => by exfalso; omega)
    refine lv_aload_n hx hb dL_gets_114 rfl (lv_at hl 0 rfl) ?_
    refine lv_iload_n hx hb dL_gets_115 rfl (lv_at hl 1 rfl) ?_
    refine lv_iconst (v := nI 0) hx hb dL_gets_116 (by decide) ?_
    refine lv_iload_n hx hb dL_gets_117 rfl (lv_at hl 2 rfl) ?_
    refine cl_L_40 (As := [.int (nI f), .int (nI 0), .int (nI p0)]) (rest := []) hB (f_X10_wouldGet l g H xb lim q n rm sl sv tx ln f 0 p0 (hC) (by first | assumption | omega) (by first | assumption | omega) (by first | assumption | omega) (by first | assumption | omega) (by first | assumption | omega)) hC.ob rfl hl.1 (Nat.le_of_ble_eq_true rfl) dL_gets_118 ⟨Nat.le_of_ble_eq_true rfl, Nat.le_of_ble_eq_true rfl⟩ ⟨Nat.le_of_ble_eq_true rfl, Nat.le_of_ble_eq_true rfl⟩ hS (by have hz9 := hS.1; rintro q (h | h) <;> first | exact Or.inr (by omega) | exact h.elim | exact Or.inl h | (simp only [ftA] at h ⊢; omega)) (fun v H1 locs hpo hfr hS => ?_)
    obtain ⟨rfl, rfl⟩ := hpo
    refine W.widen (k := 0) (n := 0) (Nat.le_of_ble_eq_true rfl) (Nat.le_of_ble_eq_true rfl) ?_
    refine lv_istore (lv' := [(5, .int (shrQ q f p0 0)), (0, .ref xb), (1, .int (nI f)), (2, .int (nI p0)), (3, .int (nI 1)), (4, .int (bx_sum (shrQ q f p0) (nmQ q)))]) hx hb dL_gets_121 hl (by decide) rfl (fun ls hl => ?_)
    refine lv_aload_n hx hb dL_gets_123 rfl (lv_at hl 1 rfl) ?_
    refine lv_iconst (v := nI 0) hx hb dL_gets_124 (by decide) ?_
    refine lv_iconst (v := nI 1) hx hb dL_gets_125 (by decide) ?_
    refine cl_L_23 (As := [.int (nI 0), .int (nI 1)]) (rest := []) hB (f_X10_member_1 l g H xb lim q n rm sl sv tx ln 0 (hC) (by first | assumption | omega)) hC.ob rfl hl.1 (Nat.le_of_ble_eq_true rfl) dL_gets_126 ⟨Nat.le_of_ble_eq_true rfl, Nat.le_of_ble_eq_true rfl⟩ ⟨Nat.le_of_ble_eq_true rfl, Nat.le_of_ble_eq_true rfl⟩ hS (by have hz9 := hS.1; rintro q (h | h) <;> first | exact Or.inr (by omega) | exact h.elim | exact Or.inl h | (simp only [ftA] at h ⊢; omega)) (fun v H1 locs hpo hfr hS => ?_)
    obtain ⟨rfl, rfl⟩ := hpo
    refine W.widen (k := 0) (n := 0) (Nat.le_of_ble_eq_true rfl) (Nat.le_of_ble_eq_true rfl) ?_
    refine lv_istore (lv' := [(6, .int (meV q 0 1)), (5, .int (shrQ q f p0 0)), (0, .ref xb), (1, .int (nI f)), (2, .int (nI p0)), (3, .int (nI 1)), (4, .int (bx_sum (shrQ q f p0) (nmQ q)))]) hx hb dL_gets_129 hl (by decide) rfl (fun ls hl => ?_)
    refine lv_aload_n hx hb dL_gets_131 rfl (lv_at hl 2 rfl) ?_
    refine lv_iconst (v := nI 3) hx hb dL_gets_132 (by decide) ?_
    refine cl_L_19 (As := [.int (nI 3)]) (rest := []) hB (f_X10_about_3 l g H xb lim q n rm sl sv tx ln (hC)) hC.ob rfl hl.1 (Nat.le_of_ble_eq_true rfl) dL_gets_133 ⟨Nat.le_of_ble_eq_true rfl, Nat.le_of_ble_eq_true rfl⟩ ⟨Nat.le_of_ble_eq_true rfl, Nat.le_of_ble_eq_true rfl⟩ hS (by have hz9 := hS.1; rintro q (h | h) <;> first | exact Or.inr (by omega) | exact h.elim | exact Or.inl h | (simp only [ftA] at h ⊢; omega)) (fun v H1 locs hpo hfr hS => ?_)
    obtain ⟨rfl, rfl⟩ := hpo
    refine W.widen (k := 0) (n := 0) (Nat.le_of_ble_eq_true rfl) (Nat.le_of_ble_eq_true rfl) ?_
    refine lv_istore (lv' := [(7, .int (abV q 3)), (6, .int (meV q 0 1)), (5, .int (shrQ q f p0 0)), (0, .ref xb), (1, .int (nI f)), (2, .int (nI p0)), (3, .int (nI 1)), (4, .int (bx_sum (shrQ q f p0) (nmQ q)))]) hx hb dL_gets_136 hl (by decide) rfl (fun ls hl => ?_)
    refine lv_aload_n hx hb dL_gets_138 rfl (lv_at hl 3 rfl) ?_
    refine lv_iconst (v := nI 4) hx hb dL_gets_139 (by decide) ?_
    refine cl_L_19 (As := [.int (nI 4)]) (rest := []) hB (f_X10_about_4 l g H xb lim q n rm sl sv tx ln (hC)) hC.ob rfl hl.1 (Nat.le_of_ble_eq_true rfl) dL_gets_140 ⟨Nat.le_of_ble_eq_true rfl, Nat.le_of_ble_eq_true rfl⟩ ⟨Nat.le_of_ble_eq_true rfl, Nat.le_of_ble_eq_true rfl⟩ hS (by have hz9 := hS.1; rintro q (h | h) <;> first | exact Or.inr (by omega) | exact h.elim | exact Or.inl h | (simp only [ftA] at h ⊢; omega)) (fun v H1 locs hpo hfr hS => ?_)
    obtain ⟨rfl, rfl⟩ := hpo
    refine W.widen (k := 0) (n := 0) (Nat.le_of_ble_eq_true rfl) (Nat.le_of_ble_eq_true rfl) ?_
    refine lv_istore (lv' := [(8, .int (abV q 4)), (7, .int (abV q 3)), (6, .int (meV q 0 1)), (5, .int (shrQ q f p0 0)), (0, .ref xb), (1, .int (nI f)), (2, .int (nI p0)), (3, .int (nI 1)), (4, .int (bx_sum (shrQ q f p0) (nmQ q)))]) hx hb dL_gets_143 hl (by decide) rfl (fun ls hl => ?_)
    refine lv_aload_n hx hb dL_gets_145 rfl (lv_at hl 4 rfl) ?_
    refine lv_iload_n hx hb dL_gets_146 rfl (lv_at hl 5 rfl) ?_
    refine lv_iconst (v := nI 0) hx hb dL_gets_147 (by decide) ?_
    refine cl_L_26 (As := [.int (nI f), .int (nI 0)]) (rest := []) hB (f_X10_frame_0 l g H xb lim q n rm sl sv tx ln f (hC) (by first | assumption | omega)) hC.ob rfl hl.1 (Nat.le_of_ble_eq_true rfl) dL_gets_148 ⟨Nat.le_of_ble_eq_true rfl, Nat.le_of_ble_eq_true rfl⟩ ⟨Nat.le_of_ble_eq_true rfl, Nat.le_of_ble_eq_true rfl⟩ hS (by have hz9 := hS.1; rintro q (h | h) <;> first | exact Or.inr (by omega) | exact h.elim | exact Or.inl h | (simp only [ftA] at h ⊢; omega)) (fun v H1 locs hpo hfr hS => ?_)
    obtain ⟨rfl, rfl⟩ := hpo
    refine W.widen (k := 0) (n := 0) (Nat.le_of_ble_eq_true rfl) (Nat.le_of_ble_eq_true rfl) ?_
    refine mh_top (y := .int (nI (wdF q f))) (by rw [hF.w]) ?_
    refine lv_aload_n hx hb dL_gets_151 rfl (lv_at hl 4 rfl) ?_
    refine lv_iload_n hx hb dL_gets_152 rfl (lv_at hl 5 rfl) ?_
    refine lv_iconst (v := nI 1) hx hb dL_gets_153 (by decide) ?_
    refine cl_L_26 (As := [.int (nI f), .int (nI 1)]) (rest := [.int (nI (wdF q f))]) hB (f_X10_frame_1 l g H xb lim q n rm sl sv tx ln f (hC) (by first | assumption | omega)) hC.ob rfl hl.1 (Nat.le_of_ble_eq_true rfl) dL_gets_154 ⟨Nat.le_of_ble_eq_true rfl, Nat.le_of_ble_eq_true rfl⟩ ⟨Nat.le_of_ble_eq_true rfl, Nat.le_of_ble_eq_true rfl⟩ hS (by have hz9 := hS.1; rintro q (h | h) <;> first | exact Or.inr (by omega) | exact h.elim | exact Or.inl h | (simp only [ftA] at h ⊢; omega)) (fun v H1 locs hpo hfr hS => ?_)
    obtain ⟨rfl, rfl⟩ := hpo
    refine W.widen (k := 0) (n := 0) (Nat.le_of_ble_eq_true rfl) (Nat.le_of_ble_eq_true rfl) ?_
    refine mh_top (y := .int (nI (htF q f))) (by rw [hF.h]) ?_
    refine mn_imul hB dL_gets_157 ?_
    refine mh_top (y := .int (nI (szF q f))) (rfl) ?_
    refine lv_istore (lv' := [(9, .int (nI (szF q f))), (8, .int (abV q 4)), (7, .int (abV q 3)), (6, .int (meV q 0 1)), (5, .int (shrQ q f p0 0)), (0, .ref xb), (1, .int (nI f)), (2, .int (nI p0)), (3, .int (nI 1)), (4, .int (bx_sum (shrQ q f p0) (nmQ q)))]) hx hb dL_gets_158 hl (by decide) rfl (fun ls hl => ?_)
    refine lv_iload hx hb dL_gets_160 (lv_at hl 9 rfl) ?_
    refine lv_iload_n hx hb dL_gets_162 rfl (lv_at hl 7 rfl) ?_
    refine lv_icmp_ne (tgt := 229) hx hb dL_gets_163 (by decide) (fun h => absurd (shr_nm hW hZw hf hp hs0 hs1) h) (fun h_163 => ?_)
    refine lv_aload_n hx hb dL_gets_166 rfl (lv_at hl 5 rfl) ?_
    refine lv_iload_n hx hb dL_gets_167 rfl (lv_at hl 6 rfl) ?_
    refine lv_iload_n hx hb dL_gets_168 rfl (lv_at hl 7 rfl) ?_
    refine cl_L_43 (As := [.int (nI f), .int (nI p0)]) (rest := []) hB (f_X10_raffle l g H xb lim q n rm sl sv tx ln f p0 (hC) (by first | assumption | omega) (by first | assumption | omega) (by first | assumption | omega) (by first | assumption | omega)) hC.ob rfl hl.1 (Nat.le_of_ble_eq_true rfl) dL_gets_169 ⟨Nat.le_of_ble_eq_true rfl, Nat.le_of_ble_eq_true rfl⟩ ⟨Nat.le_of_ble_eq_true rfl, Nat.le_of_ble_eq_true rfl⟩ hS (by have hz9 := hS.1; rintro q9 (h9 | h9); exact Or.inl h9; exact Or.inr (by omega)) (fun v H1 locs hpo hfr hS => ?_)
    obtain ⟨rfl, hC⟩ := hpo
    generalize H1 = H at hfr hS hC ⊢
    refine W.widen (k := 26) (n := 126) (Nat.le_of_ble_eq_true rfl) (Nat.le_of_ble_eq_true rfl) ?_
    have hW2 := hC.wf
    refine lv_iload hx hb dL_gets_172 (lv_at hl 0 rfl) ?_
    refine mn_icmp_ne (tgt := 229) hB dL_gets_174 (by decide) (by omega) (by omega) (fun h => by exfalso; omega) (fun h_174 => ?_)
    refine lv_aload_n hx hb dL_gets_177 rfl (lv_at hl 5 rfl) ?_
    refine lv_iconst (v := nI 0) hx hb dL_gets_178 (by decide) ?_
    refine lv_iconst (v := nI 1) hx hb dL_gets_179 (by decide) ?_
    refine cl_L_23 (As := [.int (nI 0), .int (nI 1)]) (rest := []) hB (f_X10_member_1 l g H xb lim (rafQ q f p0) (nxtS n) (remA rm n q) sl sv tx ln 0 (hC) (by rw [show nmQ (rafQ q f p0) = nmQ q from qn_eq (raf_off hW hf (by omega) (by omega))]; omega)) hC.ob rfl hl.1 (Nat.le_of_ble_eq_true rfl) dL_gets_180 ⟨Nat.le_of_ble_eq_true rfl, Nat.le_of_ble_eq_true rfl⟩ ⟨Nat.le_of_ble_eq_true rfl, Nat.le_of_ble_eq_true rfl⟩ hS (by have hz9 := hS.1; rintro q (h | h) <;> first | exact Or.inr (by omega) | exact h.elim | exact Or.inl h | (simp only [ftA] at h ⊢; omega)) (fun v H1 locs hpo hfr hS => ?_)
    obtain ⟨rfl, rfl⟩ := hpo
    refine W.widen (k := 26) (n := 126) (Nat.le_of_ble_eq_true rfl) (Nat.le_of_ble_eq_true rfl) ?_
    refine lv_iload hx hb dL_gets_183 (lv_at hl 3 rfl) ?_
    refine lv_iload hx hb dL_gets_185 (lv_at hl 4 rfl) ?_
    refine lv_iadd hx hb dL_gets_187 ?_
    refine lv_icmp_ne (tgt := 229) hx hb dL_gets_188 (by decide) (fun h => absurd (show rafQ q f p0 (10 + 0) = q (10 + 0) + shrQ q f p0 0 from raf_10 hW hf (by omega)) h) (fun h_188 => ?_)
    refine lv_aload_n hx hb dL_gets_191 rfl (lv_at hl 5 rfl) ?_
    refine lv_iconst (v := nI 3) hx hb dL_gets_192 (by decide) ?_
    refine cl_L_19 (As := [.int (nI 3)]) (rest := []) hB (f_X10_about_3 l g H xb lim (rafQ q f p0) (nxtS n) (remA rm n q) sl sv tx ln (hC)) hC.ob rfl hl.1 (Nat.le_of_ble_eq_true rfl) dL_gets_193 ⟨Nat.le_of_ble_eq_true rfl, Nat.le_of_ble_eq_true rfl⟩ ⟨Nat.le_of_ble_eq_true rfl, Nat.le_of_ble_eq_true rfl⟩ hS (by have hz9 := hS.1; rintro q (h | h) <;> first | exact Or.inr (by omega) | exact h.elim | exact Or.inl h | (simp only [ftA] at h ⊢; omega)) (fun v H1 locs hpo hfr hS => ?_)
    obtain ⟨rfl, rfl⟩ := hpo
    refine W.widen (k := 26) (n := 126) (Nat.le_of_ble_eq_true rfl) (Nat.le_of_ble_eq_true rfl) ?_
    refine lv_iload hx hb dL_gets_196 (lv_at hl 2 rfl) ?_
    refine lv_iconst (v := nI 1) hx hb dL_gets_198 (by decide) ?_
    refine lv_iadd hx hb dL_gets_199 ?_
    refine lv_icmp_ne (tgt := 229) hx hb dL_gets_200 (by decide) (fun h => absurd (show rafQ q f p0 2 = q 2 + nI 1 from raf_at2 hW hf) h) (fun h_200 => ?_)
    refine lv_aload_n hx hb dL_gets_203 rfl (lv_at hl 5 rfl) ?_
    refine lv_iconst (v := nI 4) hx hb dL_gets_204 (by decide) ?_
    refine cl_L_19 (As := [.int (nI 4)]) (rest := []) hB (f_X10_about_4 l g H xb lim (rafQ q f p0) (nxtS n) (remA rm n q) sl sv tx ln (hC)) hC.ob rfl hl.1 (Nat.le_of_ble_eq_true rfl) dL_gets_205 ⟨Nat.le_of_ble_eq_true rfl, Nat.le_of_ble_eq_true rfl⟩ ⟨Nat.le_of_ble_eq_true rfl, Nat.le_of_ble_eq_true rfl⟩ hS (by have hz9 := hS.1; rintro q (h | h) <;> first | exact Or.inr (by omega) | exact h.elim | exact Or.inl h | (simp only [ftA] at h ⊢; omega)) (fun v H1 locs hpo hfr hS => ?_)
    obtain ⟨rfl, rfl⟩ := hpo
    refine W.widen (k := 26) (n := 126) (Nat.le_of_ble_eq_true rfl) (Nat.le_of_ble_eq_true rfl) ?_
    refine lv_iload hx hb dL_gets_208 (lv_at hl 1 rfl) ?_
    refine lv_iload hx hb dL_gets_210 (lv_at hl 0 rfl) ?_
    refine lv_iadd hx hb dL_gets_212 ?_
    refine lv_icmp_ne (tgt := 229) hx hb dL_gets_213 (by decide) (fun h => absurd (show rafQ q f p0 3 = q 3 + nI (szF q f) from raf_3 hW hf) h) (fun h_213 => ?_)
    refine lv_aload_n hx hb dL_gets_216 rfl (lv_at hl 5 rfl) ?_
    refine lv_iload_n hx hb dL_gets_217 rfl (lv_at hl 6 rfl) ?_
    refine lv_iconst (v := nI 0) hx hb dL_gets_218 (by decide) ?_
    refine cl_L_26 (As := [.int (nI f), .int (nI 0)]) (rest := []) hB (f_X10_frame_0 l g H xb lim (rafQ q f p0) (nxtS n) (remA rm n q) sl sv tx ln f (hC) (by first | assumption | omega)) hC.ob rfl hl.1 (Nat.le_of_ble_eq_true rfl) dL_gets_219 ⟨Nat.le_of_ble_eq_true rfl, Nat.le_of_ble_eq_true rfl⟩ ⟨Nat.le_of_ble_eq_true rfl, Nat.le_of_ble_eq_true rfl⟩ hS (by have hz9 := hS.1; rintro q (h | h) <;> first | exact Or.inr (by omega) | exact h.elim | exact Or.inl h | (simp only [ftA] at h ⊢; omega)) (fun v H1 locs hpo hfr hS => ?_)
    obtain ⟨rfl, rfl⟩ := hpo
    refine W.widen (k := 26) (n := 126) (Nat.le_of_ble_eq_true rfl) (Nat.le_of_ble_eq_true rfl) ?_
    refine mh_top (y := .int (nI 0)) (by rw [(hW2.fr hf).w, raf_sz.2]) ?_
    refine mn_if_ne (tgt := 229) hB dL_gets_222 (by decide) (by omega) (fun h => by exfalso; omega) (fun h_222 => ?_)
    refine lv_iconst (v := nI 1) hx hb dL_gets_225 (by decide) ?_
    refine lv_goto (tgt := 230) hx hb dL_gets_226 (by decide) ?_
    refine mh_zret hB ⟨Nat.le_of_ble_eq_true rfl, Nat.le_of_ble_eq_true rfl⟩ hS dL_gets_230 (by first | rfl | decide | (split <;> rfl)) ⟨?_, ?_⟩
    · rfl
    · exact hC
  · skip
    refine lv_iload hx hb dL_gets_53 (lv_at hl 4 rfl) ?_
    refine lv_iload_n hx hb dL_gets_55 rfl (lv_at hl 3 rfl) ?_
    refine mn_if_eq (tgt := 70) hB dL_gets_56 (by decide) (by omega) (fun h => by exfalso; omega) (fun h_56 => ?_)
    refine lv_aload_n hx hb dL_gets_59 rfl (lv_at hl 0 rfl) ?_
    refine lv_iload_n hx hb dL_gets_60 rfl (lv_at hl 1 rfl) ?_
    refine lv_iload hx hb dL_gets_61 (lv_at hl 5 rfl) ?_
    refine lv_iload_n hx hb dL_gets_63 rfl (lv_at hl 2 rfl) ?_
    refine cl_L_40 (As := [.int (nI f), .int (nI m9), .int (nI p0)]) (rest := [.int (bx_sum (shrQ q f p0) m9)]) hB (f_X10_wouldGet l g H xb lim q n rm sl sv tx ln f m9 p0 (hC) (by first | assumption | omega) (by first | assumption | omega) (by first | assumption | omega) (by first | assumption | omega) (by first | assumption | omega)) hC.ob rfl hl.1 (Nat.le_of_ble_eq_true rfl) dL_gets_64 ⟨Nat.le_of_ble_eq_true rfl, Nat.le_of_ble_eq_true rfl⟩ ⟨Nat.le_of_ble_eq_true rfl, Nat.le_of_ble_eq_true rfl⟩ hS (by have hz9 := hS.1; rintro q (h | h) <;> first | exact Or.inr (by omega) | exact h.elim | exact Or.inl h | (simp only [ftA] at h ⊢; omega)) (fun v H1 locs hpo hfr hS => ?_)
    obtain ⟨rfl, rfl⟩ := hpo
    refine W.widen (k := 0) (n := 0) (Nat.le_of_ble_eq_true rfl) (Nat.le_of_ble_eq_true rfl) ?_
    refine lv_goto (tgt := 90) hx hb dL_gets_67 (by decide) ?_
    refine lv_iadd hx hb dL_gets_90 ?_
    refine mh_top (y := .int (bx_sum (shrQ q f p0) (m9 + 1))) (rfl) ?_
    refine lv_istore (lv' := [(4, .int (bx_sum (shrQ q f p0) (m9 + 1))), (0, .ref xb), (1, .int (nI f)), (2, .int (nI p0)), (3, .int (nI 1)), (5, .int (nI m9))]) hx hb dL_gets_91 hl (by decide) rfl (fun ls hl => ?_)
    refine lv_iinc (v := nI (m9 + 1)) (lv' := [(5, .int (nI (m9 + 1))), (4, .int (bx_sum (shrQ q f p0) (m9 + 1))), (0, .ref xb), (1, .int (nI f)), (2, .int (nI p0)), (3, .int (nI 1))]) hx hb dL_gets_93 hl (k := 5) rfl (nI_1 _) (by decide) rfl (fun ls hl => ?_)
    refine lv_goto (tgt := 43) hx hb dL_gets_96 (by decide) ?_
    refine ih43 (m9 + 1) _ _ _ ⟨(by omega), hC, hS, lv_sub hl [2, 3, 4, 5, 1, 0] rfl⟩ (by dsimp only; omega)

def rm_c_L_types : Room := { frames := 7, cells := 0, slots := 0, locals := 163 }
set_option maxRecDepth 100000 in
set_option maxHeartbeats 400000 in
theorem c_L_types (l : Launch) (g : GG) (H0 : Heap) (xb : Nat) (lim : Nat) (q : Nat → Int32) (n : Nat) (rm : Nat → Int32) (sl : Nat → Int32) (sv : Nat → Int32) (tx : Nat → Int32) (ln : Nat) (y : Nat) (hC : CLS g xb lim q n rm sl sv tx ln H0) (hy : y < 2147483648) : Ct l yL_types cL_types 3 (some .boolean) rm_c_L_types g [.ref xb, .int (nI y)] H0 (ftA (CF xb lim) H0.size) (fun v H1 => v = some (.int (nI 1)) ∧ CLS g xb lim q n rm sl sv (txR tx (tcY (y % 6) (y / 8 % 6) (y / 64 % 6) (y / 512 % 6)) 13) 13 H1) := by
  refine Ct.of (by decide) (fun _ h => Or.inr h) (Nat.le_of_ble_eq_true rfl) ?_
  intro p e s m below meth c ls hB hin hS hH hl
  have hx := hB.x
  have hb := hB.b
  have hl : lv_has ls 3 [(0, .ref xb), (1, .int (nI y))] := hl
  have hW := hC.wf
  have hZw := hC.wz
  have hl60 := hC.l60
  refine lv_aload_n hx hb dL_types_0 rfl (lv_at hl 0 rfl) ?_
  refine cl_L_46 (As := []) (rest := []) hB (f_X10_clearText l g H0 xb lim q n rm sl sv tx ln (hC)) hC.ob rfl hl.1 (Nat.le_of_ble_eq_true rfl) dL_types_1 ⟨Nat.le_of_ble_eq_true rfl, Nat.le_of_ble_eq_true rfl⟩ ⟨Nat.le_of_ble_eq_true rfl, Nat.le_of_ble_eq_true rfl⟩ hS (by have hz9 := hS.1; rintro q9 (h9 | h9); exact Or.inl h9; exact Or.inr (by omega)) (fun v H1 locs hpo hfr hS => ?_)
  obtain ⟨rfl, hC⟩ := hpo
  generalize H1 = H at hfr hS hC ⊢
  refine W.widen (k := 0) (n := 0) (Nat.le_of_ble_eq_true rfl) (Nat.le_of_ble_eq_true rfl) ?_
  have hC : CLS g xb lim q n rm sl sv (txR tx (tcY (y % 6) (y / 8 % 6) (y / 64 % 6) (y / 512 % 6)) 0) 0 H := hC
  refine mn_if_lt (tgt := 41) hB dL_types_4 (by decide) (by omega) (fun h => by exfalso; omega) (fun h_4 => ?_)
  refine lv_aload_n hx hb dL_types_7 rfl (lv_at hl 0 rfl) ?_
  refine lv_bipush (v := nI 91) hx hb dL_types_8 (by decide) ?_
  refine cl_L_50 (As := [.int (nI 91)]) (rest := []) hB (f_X10_append l g H xb lim q n rm sl sv (txR tx (tcY (y % 6) (y / 8 % 6) (y / 64 % 6) (y / 512 % 6)) 0) 0 91 (hC) (by first | assumption | omega) (by first | assumption | omega)) hC.ob rfl hl.1 (Nat.le_of_ble_eq_true rfl) dL_types_10 ⟨Nat.le_of_ble_eq_true rfl, Nat.le_of_ble_eq_true rfl⟩ ⟨Nat.le_of_ble_eq_true rfl, Nat.le_of_ble_eq_true rfl⟩ hS (by have hz9 := hS.1; rintro q9 (h9 | h9); exact Or.inl h9; exact Or.inr (by omega)) (fun v H1 locs hpo hfr hS => ?_)
  obtain ⟨rfl, hC⟩ := hpo
  generalize H1 = H at hfr hS hC ⊢
  refine W.widen (k := 0) (n := 0) (Nat.le_of_ble_eq_true rfl) (Nat.le_of_ble_eq_true rfl) ?_
  refine mh_top (y := .int (nI 1)) (rfl) ?_
  have hC : CLS g xb lim q n rm sl sv (txR tx (tcY (y % 6) (y / 8 % 6) (y / 64 % 6) (y / 512 % 6)) 1) 1 H := hC
  refine lv_iconst (v := nI 1) hx hb dL_types_13 (by decide) ?_
  refine mn_icmp_ne (tgt := 41) hB dL_types_14 (by decide) (by omega) (by omega) (fun h => by exfalso; omega) (fun h_14 => ?_)
  refine lv_aload_n hx hb dL_types_17 rfl (lv_at hl 0 rfl) ?_
  refine lv_bipush (v := nI 50) hx hb dL_types_18 (by decide) ?_
  refine cl_L_50 (As := [.int (nI 50)]) (rest := []) hB (f_X10_append l g H xb lim q n rm sl sv (txR tx (tcY (y % 6) (y / 8 % 6) (y / 64 % 6) (y / 512 % 6)) 1) 1 50 (hC) (by first | assumption | omega) (by first | assumption | omega)) hC.ob rfl hl.1 (Nat.le_of_ble_eq_true rfl) dL_types_20 ⟨Nat.le_of_ble_eq_true rfl, Nat.le_of_ble_eq_true rfl⟩ ⟨Nat.le_of_ble_eq_true rfl, Nat.le_of_ble_eq_true rfl⟩ hS (by have hz9 := hS.1; rintro q9 (h9 | h9); exact Or.inl h9; exact Or.inr (by omega)) (fun v H1 locs hpo hfr hS => ?_)
  obtain ⟨rfl, hC⟩ := hpo
  generalize H1 = H at hfr hS hC ⊢
  refine W.widen (k := 0) (n := 0) (Nat.le_of_ble_eq_true rfl) (Nat.le_of_ble_eq_true rfl) ?_
  refine mh_top (y := .int (nI 2)) (rfl) ?_
  have hC : CLS g xb lim q n rm sl sv (txR tx (tcY (y % 6) (y / 8 % 6) (y / 64 % 6) (y / 512 % 6)) 2) 2 H := hC
  refine lv_iconst (v := nI 2) hx hb dL_types_23 (by decide) ?_
  refine mn_icmp_ne (tgt := 41) hB dL_types_24 (by decide) (by omega) (by omega) (fun h => by exfalso; omega) (fun h_24 => ?_)
  refine lv_aload_n hx hb dL_types_27 rfl (lv_at hl 0 rfl) ?_
  refine lv_bipush (v := nI 40) hx hb dL_types_28 (by decide) ?_
  refine cl_L_50 (As := [.int (nI 40)]) (rest := []) hB (f_X10_append l g H xb lim q n rm sl sv (txR tx (tcY (y % 6) (y / 8 % 6) (y / 64 % 6) (y / 512 % 6)) 2) 2 40 (hC) (by first | assumption | omega) (by first | assumption | omega)) hC.ob rfl hl.1 (Nat.le_of_ble_eq_true rfl) dL_types_30 ⟨Nat.le_of_ble_eq_true rfl, Nat.le_of_ble_eq_true rfl⟩ ⟨Nat.le_of_ble_eq_true rfl, Nat.le_of_ble_eq_true rfl⟩ hS (by have hz9 := hS.1; rintro q9 (h9 | h9); exact Or.inl h9; exact Or.inr (by omega)) (fun v H1 locs hpo hfr hS => ?_)
  obtain ⟨rfl, hC⟩ := hpo
  generalize H1 = H at hfr hS hC ⊢
  refine W.widen (k := 0) (n := 0) (Nat.le_of_ble_eq_true rfl) (Nat.le_of_ble_eq_true rfl) ?_
  refine mh_top (y := .int (nI 3)) (rfl) ?_
  have hC : CLS g xb lim q n rm sl sv (txR tx (tcY (y % 6) (y / 8 % 6) (y / 64 % 6) (y / 512 % 6)) 3) 3 H := hC
  refine lv_iconst (v := nI 3) hx hb dL_types_33 (by decide) ?_
  refine mn_icmp_ne (tgt := 41) hB dL_types_34 (by decide) (by omega) (by omega) (fun h => by exfalso; omega) (fun h_34 => ?_)
  refine lv_iconst (v := nI 1) hx hb dL_types_37 (by decide) ?_
  refine lv_goto (tgt := 42) hx hb dL_types_38 (by decide) ?_
  refine lv_istore_n (lv' := [(2, .int (nI 1)), (0, .ref xb), (1, .int (nI y))]) hx hb dL_types_42 rfl hl (by decide) rfl (fun ls hl => ?_)
  refine lv_iload_n hx hb dL_types_43 rfl (lv_at hl 0 rfl) ?_
  refine mn_if_eq (tgt := 116) hB dL_types_44 (by decide) (by omega) (fun h => by exfalso; omega) (fun h_44 => ?_)
  refine lv_aload_n hx hb dL_types_47 rfl (lv_at hl 1 rfl) ?_
  refine lv_bipush (v := nI 97) hx hb dL_types_48 (by decide) ?_
  refine lv_iload_n hx hb dL_types_50 rfl (lv_at hl 2 rfl) ?_
  refine lv_bipush (v := nI 6) hx hb dL_types_51 (by decide) ?_
  refine mn_irem hB dL_types_53 (by omega) (by omega) (by omega) ?_
  refine mn_iadd hB dL_types_54 ?_
  refine cl_L_50 (As := [.int (nI (97 + (y % 6)))]) (rest := []) hB (f_X10_append l g H xb lim q n rm sl sv (txR tx (tcY (y % 6) (y / 8 % 6) (y / 64 % 6) (y / 512 % 6)) 3) 3 (97 + (y % 6)) (hC) (by first | assumption | omega) (by first | assumption | omega)) hC.ob rfl hl.1 (Nat.le_of_ble_eq_true rfl) dL_types_55 ⟨Nat.le_of_ble_eq_true rfl, Nat.le_of_ble_eq_true rfl⟩ ⟨Nat.le_of_ble_eq_true rfl, Nat.le_of_ble_eq_true rfl⟩ hS (by have hz9 := hS.1; rintro q9 (h9 | h9); exact Or.inl h9; exact Or.inr (by omega)) (fun v H1 locs hpo hfr hS => ?_)
  obtain ⟨rfl, hC⟩ := hpo
  generalize H1 = H at hfr hS hC ⊢
  refine W.widen (k := 0) (n := 0) (Nat.le_of_ble_eq_true rfl) (Nat.le_of_ble_eq_true rfl) ?_
  refine mh_top (y := .int (nI 4)) (rfl) ?_
  have hC : CLS g xb lim q n rm sl sv (txR tx (tcY (y % 6) (y / 8 % 6) (y / 64 % 6) (y / 512 % 6)) 4) 4 H := hC
  refine lv_iconst (v := nI 4) hx hb dL_types_58 (by decide) ?_
  refine mn_icmp_ne (tgt := 116) hB dL_types_59 (by decide) (by omega) (by omega) (fun h => by exfalso; omega) (fun h_59 => ?_)
  refine lv_aload_n hx hb dL_types_62 rfl (lv_at hl 1 rfl) ?_
  refine lv_bipush (v := nI 97) hx hb dL_types_63 (by decide) ?_
  refine lv_iload_n hx hb dL_types_65 rfl (lv_at hl 2 rfl) ?_
  refine lv_iconst (v := nI 3) hx hb dL_types_66 (by decide) ?_
  refine lv_ishr hx hb dL_types_67 ?_
  refine mh_top (y := .int (nI (y / 8))) (by rw [shr_nI (by omega) (by omega) (show 2 ^ 3 = 8 from rfl)]) ?_
  refine lv_bipush (v := nI 6) hx hb dL_types_68 (by decide) ?_
  refine mn_irem hB dL_types_70 (by omega) (by omega) (by omega) ?_
  refine mn_iadd hB dL_types_71 ?_
  refine cl_L_50 (As := [.int (nI (97 + ((y / 8) % 6)))]) (rest := []) hB (f_X10_append l g H xb lim q n rm sl sv (txR tx (tcY (y % 6) (y / 8 % 6) (y / 64 % 6) (y / 512 % 6)) 4) 4 (97 + ((y / 8) % 6)) (hC) (by first | assumption | omega) (by first | assumption | omega)) hC.ob rfl hl.1 (Nat.le_of_ble_eq_true rfl) dL_types_72 ⟨Nat.le_of_ble_eq_true rfl, Nat.le_of_ble_eq_true rfl⟩ ⟨Nat.le_of_ble_eq_true rfl, Nat.le_of_ble_eq_true rfl⟩ hS (by have hz9 := hS.1; rintro q9 (h9 | h9); exact Or.inl h9; exact Or.inr (by omega)) (fun v H1 locs hpo hfr hS => ?_)
  obtain ⟨rfl, hC⟩ := hpo
  generalize H1 = H at hfr hS hC ⊢
  refine W.widen (k := 0) (n := 0) (Nat.le_of_ble_eq_true rfl) (Nat.le_of_ble_eq_true rfl) ?_
  refine mh_top (y := .int (nI 5)) (rfl) ?_
  have hC : CLS g xb lim q n rm sl sv (txR tx (tcY (y % 6) (y / 8 % 6) (y / 64 % 6) (y / 512 % 6)) 5) 5 H := hC
  refine lv_iconst (v := nI 5) hx hb dL_types_75 (by decide) ?_
  refine mn_icmp_ne (tgt := 116) hB dL_types_76 (by decide) (by omega) (by omega) (fun h => by exfalso; omega) (fun h_76 => ?_)
  refine lv_aload_n hx hb dL_types_79 rfl (lv_at hl 1 rfl) ?_
  refine lv_bipush (v := nI 41) hx hb dL_types_80 (by decide) ?_
  refine cl_L_50 (As := [.int (nI 41)]) (rest := []) hB (f_X10_append l g H xb lim q n rm sl sv (txR tx (tcY (y % 6) (y / 8 % 6) (y / 64 % 6) (y / 512 % 6)) 5) 5 41 (hC) (by first | assumption | omega) (by first | assumption | omega)) hC.ob rfl hl.1 (Nat.le_of_ble_eq_true rfl) dL_types_82 ⟨Nat.le_of_ble_eq_true rfl, Nat.le_of_ble_eq_true rfl⟩ ⟨Nat.le_of_ble_eq_true rfl, Nat.le_of_ble_eq_true rfl⟩ hS (by have hz9 := hS.1; rintro q9 (h9 | h9); exact Or.inl h9; exact Or.inr (by omega)) (fun v H1 locs hpo hfr hS => ?_)
  obtain ⟨rfl, hC⟩ := hpo
  generalize H1 = H at hfr hS hC ⊢
  refine W.widen (k := 0) (n := 0) (Nat.le_of_ble_eq_true rfl) (Nat.le_of_ble_eq_true rfl) ?_
  refine mh_top (y := .int (nI 6)) (rfl) ?_
  have hC : CLS g xb lim q n rm sl sv (txR tx (tcY (y % 6) (y / 8 % 6) (y / 64 % 6) (y / 512 % 6)) 6) 6 H := hC
  refine lv_bipush (v := nI 6) hx hb dL_types_85 (by decide) ?_
  refine mn_icmp_ne (tgt := 116) hB dL_types_87 (by decide) (by omega) (by omega) (fun h => by exfalso; omega) (fun h_87 => ?_)
  refine lv_aload_n hx hb dL_types_90 rfl (lv_at hl 1 rfl) ?_
  refine lv_bipush (v := nI 60) hx hb dL_types_91 (by decide) ?_
  refine cl_L_50 (As := [.int (nI 60)]) (rest := []) hB (f_X10_append l g H xb lim q n rm sl sv (txR tx (tcY (y % 6) (y / 8 % 6) (y / 64 % 6) (y / 512 % 6)) 6) 6 60 (hC) (by first | assumption | omega) (by first | assumption | omega)) hC.ob rfl hl.1 (Nat.le_of_ble_eq_true rfl) dL_types_93 ⟨Nat.le_of_ble_eq_true rfl, Nat.le_of_ble_eq_true rfl⟩ ⟨Nat.le_of_ble_eq_true rfl, Nat.le_of_ble_eq_true rfl⟩ hS (by have hz9 := hS.1; rintro q9 (h9 | h9); exact Or.inl h9; exact Or.inr (by omega)) (fun v H1 locs hpo hfr hS => ?_)
  obtain ⟨rfl, hC⟩ := hpo
  generalize H1 = H at hfr hS hC ⊢
  refine W.widen (k := 0) (n := 0) (Nat.le_of_ble_eq_true rfl) (Nat.le_of_ble_eq_true rfl) ?_
  refine mh_top (y := .int (nI 7)) (rfl) ?_
  have hC : CLS g xb lim q n rm sl sv (txR tx (tcY (y % 6) (y / 8 % 6) (y / 64 % 6) (y / 512 % 6)) 7) 7 H := hC
  refine lv_bipush (v := nI 7) hx hb dL_types_96 (by decide) ?_
  refine mn_icmp_ne (tgt := 116) hB dL_types_98 (by decide) (by omega) (by omega) (fun h => by exfalso; omega) (fun h_98 => ?_)
  refine lv_aload_n hx hb dL_types_101 rfl (lv_at hl 1 rfl) ?_
  refine lv_bipush (v := nI 40) hx hb dL_types_102 (by decide) ?_
  refine cl_L_50 (As := [.int (nI 40)]) (rest := []) hB (f_X10_append l g H xb lim q n rm sl sv (txR tx (tcY (y % 6) (y / 8 % 6) (y / 64 % 6) (y / 512 % 6)) 7) 7 40 (hC) (by first | assumption | omega) (by first | assumption | omega)) hC.ob rfl hl.1 (Nat.le_of_ble_eq_true rfl) dL_types_104 ⟨Nat.le_of_ble_eq_true rfl, Nat.le_of_ble_eq_true rfl⟩ ⟨Nat.le_of_ble_eq_true rfl, Nat.le_of_ble_eq_true rfl⟩ hS (by have hz9 := hS.1; rintro q9 (h9 | h9); exact Or.inl h9; exact Or.inr (by omega)) (fun v H1 locs hpo hfr hS => ?_)
  obtain ⟨rfl, hC⟩ := hpo
  generalize H1 = H at hfr hS hC ⊢
  refine W.widen (k := 0) (n := 0) (Nat.le_of_ble_eq_true rfl) (Nat.le_of_ble_eq_true rfl) ?_
  refine mh_top (y := .int (nI 8)) (rfl) ?_
  have hC : CLS g xb lim q n rm sl sv (txR tx (tcY (y % 6) (y / 8 % 6) (y / 64 % 6) (y / 512 % 6)) 8) 8 H := hC
  refine lv_bipush (v := nI 8) hx hb dL_types_107 (by decide) ?_
  refine mn_icmp_ne (tgt := 116) hB dL_types_109 (by decide) (by omega) (by omega) (fun h => by exfalso; omega) (fun h_109 => ?_)
  refine lv_iconst (v := nI 1) hx hb dL_types_112 (by decide) ?_
  refine lv_goto (tgt := 117) hx hb dL_types_113 (by decide) ?_
  refine lv_istore_n (lv' := [(2, .int (nI 1)), (0, .ref xb), (1, .int (nI y))]) hx hb dL_types_117 rfl hl (by decide) rfl (fun ls hl => ?_)
  refine lv_iload_n hx hb dL_types_118 rfl (lv_at hl 0 rfl) ?_
  refine mn_if_eq (tgt := 195) hB dL_types_119 (by decide) (by omega) (fun h => by exfalso; omega) (fun h_119 => ?_)
  refine lv_aload_n hx hb dL_types_122 rfl (lv_at hl 1 rfl) ?_
  refine lv_bipush (v := nI 51) hx hb dL_types_123 (by decide) ?_
  refine cl_L_50 (As := [.int (nI 51)]) (rest := []) hB (f_X10_append l g H xb lim q n rm sl sv (txR tx (tcY (y % 6) (y / 8 % 6) (y / 64 % 6) (y / 512 % 6)) 8) 8 51 (hC) (by first | assumption | omega) (by first | assumption | omega)) hC.ob rfl hl.1 (Nat.le_of_ble_eq_true rfl) dL_types_125 ⟨Nat.le_of_ble_eq_true rfl, Nat.le_of_ble_eq_true rfl⟩ ⟨Nat.le_of_ble_eq_true rfl, Nat.le_of_ble_eq_true rfl⟩ hS (by have hz9 := hS.1; rintro q9 (h9 | h9); exact Or.inl h9; exact Or.inr (by omega)) (fun v H1 locs hpo hfr hS => ?_)
  obtain ⟨rfl, hC⟩ := hpo
  generalize H1 = H at hfr hS hC ⊢
  refine W.widen (k := 0) (n := 0) (Nat.le_of_ble_eq_true rfl) (Nat.le_of_ble_eq_true rfl) ?_
  refine mh_top (y := .int (nI 9)) (rfl) ?_
  have hC : CLS g xb lim q n rm sl sv (txR tx (tcY (y % 6) (y / 8 % 6) (y / 64 % 6) (y / 512 % 6)) 9) 9 H := hC
  refine lv_bipush (v := nI 9) hx hb dL_types_128 (by decide) ?_
  refine mn_icmp_ne (tgt := 195) hB dL_types_130 (by decide) (by omega) (by omega) (fun h => by exfalso; omega) (fun h_130 => ?_)
  refine lv_aload_n hx hb dL_types_133 rfl (lv_at hl 1 rfl) ?_
  refine lv_bipush (v := nI 97) hx hb dL_types_134 (by decide) ?_
  refine lv_iload_n hx hb dL_types_136 rfl (lv_at hl 2 rfl) ?_
  refine lv_bipush (v := nI 6) hx hb dL_types_137 (by decide) ?_
  refine lv_ishr hx hb dL_types_139 ?_
  refine mh_top (y := .int (nI (y / 64))) (by rw [shr_nI (by omega) (by omega) (show 2 ^ 6 = 64 from rfl)]) ?_
  refine lv_bipush (v := nI 6) hx hb dL_types_140 (by decide) ?_
  refine mn_irem hB dL_types_142 (by omega) (by omega) (by omega) ?_
  refine mn_iadd hB dL_types_143 ?_
  refine cl_L_50 (As := [.int (nI (97 + ((y / 64) % 6)))]) (rest := []) hB (f_X10_append l g H xb lim q n rm sl sv (txR tx (tcY (y % 6) (y / 8 % 6) (y / 64 % 6) (y / 512 % 6)) 9) 9 (97 + ((y / 64) % 6)) (hC) (by first | assumption | omega) (by first | assumption | omega)) hC.ob rfl hl.1 (Nat.le_of_ble_eq_true rfl) dL_types_144 ⟨Nat.le_of_ble_eq_true rfl, Nat.le_of_ble_eq_true rfl⟩ ⟨Nat.le_of_ble_eq_true rfl, Nat.le_of_ble_eq_true rfl⟩ hS (by have hz9 := hS.1; rintro q9 (h9 | h9); exact Or.inl h9; exact Or.inr (by omega)) (fun v H1 locs hpo hfr hS => ?_)
  obtain ⟨rfl, hC⟩ := hpo
  generalize H1 = H at hfr hS hC ⊢
  refine W.widen (k := 0) (n := 0) (Nat.le_of_ble_eq_true rfl) (Nat.le_of_ble_eq_true rfl) ?_
  refine mh_top (y := .int (nI 10)) (rfl) ?_
  have hC : CLS g xb lim q n rm sl sv (txR tx (tcY (y % 6) (y / 8 % 6) (y / 64 % 6) (y / 512 % 6)) 10) 10 H := hC
  refine lv_bipush (v := nI 10) hx hb dL_types_147 (by decide) ?_
  refine mn_icmp_ne (tgt := 195) hB dL_types_149 (by decide) (by omega) (by omega) (fun h => by exfalso; omega) (fun h_149 => ?_)
  refine lv_aload_n hx hb dL_types_152 rfl (lv_at hl 1 rfl) ?_
  refine lv_bipush (v := nI 97) hx hb dL_types_153 (by decide) ?_
  refine lv_iload_n hx hb dL_types_155 rfl (lv_at hl 2 rfl) ?_
  refine lv_bipush (v := nI 9) hx hb dL_types_156 (by decide) ?_
  refine lv_ishr hx hb dL_types_158 ?_
  refine mh_top (y := .int (nI (y / 512))) (by rw [shr_nI (by omega) (by omega) (show 2 ^ 9 = 512 from rfl)]) ?_
  refine lv_bipush (v := nI 6) hx hb dL_types_159 (by decide) ?_
  refine mn_irem hB dL_types_161 (by omega) (by omega) (by omega) ?_
  refine mn_iadd hB dL_types_162 ?_
  refine cl_L_50 (As := [.int (nI (97 + ((y / 512) % 6)))]) (rest := []) hB (f_X10_append l g H xb lim q n rm sl sv (txR tx (tcY (y % 6) (y / 8 % 6) (y / 64 % 6) (y / 512 % 6)) 10) 10 (97 + ((y / 512) % 6)) (hC) (by first | assumption | omega) (by first | assumption | omega)) hC.ob rfl hl.1 (Nat.le_of_ble_eq_true rfl) dL_types_163 ⟨Nat.le_of_ble_eq_true rfl, Nat.le_of_ble_eq_true rfl⟩ ⟨Nat.le_of_ble_eq_true rfl, Nat.le_of_ble_eq_true rfl⟩ hS (by have hz9 := hS.1; rintro q9 (h9 | h9); exact Or.inl h9; exact Or.inr (by omega)) (fun v H1 locs hpo hfr hS => ?_)
  obtain ⟨rfl, hC⟩ := hpo
  generalize H1 = H at hfr hS hC ⊢
  refine W.widen (k := 0) (n := 0) (Nat.le_of_ble_eq_true rfl) (Nat.le_of_ble_eq_true rfl) ?_
  refine mh_top (y := .int (nI 11)) (rfl) ?_
  have hC : CLS g xb lim q n rm sl sv (txR tx (tcY (y % 6) (y / 8 % 6) (y / 64 % 6) (y / 512 % 6)) 11) 11 H := hC
  refine lv_bipush (v := nI 11) hx hb dL_types_166 (by decide) ?_
  refine mn_icmp_ne (tgt := 195) hB dL_types_168 (by decide) (by omega) (by omega) (fun h => by exfalso; omega) (fun h_168 => ?_)
  refine lv_aload_n hx hb dL_types_171 rfl (lv_at hl 1 rfl) ?_
  refine lv_bipush (v := nI 41) hx hb dL_types_172 (by decide) ?_
  refine cl_L_50 (As := [.int (nI 41)]) (rest := []) hB (f_X10_append l g H xb lim q n rm sl sv (txR tx (tcY (y % 6) (y / 8 % 6) (y / 64 % 6) (y / 512 % 6)) 11) 11 41 (hC) (by first | assumption | omega) (by first | assumption | omega)) hC.ob rfl hl.1 (Nat.le_of_ble_eq_true rfl) dL_types_174 ⟨Nat.le_of_ble_eq_true rfl, Nat.le_of_ble_eq_true rfl⟩ ⟨Nat.le_of_ble_eq_true rfl, Nat.le_of_ble_eq_true rfl⟩ hS (by have hz9 := hS.1; rintro q9 (h9 | h9); exact Or.inl h9; exact Or.inr (by omega)) (fun v H1 locs hpo hfr hS => ?_)
  obtain ⟨rfl, hC⟩ := hpo
  generalize H1 = H at hfr hS hC ⊢
  refine W.widen (k := 0) (n := 0) (Nat.le_of_ble_eq_true rfl) (Nat.le_of_ble_eq_true rfl) ?_
  refine mh_top (y := .int (nI 12)) (rfl) ?_
  have hC : CLS g xb lim q n rm sl sv (txR tx (tcY (y % 6) (y / 8 % 6) (y / 64 % 6) (y / 512 % 6)) 12) 12 H := hC
  refine lv_bipush (v := nI 12) hx hb dL_types_177 (by decide) ?_
  refine mn_icmp_ne (tgt := 195) hB dL_types_179 (by decide) (by omega) (by omega) (fun h => by exfalso; omega) (fun h_179 => ?_)
  refine lv_aload_n hx hb dL_types_182 rfl (lv_at hl 1 rfl) ?_
  refine cl_L_53 (As := []) (rest := []) hB (f_X10_errorPosition l g H xb lim q n rm sl sv (txR tx (tcY (y % 6) (y / 8 % 6) (y / 64 % 6) (y / 512 % 6)) 12) 12 (tcY (y % 6) (y / 8 % 6) (y / 64 % 6) (y / 512 % 6)) (hC) (txR_ok (Nat.mod_lt _ (by omega)) (Nat.mod_lt _ (by omega)) (Nat.mod_lt _ (by omega)) (Nat.mod_lt _ (by omega)))) hC.ob rfl hl.1 (Nat.le_of_ble_eq_true rfl) dL_types_183 ⟨Nat.le_of_ble_eq_true rfl, Nat.le_of_ble_eq_true rfl⟩ ⟨Nat.le_of_ble_eq_true rfl, Nat.le_of_ble_eq_true rfl⟩ hS (by have hz9 := hS.1; rintro q9 (h9 | h9); exact Or.inl h9; exact Or.inr (by omega)) (fun v H1 locs hpo hfr hS => ?_)
  obtain ⟨rfl, hC⟩ := hpo
  generalize H1 = H at hfr hS hC ⊢
  refine W.widen (k := 0) (n := 0) (Nat.le_of_ble_eq_true rfl) (Nat.le_of_ble_eq_true rfl) ?_
  refine mh_top (y := .int (nI 12)) (by rw [ty_12 (Nat.mod_lt _ (by omega)) (Nat.mod_lt _ (by omega)) (Nat.mod_lt _ (by omega)) (Nat.mod_lt _ (by omega))]; rfl) ?_
  refine lv_bipush (v := nI 12) hx hb dL_types_186 (by decide) ?_
  refine mn_icmp_ne (tgt := 195) hB dL_types_188 (by decide) (by omega) (by omega) (fun h => by exfalso; omega) (fun h_188 => ?_)
  refine lv_iconst (v := nI 1) hx hb dL_types_191 (by decide) ?_
  refine lv_goto (tgt := 196) hx hb dL_types_192 (by decide) ?_
  refine lv_istore_n (lv' := [(2, .int (nI 1)), (0, .ref xb), (1, .int (nI y))]) hx hb dL_types_196 rfl hl (by decide) rfl (fun ls hl => ?_)
  refine lv_iload_n hx hb dL_types_197 rfl (lv_at hl 0 rfl) ?_
  refine mn_if_eq (tgt := 225) hB dL_types_198 (by decide) (by omega) (fun h => by exfalso; omega) (fun h_198 => ?_)
  refine lv_aload_n hx hb dL_types_201 rfl (lv_at hl 1 rfl) ?_
  refine lv_bipush (v := nI 93) hx hb dL_types_202 (by decide) ?_
  refine cl_L_50 (As := [.int (nI 93)]) (rest := []) hB (f_X10_append l g H xb lim q n rm sl sv (txR tx (tcY (y % 6) (y / 8 % 6) (y / 64 % 6) (y / 512 % 6)) 12) 12 93 (hC) (by first | assumption | omega) (by first | assumption | omega)) hC.ob rfl hl.1 (Nat.le_of_ble_eq_true rfl) dL_types_204 ⟨Nat.le_of_ble_eq_true rfl, Nat.le_of_ble_eq_true rfl⟩ ⟨Nat.le_of_ble_eq_true rfl, Nat.le_of_ble_eq_true rfl⟩ hS (by have hz9 := hS.1; rintro q9 (h9 | h9); exact Or.inl h9; exact Or.inr (by omega)) (fun v H1 locs hpo hfr hS => ?_)
  obtain ⟨rfl, hC⟩ := hpo
  generalize H1 = H at hfr hS hC ⊢
  refine W.widen (k := 0) (n := 0) (Nat.le_of_ble_eq_true rfl) (Nat.le_of_ble_eq_true rfl) ?_
  refine mh_top (y := .int (nI 13)) (rfl) ?_
  have hC : CLS g xb lim q n rm sl sv (txR tx (tcY (y % 6) (y / 8 % 6) (y / 64 % 6) (y / 512 % 6)) 13) 13 H := hC
  refine lv_bipush (v := nI 13) hx hb dL_types_207 (by decide) ?_
  refine mn_icmp_ne (tgt := 225) hB dL_types_209 (by decide) (by omega) (by omega) (fun h => by exfalso; omega) (fun h_209 => ?_)
  refine lv_aload_n hx hb dL_types_212 rfl (lv_at hl 1 rfl) ?_
  refine cl_L_53 (As := []) (rest := []) hB (f_X10_errorPosition l g H xb lim q n rm sl sv (txR tx (tcY (y % 6) (y / 8 % 6) (y / 64 % 6) (y / 512 % 6)) 13) 13 (tcY (y % 6) (y / 8 % 6) (y / 64 % 6) (y / 512 % 6)) (hC) (txR_ok (Nat.mod_lt _ (by omega)) (Nat.mod_lt _ (by omega)) (Nat.mod_lt _ (by omega)) (Nat.mod_lt _ (by omega)))) hC.ob rfl hl.1 (Nat.le_of_ble_eq_true rfl) dL_types_213 ⟨Nat.le_of_ble_eq_true rfl, Nat.le_of_ble_eq_true rfl⟩ ⟨Nat.le_of_ble_eq_true rfl, Nat.le_of_ble_eq_true rfl⟩ hS (by have hz9 := hS.1; rintro q9 (h9 | h9); exact Or.inl h9; exact Or.inr (by omega)) (fun v H1 locs hpo hfr hS => ?_)
  obtain ⟨rfl, hC⟩ := hpo
  generalize H1 = H at hfr hS hC ⊢
  refine W.widen (k := 0) (n := 0) (Nat.le_of_ble_eq_true rfl) (Nat.le_of_ble_eq_true rfl) ?_
  refine mh_top (y := .int (-9)) (by obtain ⟨bq, hq1, hq2⟩ := ty_13 (a := y % 6) (b := y / 8 % 6) (c := y / 64 % 6) (d := y / 512 % 6) (Nat.mod_lt _ (by omega)) (Nat.mod_lt _ (by omega)) (Nat.mod_lt _ (by omega)) (Nat.mod_lt _ (by omega)); rw [hq1]; rfl) ?_
  refine lv_bipush (v := (-9)) hx hb dL_types_216 (by decide) ?_
  refine lv_icmp_ne (tgt := 225) hx hb dL_types_218 (by decide) (fun h => absurd rfl h) (fun h_218 => ?_)
  refine lv_iconst (v := nI 1) hx hb dL_types_221 (by decide) ?_
  refine lv_goto (tgt := 226) hx hb dL_types_222 (by decide) ?_
  refine mh_zret hB ⟨Nat.le_of_ble_eq_true rfl, Nat.le_of_ble_eq_true rfl⟩ hS dL_types_226 (by first | rfl | decide | (split <;> rfl)) ⟨?_, ?_⟩
  · rfl
  · exact hC

