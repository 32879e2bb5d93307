theorem joinS_n {sg pl w1 h1 w0 h0 : Nat} {c1 c0 : Nat → Nat} (h : joinS (sg, pl, w1, h1, c1) (w0, h0, c0) = none) : (sg = 40 ∧ ¬ ((w1 = 0 ∨ h0 = h1) ∧ w1 + w0 ≤ 16)) ∨ (¬ sg = 40 ∧ ¬ ((w1 = 0 ∨ w0 = w1) ∧ h1 + h0 ≤ 16)) := by
  unfold joinS at h
  dsimp only at h
  by_cases z : sg = 40
  · rw [if_pos z] at h
    exact Or.inl ⟨z, fun y => by rw [if_pos y] at h; cases h⟩
  · rw [if_neg z] at h
    exact Or.inr ⟨z, fun y => by rw [if_pos y] at h; cases h⟩
theorem joinS_s {sg pl w1 h1 w0 h0 : Nat} {c1 c0 : Nat → Nat} {it2 : PIt} (h : joinS (sg, pl, w1, h1, c1) (w0, h0, c0) = some it2) : (sg = 40 ∧ (w1 = 0 ∨ h0 = h1) ∧ w1 + w0 ≤ 16 ∧ it2.2.2.1 = w1 + w0 ∧ it2.2.2.2.1 = h0) ∨ (¬ sg = 40 ∧ (w1 = 0 ∨ w0 = w1) ∧ h1 + h0 ≤ 16 ∧ it2.2.2.1 = w0 ∧ it2.2.2.2.1 = h1 + h0) := by
  unfold joinS at h
  dsimp only at h
  by_cases z : sg = 40
  · rw [if_pos z] at h
    by_cases y : (w1 = 0 ∨ h0 = h1) ∧ w1 + w0 ≤ 16
    · rw [if_pos y] at h; cases h; exact Or.inl ⟨z, y.1, y.2, rfl, rfl⟩
    · rw [if_neg y] at h; cases h
  · rw [if_neg z] at h
    by_cases y : (w1 = 0 ∨ w0 = w1) ∧ h1 + h0 ≤ 16
    · rw [if_pos y] at h; cases h; exact Or.inr ⟨z, y.1, y.2, rfl, rfl⟩
    · rw [if_neg y] at h; cases h

def rm_c_X9_putInside_nf : Room := { frames := 1, cells := 0, slots := 0, locals := 21 }
set_option maxRecDepth 100000 in
set_option maxHeartbeats 400000 in
theorem c_X9_putInside_nf (l : Launch) (g : GG) (H0 : Heap) (tb : Nat) (tx : Nat → Int32) (ln : Nat) (wd : Nat → Int32) (ht : Nat → Int32) (fi : Nat → Int32) (la : Nat → Int32) (nx : Nat → Int32) (di : Nat → Int32) (op : Nat → Int32) (oc : Int32) (wh : Int32) (j0 : Nat) (e0 : Nat) (sg : Nat) (pl : Nat) (w1 : Nat) (h1 : Nat) (c1 : Nat → Nat) (w0 : Nat) (h0 : Nat) (c0 : Nat → Nat) (hT : TxAt g tb tx ln wd ht fi la nx di op oc wh H0) (he : e0 < 60) (hj : j0 < 60) (hs : tx e0 = nI sg) (hsg : sg < 256) (hw9 : wd e0 = nI w1) (hh9 : ht e0 = nI h1) (hw8 : wd j0 = nI w0) (hh8 : ht j0 = nI h0) (hw1 : w1 ≤ 16) (hh1 : h1 ≤ 16) (hw0 : w0 ≤ 16) (hh0 : h0 ≤ 16) (hfi : fi e0 = -9) (hz1 : w1 = 0 ∧ h1 = 0) (hj2 : joinS (sg, pl, w1, h1, c1) (w0, h0, c0) = none) : Ct l yX9_putInside cX9_putInside 10 (some .int) rm_c_X9_putInside_nf g [.ref tb, .int (nI j0), .int (nI e0)] H0 (ftA (fun _ => False) H0.size) (fun v H1 => v = some (.int (nI j0)) ∧ H0 = H1) := by
  refine Ct.of (by decide) (fun _ h => Or.inr h) (Nat.le_of_ble_eq_true rfl) ?_
  intro p e s m below meth c ls hB hin hS hH hl
  have hx := hB.x
  have hb := hB.b
  have hl : lv_has ls 10 [(0, .ref tb), (1, .int (nI j0)), (2, .int (nI e0))] := hl
  have hq := joinS_n hj2
  refine lv_aload_n hx hb dX9_putInside_0 rfl (lv_at hl 0 rfl) ?_
  refine gf_X9_9 hB hT.1 rfl dX9_putInside_1 ?_
  refine lv_iload_n hx hb dX9_putInside_4 rfl (lv_at hl 2 rfl) ?_
  refine cl_X9_56 (As := [.ref (tb + 1), .int (nI e0)]) (rest := []) hB (c_X6_at l g H0 (tb + 1) 60 tx e0 hT.a_tx (he) (by first | assumption | omega)) rfl hl.1 (Nat.le_of_ble_eq_true rfl) dX9_putInside_5 ⟨Nat.le_of_ble_eq_true rfl, Nat.le_of_ble_eq_true rfl⟩ ⟨Nat.le_of_ble_eq_true rfl, Nat.le_of_ble_eq_true rfl⟩ hS (by have hz9 := hS.1; rintro q (h | h) <;> first | exact Or.inr (by omega) | exact h.elim | exact Or.inl h | (simp only [ftA] at h ⊢; omega)) (fun v H1 locs hpo hfr hS => ?_)
  obtain ⟨rfl, rfl⟩ := hpo
  refine W.widen (k := 0) (n := 0) (Nat.le_of_ble_eq_true rfl) (Nat.le_of_ble_eq_true rfl) ?_
  refine mh_top (y := .int (nI sg)) (by rw [hs]) ?_
  refine lv_bipush (v := nI 40) hx hb dX9_putInside_8 (by decide) ?_
  refine mn_icmp_ne (tgt := 17) hB dX9_putInside_10 (by decide) (by omega) (by omega) (fun h_10 => ?_) (fun h_10 => ?_)
  · skip
    refine lv_iconst (v := nI 0) hx hb dX9_putInside_17 (by decide) ?_
    refine lv_istore_n (lv' := [(3, .int (nI 0)), (0, .ref tb), (1, .int (nI j0)), (2, .int (nI e0))]) hx hb dX9_putInside_18 rfl hl (by decide) rfl (fun ls hl => ?_)
    refine lv_aload_n hx hb dX9_putInside_19 rfl (lv_at hl 1 rfl) ?_
    refine gf_X9_21 hB hT.1 rfl dX9_putInside_20 ?_
    refine lv_iload_n hx hb dX9_putInside_23 rfl (lv_at hl 3 rfl) ?_
    refine cl_X9_56 (As := [.ref (tb + 4), .int (nI e0)]) (rest := []) hB (c_X6_at l g H0 (tb + 4) 60 fi e0 hT.a_fi (he) (by first | assumption | omega)) rfl hl.1 (Nat.le_of_ble_eq_true rfl) dX9_putInside_24 ⟨Nat.le_of_ble_eq_true rfl, Nat.le_of_ble_eq_true rfl⟩ ⟨Nat.le_of_ble_eq_true rfl, Nat.le_of_ble_eq_true rfl⟩ hS (by have hz9 := hS.1; rintro q (h | h) <;> first | exact Or.inr (by omega) | exact h.elim | exact Or.inl h | (simp only [ftA] at h ⊢; omega)) (fun v H1 locs hpo hfr hS => ?_)
    obtain ⟨rfl, rfl⟩ := hpo
    refine W.widen (k := 0) (n := 0) (Nat.le_of_ble_eq_true rfl) (Nat.le_of_ble_eq_true rfl) ?_
    refine mh_top (y := .int (-9)) (by rw [hfi]) ?_
    refine lv_bipush (v := (-9)) hx hb dX9_putInside_27 (by decide) ?_
    refine lv_icmp_ne (tgt := 36) hx hb dX9_putInside_29 (by decide) (fun h => absurd rfl h) (fun h_29 => ?_)
    refine lv_iconst (v := nI 1) hx hb dX9_putInside_32 (by decide) ?_
    refine lv_goto (tgt := 37) hx hb dX9_putInside_33 (by decide) ?_
    refine lv_istore (lv' := [(4, .int (nI 1)), (3, .int (nI 0)), (0, .ref tb), (1, .int (nI j0)), (2, .int (nI e0))]) hx hb dX9_putInside_37 hl (by decide) rfl (fun ls hl => ?_)
    refine lv_aload_n hx hb dX9_putInside_39 rfl (lv_at hl 2 rfl) ?_
    refine gf_X9_15 hB hT.1 rfl dX9_putInside_40 ?_
    refine lv_iload_n hx hb dX9_putInside_43 rfl (lv_at hl 3 rfl) ?_
    refine cl_X9_56 (As := [.ref (tb + 2), .int (nI j0)]) (rest := []) hB (c_X6_at l g H0 (tb + 2) 60 wd j0 hT.a_wd (hj) (by first | assumption | omega)) rfl hl.1 (Nat.le_of_ble_eq_true rfl) dX9_putInside_44 ⟨Nat.le_of_ble_eq_true rfl, Nat.le_of_ble_eq_true rfl⟩ ⟨Nat.le_of_ble_eq_true rfl, Nat.le_of_ble_eq_true rfl⟩ hS (by have hz9 := hS.1; rintro q (h | h) <;> first | exact Or.inr (by omega) | exact h.elim | exact Or.inl h | (simp only [ftA] at h ⊢; omega)) (fun v H1 locs hpo hfr hS => ?_)
    obtain ⟨rfl, rfl⟩ := hpo
    refine W.widen (k := 0) (n := 0) (Nat.le_of_ble_eq_true rfl) (Nat.le_of_ble_eq_true rfl) ?_
    refine mh_top (y := .int (nI w0)) (by rw [hw8]) ?_
    refine lv_istore (lv' := [(5, .int (nI w0)), (4, .int (nI 1)), (3, .int (nI 0)), (0, .ref tb), (1, .int (nI j0)), (2, .int (nI e0))]) hx hb dX9_putInside_47 hl (by decide) rfl (fun ls hl => ?_)
    refine lv_aload_n hx hb dX9_putInside_49 rfl (lv_at hl 3 rfl) ?_
    refine gf_X9_18 hB hT.1 rfl dX9_putInside_50 ?_
    refine lv_iload_n hx hb dX9_putInside_53 rfl (lv_at hl 4 rfl) ?_
    refine cl_X9_56 (As := [.ref (tb + 3), .int (nI j0)]) (rest := []) hB (c_X6_at l g H0 (tb + 3) 60 ht j0 hT.a_ht (hj) (by first | assumption | omega)) rfl hl.1 (Nat.le_of_ble_eq_true rfl) dX9_putInside_54 ⟨Nat.le_of_ble_eq_true rfl, Nat.le_of_ble_eq_true rfl⟩ ⟨Nat.le_of_ble_eq_true rfl, Nat.le_of_ble_eq_true rfl⟩ hS (by have hz9 := hS.1; rintro q (h | h) <;> first | exact Or.inr (by omega) | exact h.elim | exact Or.inl h | (simp only [ftA] at h ⊢; omega)) (fun v H1 locs hpo hfr hS => ?_)
    obtain ⟨rfl, rfl⟩ := hpo
    refine W.widen (k := 0) (n := 0) (Nat.le_of_ble_eq_true rfl) (Nat.le_of_ble_eq_true rfl) ?_
    refine mh_top (y := .int (nI h0)) (by rw [hh8]) ?_
    refine lv_istore (lv' := [(6, .int (nI h0)), (5, .int (nI w0)), (4, .int (nI 1)), (3, .int (nI 0)), (0, .ref tb), (1, .int (nI j0)), (2, .int (nI e0))]) hx hb dX9_putInside_57 hl (by decide) rfl (fun ls hl => ?_)
    refine lv_iload hx hb dX9_putInside_59 (lv_at hl 2 rfl) ?_
    refine mn_if_ne (tgt := 99) hB dX9_putInside_61 (by decide) (by omega) (fun h_61 => ?_) (fun h => by exfalso; omega)
    refine lv_iload_n hx hb dX9_putInside_99 rfl (lv_at hl 3 rfl) ?_
    refine mn_if_eq (tgt := 110) hB dX9_putInside_100 (by decide) (by omega) (fun h_100 => ?_) (fun h => by exfalso; omega)
    refine lv_aload_n hx hb dX9_putInside_110 rfl (lv_at hl 4 rfl) ?_
    refine gf_X9_18 hB hT.1 rfl dX9_putInside_111 ?_
    refine lv_iload_n hx hb dX9_putInside_114 rfl (lv_at hl 6 rfl) ?_
    refine cl_X9_56 (As := [.ref (tb + 3), .int (nI e0)]) (rest := []) hB (c_X6_at l g H0 (tb + 3) 60 ht e0 hT.a_ht (he) (by first | assumption | omega)) rfl hl.1 (Nat.le_of_ble_eq_true rfl) dX9_putInside_115 ⟨Nat.le_of_ble_eq_true rfl, Nat.le_of_ble_eq_true rfl⟩ ⟨Nat.le_of_ble_eq_true rfl, Nat.le_of_ble_eq_true rfl⟩ hS (by have hz9 := hS.1; rintro q (h | h) <;> first | exact Or.inr (by omega) | exact h.elim | exact Or.inl h | (simp only [ftA] at h ⊢; omega)) (fun v H1 locs hpo hfr hS => ?_)
    obtain ⟨rfl, rfl⟩ := hpo
    refine W.widen (k := 0) (n := 0) (Nat.le_of_ble_eq_true rfl) (Nat.le_of_ble_eq_true rfl) ?_
    refine mh_top (y := .int (nI h1)) (by rw [hh9]) ?_
    refine lv_istore (lv' := [(7, .int (nI h1)), (6, .int (nI h0)), (5, .int (nI w0)), (4, .int (nI 1)), (3, .int (nI 0)), (0, .ref tb), (1, .int (nI j0)), (2, .int (nI e0))]) hx hb dX9_putInside_118 hl (by decide) rfl (fun ls hl => ?_)
    refine lv_iload_n hx hb dX9_putInside_120 rfl (lv_at hl 4 rfl) ?_
    refine mn_if_eq (tgt := 132) hB dX9_putInside_121 (by decide) (by omega) (fun h_121 => ?_) (fun h => by exfalso; omega)
    refine lv_iload hx hb dX9_putInside_132 (lv_at hl 2 rfl) ?_
    refine lv_istore (lv' := [(8, .int (nI w0)), (7, .int (nI h1)), (6, .int (nI h0)), (5, .int (nI w0)), (4, .int (nI 1)), (3, .int (nI 0)), (0, .ref tb), (1, .int (nI j0)), (2, .int (nI e0))]) hx hb dX9_putInside_134 hl (by decide) rfl (fun ls hl => ?_)
    refine lv_iload_n hx hb dX9_putInside_136 rfl (lv_at hl 5 rfl) ?_
    refine mn_if_eq (tgt := 145) hB dX9_putInside_137 (by decide) (by omega) (fun h_137 => ?_) (fun h => by exfalso; omega)
    refine lv_iload hx hb dX9_putInside_145 (lv_at hl 1 rfl) ?_
    refine lv_iload hx hb dX9_putInside_147 (lv_at hl 2 rfl) ?_
    refine mn_iadd hB dX9_putInside_149 ?_
    refine lv_istore (lv' := [(9, .int (nI (h1 + h0))), (8, .int (nI w0)), (7, .int (nI h1)), (6, .int (nI h0)), (5, .int (nI w0)), (4, .int (nI 1)), (3, .int (nI 0)), (0, .ref tb), (1, .int (nI j0)), (2, .int (nI e0))]) hx hb dX9_putInside_150 hl (by decide) rfl (fun ls hl => ?_)
    refine lv_iload hx hb dX9_putInside_152 (lv_at hl 1 rfl) ?_
    refine lv_bipush (v := nI 16) hx hb dX9_putInside_154 (by decide) ?_
    refine mn_icmp_gt (tgt := 166) hB dX9_putInside_156 (by decide) (by omega) (by omega) (fun h_156 => ?_) (fun h_156 => ?_)
    · skip
      refine lv_iload_n hx hb dX9_putInside_166 rfl (lv_at hl 8 rfl) ?_
      refine mh_iret hB ⟨Nat.le_of_ble_eq_true rfl, Nat.le_of_ble_eq_true rfl⟩ hS dX9_putInside_167 ⟨?_, rfl⟩
      · rfl
    · skip
      refine lv_iload hx hb dX9_putInside_159 (lv_at hl 0 rfl) ?_
      refine lv_bipush (v := nI 16) hx hb dX9_putInside_161 (by decide) ?_
      refine mn_icmp_le (tgt := 168) hB dX9_putInside_163 (by decide) (by omega) (by omega) (fun h => by exfalso; omega) (fun h_163 => ?_)
      refine lv_iload_n hx hb dX9_putInside_166 rfl (lv_at hl 8 rfl) ?_
      refine mh_iret hB ⟨Nat.le_of_ble_eq_true rfl, Nat.le_of_ble_eq_true rfl⟩ hS dX9_putInside_167 ⟨?_, rfl⟩
      · rfl
  · skip
    refine lv_iconst (v := nI 1) hx hb dX9_putInside_13 (by decide) ?_
    refine lv_goto (tgt := 18) hx hb dX9_putInside_14 (by decide) ?_
    refine lv_istore_n (lv' := [(3, .int (nI 1)), (0, .ref tb), (1, .int (nI j0)), (2, .int (nI e0))]) hx hb dX9_putInside_18 rfl hl (by decide) rfl (fun ls hl => ?_)
    refine lv_aload_n hx hb dX9_putInside_19 rfl (lv_at hl 1 rfl) ?_
    refine gf_X9_21 hB hT.1 rfl dX9_putInside_20 ?_
    refine lv_iload_n hx hb dX9_putInside_23 rfl (lv_at hl 3 rfl) ?_
    refine cl_X9_56 (As := [.ref (tb + 4), .int (nI e0)]) (rest := []) hB (c_X6_at l g H0 (tb + 4) 60 fi e0 hT.a_fi (he) (by first | assumption | omega)) rfl hl.1 (Nat.le_of_ble_eq_true rfl) dX9_putInside_24 ⟨Nat.le_of_ble_eq_true rfl, Nat.le_of_ble_eq_true rfl⟩ ⟨Nat.le_of_ble_eq_true rfl, Nat.le_of_ble_eq_true rfl⟩ hS (by have hz9 := hS.1; rintro q (h | h) <;> first | exact Or.inr (by omega) | exact h.elim | exact Or.inl h | (simp only [ftA] at h ⊢; omega)) (fun v H1 locs hpo hfr hS => ?_)
    obtain ⟨rfl, rfl⟩ := hpo
    refine W.widen (k := 0) (n := 0) (Nat.le_of_ble_eq_true rfl) (Nat.le_of_ble_eq_true rfl) ?_
    refine mh_top (y := .int (-9)) (by rw [hfi]) ?_
    refine lv_bipush (v := (-9)) hx hb dX9_putInside_27 (by decide) ?_
    refine lv_icmp_ne (tgt := 36) hx hb dX9_putInside_29 (by decide) (fun h => absurd rfl h) (fun h_29 => ?_)
    refine lv_iconst (v := nI 1) hx hb dX9_putInside_32 (by decide) ?_
    refine lv_goto (tgt := 37) hx hb dX9_putInside_33 (by decide) ?_
    refine lv_istore (lv' := [(4, .int (nI 1)), (3, .int (nI 1)), (0, .ref tb), (1, .int (nI j0)), (2, .int (nI e0))]) hx hb dX9_putInside_37 hl (by decide) rfl (fun ls hl => ?_)
    refine lv_aload_n hx hb dX9_putInside_39 rfl (lv_at hl 2 rfl) ?_
    refine gf_X9_15 hB hT.1 rfl dX9_putInside_40 ?_
    refine lv_iload_n hx hb dX9_putInside_43 rfl (lv_at hl 3 rfl) ?_
    refine cl_X9_56 (As := [.ref (tb + 2), .int (nI j0)]) (rest := []) hB (c_X6_at l g H0 (tb + 2) 60 wd j0 hT.a_wd (hj) (by first | assumption | omega)) rfl hl.1 (Nat.le_of_ble_eq_true rfl) dX9_putInside_44 ⟨Nat.le_of_ble_eq_true rfl, Nat.le_of_ble_eq_true rfl⟩ ⟨Nat.le_of_ble_eq_true rfl, Nat.le_of_ble_eq_true rfl⟩ hS (by have hz9 := hS.1; rintro q (h | h) <;> first | exact Or.inr (by omega) | exact h.elim | exact Or.inl h | (simp only [ftA] at h ⊢; omega)) (fun v H1 locs hpo hfr hS => ?_)
    obtain ⟨rfl, rfl⟩ := hpo
    refine W.widen (k := 0) (n := 0) (Nat.le_of_ble_eq_true rfl) (Nat.le_of_ble_eq_true rfl) ?_
    refine mh_top (y := .int (nI w0)) (by rw [hw8]) ?_
    refine lv_istore (lv' := [(5, .int (nI w0)), (4, .int (nI 1)), (3, .int (nI 1)), (0, .ref tb), (1, .int (nI j0)), (2, .int (nI e0))]) hx hb dX9_putInside_47 hl (by decide) rfl (fun ls hl => ?_)
    refine lv_aload_n hx hb dX9_putInside_49 rfl (lv_at hl 3 rfl) ?_
    refine gf_X9_18 hB hT.1 rfl dX9_putInside_50 ?_
    refine lv_iload_n hx hb dX9_putInside_53 rfl (lv_at hl 4 rfl) ?_
    refine cl_X9_56 (As := [.ref (tb + 3), .int (nI j0)]) (rest := []) hB (c_X6_at l g H0 (tb + 3) 60 ht j0 hT.a_ht (hj) (by first | assumption | omega)) rfl hl.1 (Nat.le_of_ble_eq_true rfl) dX9_putInside_54 ⟨Nat.le_of_ble_eq_true rfl, Nat.le_of_ble_eq_true rfl⟩ ⟨Nat.le_of_ble_eq_true rfl, Nat.le_of_ble_eq_true rfl⟩ hS (by have hz9 := hS.1; rintro q (h | h) <;> first | exact Or.inr (by omega) | exact h.elim | exact Or.inl h | (simp only [ftA] at h ⊢; omega)) (fun v H1 locs hpo hfr hS => ?_)
    obtain ⟨rfl, rfl⟩ := hpo
    refine W.widen (k := 0) (n := 0) (Nat.le_of_ble_eq_true rfl) (Nat.le_of_ble_eq_true rfl) ?_
    refine mh_top (y := .int (nI h0)) (by rw [hh8]) ?_
    refine lv_istore (lv' := [(6, .int (nI h0)), (5, .int (nI w0)), (4, .int (nI 1)), (3, .int (nI 1)), (0, .ref tb), (1, .int (nI j0)), (2, .int (nI e0))]) hx hb dX9_putInside_57 hl (by decide) rfl (fun ls hl => ?_)
    refine lv_iload hx hb dX9_putInside_59 (lv_at hl 2 rfl) ?_
    refine mn_if_ne (tgt := 99) hB dX9_putInside_61 (by decide) (by omega) (fun h_61 => ?_) (fun h => by exfalso; omega)
    refine lv_iload_n hx hb dX9_putInside_99 rfl (lv_at hl 3 rfl) ?_
    refine mn_if_eq (tgt := 110) hB dX9_putInside_100 (by decide) (by omega) (fun h => by exfalso; omega) (fun h_100 => ?_)
    refine lv_aload_n hx hb dX9_putInside_103 rfl (lv_at hl 4 rfl) ?_
    refine gf_X9_15 hB hT.1 rfl dX9_putInside_104 ?_
    refine lv_goto (tgt := 114) hx hb dX9_putInside_107 (by decide) ?_
    refine lv_iload_n hx hb dX9_putInside_114 rfl (lv_at hl 6 rfl) ?_
    refine cl_X9_56 (As := [.ref (tb + 2), .int (nI e0)]) (rest := []) hB (c_X6_at l g H0 (tb + 2) 60 wd e0 hT.a_wd (he) (by first | assumption | omega)) rfl hl.1 (Nat.le_of_ble_eq_true rfl) dX9_putInside_115 ⟨Nat.le_of_ble_eq_true rfl, Nat.le_of_ble_eq_true rfl⟩ ⟨Nat.le_of_ble_eq_true rfl, Nat.le_of_ble_eq_true rfl⟩ hS (by have hz9 := hS.1; rintro q (h | h) <;> first | exact Or.inr (by omega) | exact h.elim | exact Or.inl h | (simp only [ftA] at h ⊢; omega)) (fun v H1 locs hpo hfr hS => ?_)
    obtain ⟨rfl, rfl⟩ := hpo
    refine W.widen (k := 0) (n := 0) (Nat.le_of_ble_eq_true rfl) (Nat.le_of_ble_eq_true rfl) ?_
    refine mh_top (y := .int (nI w1)) (by rw [hw9]) ?_
    refine lv_istore (lv' := [(7, .int (nI w1)), (6, .int (nI h0)), (5, .int (nI w0)), (4, .int (nI 1)), (3, .int (nI 1)), (0, .ref tb), (1, .int (nI j0)), (2, .int (nI e0))]) hx hb dX9_putInside_118 hl (by decide) rfl (fun ls hl => ?_)
    refine lv_iload_n hx hb dX9_putInside_120 rfl (lv_at hl 4 rfl) ?_
    refine mn_if_eq (tgt := 132) hB dX9_putInside_121 (by decide) (by omega) (fun h => by exfalso; omega) (fun h_121 => ?_)
    refine lv_iload hx hb dX9_putInside_124 (lv_at hl 0 rfl) ?_
    refine lv_iload hx hb dX9_putInside_126 (lv_at hl 2 rfl) ?_
    refine mn_iadd hB dX9_putInside_128 ?_
    refine lv_goto (tgt := 134) hx hb dX9_putInside_129 (by decide) ?_
    refine lv_istore (lv' := [(8, .int (nI (w1 + w0))), (7, .int (nI w1)), (6, .int (nI h0)), (5, .int (nI w0)), (4, .int (nI 1)), (3, .int (nI 1)), (0, .ref tb), (1, .int (nI j0)), (2, .int (nI e0))]) hx hb dX9_putInside_134 hl (by decide) rfl (fun ls hl => ?_)
    refine lv_iload_n hx hb dX9_putInside_136 rfl (lv_at hl 5 rfl) ?_
    refine mn_if_eq (tgt := 145) hB dX9_putInside_137 (by decide) (by omega) (fun h => by exfalso; omega) (fun h_137 => ?_)
    refine lv_iload hx hb dX9_putInside_140 (lv_at hl 2 rfl) ?_
    refine lv_goto (tgt := 150) hx hb dX9_putInside_142 (by decide) ?_
    refine lv_istore (lv' := [(9, .int (nI h0)), (8, .int (nI (w1 + w0))), (7, .int (nI w1)), (6, .int (nI h0)), (5, .int (nI w0)), (4, .int (nI 1)), (3, .int (nI 1)), (0, .ref tb), (1, .int (nI j0)), (2, .int (nI e0))]) hx hb dX9_putInside_150 hl (by decide) rfl (fun ls hl => ?_)
    refine lv_iload hx hb dX9_putInside_152 (lv_at hl 1 rfl) ?_
    refine lv_bipush (v := nI 16) hx hb dX9_putInside_154 (by decide) ?_
    refine mn_icmp_gt (tgt := 166) hB dX9_putInside_156 (by decide) (by omega) (by omega) (fun h_156 => ?_) (fun h_156 => ?_)
    · skip
      refine lv_iload_n hx hb dX9_putInside_166 rfl (lv_at hl 8 rfl) ?_
      refine mh_iret hB ⟨Nat.le_of_ble_eq_true rfl, Nat.le_of_ble_eq_true rfl⟩ hS dX9_putInside_167 ⟨?_, rfl⟩
      · rfl
    · skip
      refine lv_iload hx hb dX9_putInside_159 (lv_at hl 0 rfl) ?_
      refine lv_bipush (v := nI 16) hx hb dX9_putInside_161 (by decide) ?_
      refine mn_icmp_le (tgt := 168) hB dX9_putInside_163 (by decide) (by omega) (by omega) (fun h => by exfalso; omega) (fun h_163 => ?_)
      refine lv_iload_n hx hb dX9_putInside_166 rfl (lv_at hl 8 rfl) ?_
      refine mh_iret hB ⟨Nat.le_of_ble_eq_true rfl, Nat.le_of_ble_eq_true rfl⟩ hS dX9_putInside_167 ⟨?_, rfl⟩
      · rfl

def rm_c_X9_putInside_nx : Room := { frames := 1, cells := 0, slots := 0, locals := 21 }
set_option maxRecDepth 100000 in
set_option maxHeartbeats 400000 in
theorem c_X9_putInside_nx (l : Launch) (g : GG) (H0 : Heap) (tb : Nat) (tx : Nat → Int32) (ln : Nat) (wd : Nat → Int32) (ht : Nat → Int32) (fi : Nat → Int32) (la : Nat → Int32) (nx : Nat → Int32) (di : Nat → Int32) (op : Nat → Int32) (oc : Int32) (wh : Int32) (j0 : Nat) (e0 : Nat) (sg : Nat) (pl : Nat) (w1 : Nat) (h1 : Nat) (c1 : Nat → Nat) (w0 : Nat) (h0 : Nat) (c0 : Nat → Nat) (f0 : Nat) (hT : TxAt g tb tx ln wd ht fi la nx di op oc wh H0) (he : e0 < 60) (hj : j0 < 60) (hs : tx e0 = nI sg) (hsg : sg < 256) (hw9 : wd e0 = nI w1) (hh9 : ht e0 = nI h1) (hw8 : wd j0 = nI w0) (hh8 : ht j0 = nI h0) (hw1 : w1 ≤ 16) (hh1 : h1 ≤ 16) (hw0 : w0 ≤ 16) (hh0 : h0 ≤ 16) (hfi : fi e0 = nI f0) (hf0 : f0 < 60) (hj2 : joinS (sg, pl, w1, h1, c1) (w0, h0, c0) = none) : Ct l yX9_putInside cX9_putInside 10 (some .int) rm_c_X9_putInside_nx g [.ref tb, .int (nI j0), .int (nI e0)] H0 (ftA (fun _ => False) H0.size) (fun v H1 => v = some (.int (nI j0)) ∧ H0 = H1) := by
  refine Ct.of (by decide) (fun _ h => Or.inr h) (Nat.le_of_ble_eq_true rfl) ?_
  intro p e s m below meth c ls hB hin hS hH hl
  have hx := hB.x
  have hb := hB.b
  have hl : lv_has ls 10 [(0, .ref tb), (1, .int (nI j0)), (2, .int (nI e0))] := hl
  have hq := joinS_n hj2
  refine lv_aload_n hx hb dX9_putInside_0 rfl (lv_at hl 0 rfl) ?_
  refine gf_X9_9 hB hT.1 rfl dX9_putInside_1 ?_
  refine lv_iload_n hx hb dX9_putInside_4 rfl (lv_at hl 2 rfl) ?_
  refine cl_X9_56 (As := [.ref (tb + 1), .int (nI e0)]) (rest := []) hB (c_X6_at l g H0 (tb + 1) 60 tx e0 hT.a_tx (he) (by first | assumption | omega)) rfl hl.1 (Nat.le_of_ble_eq_true rfl) dX9_putInside_5 ⟨Nat.le_of_ble_eq_true rfl, Nat.le_of_ble_eq_true rfl⟩ ⟨Nat.le_of_ble_eq_true rfl, Nat.le_of_ble_eq_true rfl⟩ hS (by have hz9 := hS.1; rintro q (h | h) <;> first | exact Or.inr (by omega) | exact h.elim | exact Or.inl h | (simp only [ftA] at h ⊢; omega)) (fun v H1 locs hpo hfr hS => ?_)
  obtain ⟨rfl, rfl⟩ := hpo
  refine W.widen (k := 0) (n := 0) (Nat.le_of_ble_eq_true rfl) (Nat.le_of_ble_eq_true rfl) ?_
  refine mh_top (y := .int (nI sg)) (by rw [hs]) ?_
  refine lv_bipush (v := nI 40) hx hb dX9_putInside_8 (by decide) ?_
  refine mn_icmp_ne (tgt := 17) hB dX9_putInside_10 (by decide) (by omega) (by omega) (fun h_10 => ?_) (fun h_10 => ?_)
  · skip
    refine lv_iconst (v := nI 0) hx hb dX9_putInside_17 (by decide) ?_
    refine lv_istore_n (lv' := [(3, .int (nI 0)), (0, .ref tb), (1, .int (nI j0)), (2, .int (nI e0))]) hx hb dX9_putInside_18 rfl hl (by decide) rfl (fun ls hl => ?_)
    refine lv_aload_n hx hb dX9_putInside_19 rfl (lv_at hl 1 rfl) ?_
    refine gf_X9_21 hB hT.1 rfl dX9_putInside_20 ?_
    refine lv_iload_n hx hb dX9_putInside_23 rfl (lv_at hl 3 rfl) ?_
    refine cl_X9_56 (As := [.ref (tb + 4), .int (nI e0)]) (rest := []) hB (c_X6_at l g H0 (tb + 4) 60 fi e0 hT.a_fi (he) (by first | assumption | omega)) rfl hl.1 (Nat.le_of_ble_eq_true rfl) dX9_putInside_24 ⟨Nat.le_of_ble_eq_true rfl, Nat.le_of_ble_eq_true rfl⟩ ⟨Nat.le_of_ble_eq_true rfl, Nat.le_of_ble_eq_true rfl⟩ hS (by have hz9 := hS.1; rintro q (h | h) <;> first | exact Or.inr (by omega) | exact h.elim | exact Or.inl h | (simp only [ftA] at h ⊢; omega)) (fun v H1 locs hpo hfr hS => ?_)
    obtain ⟨rfl, rfl⟩ := hpo
    refine W.widen (k := 0) (n := 0) (Nat.le_of_ble_eq_true rfl) (Nat.le_of_ble_eq_true rfl) ?_
    refine mh_top (y := .int (nI f0)) (by rw [hfi]) ?_
    refine lv_bipush (v := (-9)) hx hb dX9_putInside_27 (by decide) ?_
    refine lv_icmp_ne (tgt := 36) hx hb dX9_putInside_29 (by decide) (fun h_29 => ?_) (fun h => absurd h (nI_ne9 (by omega)))
    refine lv_iconst (v := nI 0) hx hb dX9_putInside_36 (by decide) ?_
    refine lv_istore (lv' := [(4, .int (nI 0)), (3, .int (nI 0)), (0, .ref tb), (1, .int (nI j0)), (2, .int (nI e0))]) hx hb dX9_putInside_37 hl (by decide) rfl (fun ls hl => ?_)
    refine lv_aload_n hx hb dX9_putInside_39 rfl (lv_at hl 2 rfl) ?_
    refine gf_X9_15 hB hT.1 rfl dX9_putInside_40 ?_
    refine lv_iload_n hx hb dX9_putInside_43 rfl (lv_at hl 3 rfl) ?_
    refine cl_X9_56 (As := [.ref (tb + 2), .int (nI j0)]) (rest := []) hB (c_X6_at l g H0 (tb + 2) 60 wd j0 hT.a_wd (hj) (by first | assumption | omega)) rfl hl.1 (Nat.le_of_ble_eq_true rfl) dX9_putInside_44 ⟨Nat.le_of_ble_eq_true rfl, Nat.le_of_ble_eq_true rfl⟩ ⟨Nat.le_of_ble_eq_true rfl, Nat.le_of_ble_eq_true rfl⟩ hS (by have hz9 := hS.1; rintro q (h | h) <;> first | exact Or.inr (by omega) | exact h.elim | exact Or.inl h | (simp only [ftA] at h ⊢; omega)) (fun v H1 locs hpo hfr hS => ?_)
    obtain ⟨rfl, rfl⟩ := hpo
    refine W.widen (k := 0) (n := 0) (Nat.le_of_ble_eq_true rfl) (Nat.le_of_ble_eq_true rfl) ?_
    refine mh_top (y := .int (nI w0)) (by rw [hw8]) ?_
    refine lv_istore (lv' := [(5, .int (nI w0)), (4, .int (nI 0)), (3, .int (nI 0)), (0, .ref tb), (1, .int (nI j0)), (2, .int (nI e0))]) hx hb dX9_putInside_47 hl (by decide) rfl (fun ls hl => ?_)
    refine lv_aload_n hx hb dX9_putInside_49 rfl (lv_at hl 3 rfl) ?_
    refine gf_X9_18 hB hT.1 rfl dX9_putInside_50 ?_
    refine lv_iload_n hx hb dX9_putInside_53 rfl (lv_at hl 4 rfl) ?_
    refine cl_X9_56 (As := [.ref (tb + 3), .int (nI j0)]) (rest := []) hB (c_X6_at l g H0 (tb + 3) 60 ht j0 hT.a_ht (hj) (by first | assumption | omega)) rfl hl.1 (Nat.le_of_ble_eq_true rfl) dX9_putInside_54 ⟨Nat.le_of_ble_eq_true rfl, Nat.le_of_ble_eq_true rfl⟩ ⟨Nat.le_of_ble_eq_true rfl, Nat.le_of_ble_eq_true rfl⟩ hS (by have hz9 := hS.1; rintro q (h | h) <;> first | exact Or.inr (by omega) | exact h.elim | exact Or.inl h | (simp only [ftA] at h ⊢; omega)) (fun v H1 locs hpo hfr hS => ?_)
    obtain ⟨rfl, rfl⟩ := hpo
    refine W.widen (k := 0) (n := 0) (Nat.le_of_ble_eq_true rfl) (Nat.le_of_ble_eq_true rfl) ?_
    refine mh_top (y := .int (nI h0)) (by rw [hh8]) ?_
    refine lv_istore (lv' := [(6, .int (nI h0)), (5, .int (nI w0)), (4, .int (nI 0)), (3, .int (nI 0)), (0, .ref tb), (1, .int (nI j0)), (2, .int (nI e0))]) hx hb dX9_putInside_57 hl (by decide) rfl (fun ls hl => ?_)
    refine lv_iload hx hb dX9_putInside_59 (lv_at hl 2 rfl) ?_
    refine mn_if_ne (tgt := 99) hB dX9_putInside_61 (by decide) (by omega) (fun h => by exfalso; omega) (fun h_61 => ?_)
    refine lv_iload_n hx hb dX9_putInside_64 rfl (lv_at hl 3 rfl) ?_
    refine mn_if_eq (tgt := 84) hB dX9_putInside_65 (by decide) (by omega) (fun h_65 => ?_) (fun h => by exfalso; omega)
    refine lv_iload hx hb dX9_putInside_84 (lv_at hl 1 rfl) ?_
    refine lv_aload_n hx hb dX9_putInside_86 rfl (lv_at hl 4 rfl) ?_
    refine gf_X9_15 hB hT.1 rfl dX9_putInside_87 ?_
    refine lv_iload_n hx hb dX9_putInside_90 rfl (lv_at hl 6 rfl) ?_
    refine cl_X9_56 (As := [.ref (tb + 2), .int (nI e0)]) (rest := [.int (nI w0)]) hB (c_X6_at l g H0 (tb + 2) 60 wd e0 hT.a_wd (he) (by first | assumption | omega)) rfl hl.1 (Nat.le_of_ble_eq_true rfl) dX9_putInside_91 ⟨Nat.le_of_ble_eq_true rfl, Nat.le_of_ble_eq_true rfl⟩ ⟨Nat.le_of_ble_eq_true rfl, Nat.le_of_ble_eq_true rfl⟩ hS (by have hz9 := hS.1; rintro q (h | h) <;> first | exact Or.inr (by omega) | exact h.elim | exact Or.inl h | (simp only [ftA] at h ⊢; omega)) (fun v H1 locs hpo hfr hS => ?_)
    obtain ⟨rfl, rfl⟩ := hpo
    refine W.widen (k := 0) (n := 0) (Nat.le_of_ble_eq_true rfl) (Nat.le_of_ble_eq_true rfl) ?_
    refine mh_top (y := .int (nI w1)) (by rw [hw9]) ?_
    refine mn_icmp_eq (tgt := 99) hB dX9_putInside_94 (by decide) (by omega) (by omega) (fun h_94 => ?_) (fun h_94 => ?_)
    · skip
      refine lv_iload_n hx hb dX9_putInside_99 rfl (lv_at hl 3 rfl) ?_
      refine mn_if_eq (tgt := 110) hB dX9_putInside_100 (by decide) (by omega) (fun h_100 => ?_) (fun h => by exfalso; omega)
      refine lv_aload_n hx hb dX9_putInside_110 rfl (lv_at hl 4 rfl) ?_
      refine gf_X9_18 hB hT.1 rfl dX9_putInside_111 ?_
      refine lv_iload_n hx hb dX9_putInside_114 rfl (lv_at hl 6 rfl) ?_
      refine cl_X9_56 (As := [.ref (tb + 3), .int (nI e0)]) (rest := []) hB (c_X6_at l g H0 (tb + 3) 60 ht e0 hT.a_ht (he) (by first | assumption | omega)) rfl hl.1 (Nat.le_of_ble_eq_true rfl) dX9_putInside_115 ⟨Nat.le_of_ble_eq_true rfl, Nat.le_of_ble_eq_true rfl⟩ ⟨Nat.le_of_ble_eq_true rfl, Nat.le_of_ble_eq_true rfl⟩ hS (by have hz9 := hS.1; rintro q (h | h) <;> first | exact Or.inr (by omega) | exact h.elim | exact Or.inl h | (simp only [ftA] at h ⊢; omega)) (fun v H1 locs hpo hfr hS => ?_)
      obtain ⟨rfl, rfl⟩ := hpo
      refine W.widen (k := 0) (n := 0) (Nat.le_of_ble_eq_true rfl) (Nat.le_of_ble_eq_true rfl) ?_
      refine mh_top (y := .int (nI h1)) (by rw [hh9]) ?_
      refine lv_istore (lv' := [(7, .int (nI h1)), (6, .int (nI h0)), (5, .int (nI w0)), (4, .int (nI 0)), (3, .int (nI 0)), (0, .ref tb), (1, .int (nI j0)), (2, .int (nI e0))]) hx hb dX9_putInside_118 hl (by decide) rfl (fun ls hl => ?_)
      refine lv_iload_n hx hb dX9_putInside_120 rfl (lv_at hl 4 rfl) ?_
      refine mn_if_eq (tgt := 132) hB dX9_putInside_121 (by decide) (by omega) (fun h_121 => ?_) (fun h => by exfalso; omega)
      refine lv_iload hx hb dX9_putInside_132 (lv_at hl 2 rfl) ?_
      refine lv_istore (lv' := [(8, .int (nI w0)), (7, .int (nI h1)), (6, .int (nI h0)), (5, .int (nI w0)), (4, .int (nI 0)), (3, .int (nI 0)), (0, .ref tb), (1, .int (nI j0)), (2, .int (nI e0))]) hx hb dX9_putInside_134 hl (by decide) rfl (fun ls hl => ?_)
      refine lv_iload_n hx hb dX9_putInside_136 rfl (lv_at hl 5 rfl) ?_
      refine mn_if_eq (tgt := 145) hB dX9_putInside_137 (by decide) (by omega) (fun h_137 => ?_) (fun h => by exfalso; omega)
      refine lv_iload hx hb dX9_putInside_145 (lv_at hl 1 rfl) ?_
      refine lv_iload hx hb dX9_putInside_147 (lv_at hl 2 rfl) ?_
      refine mn_iadd hB dX9_putInside_149 ?_
      refine lv_istore (lv' := [(9, .int (nI (h1 + h0))), (8, .int (nI w0)), (7, .int (nI h1)), (6, .int (nI h0)), (5, .int (nI w0)), (4, .int (nI 0)), (3, .int (nI 0)), (0, .ref tb), (1, .int (nI j0)), (2, .int (nI e0))]) hx hb dX9_putInside_150 hl (by decide) rfl (fun ls hl => ?_)
      refine lv_iload hx hb dX9_putInside_152 (lv_at hl 1 rfl) ?_
      refine lv_bipush (v := nI 16) hx hb dX9_putInside_154 (by decide) ?_
      refine mn_icmp_gt (tgt := 166) hB dX9_putInside_156 (by decide) (by omega) (by omega) (fun h_156 => ?_) (fun h_156 => ?_)
      · skip
        refine lv_iload_n hx hb dX9_putInside_166 rfl (lv_at hl 8 rfl) ?_
        refine mh_iret hB ⟨Nat.le_of_ble_eq_true rfl, Nat.le_of_ble_eq_true rfl⟩ hS dX9_putInside_167 ⟨?_, rfl⟩
        · rfl
      · skip
        refine lv_iload hx hb dX9_putInside_159 (lv_at hl 0 rfl) ?_
        refine lv_bipush (v := nI 16) hx hb dX9_putInside_161 (by decide) ?_
        refine mn_icmp_le (tgt := 168) hB dX9_putInside_163 (by decide) (by omega) (by omega) (fun h => by exfalso; omega) (fun h_163 => ?_)
        refine lv_iload_n hx hb dX9_putInside_166 rfl (lv_at hl 8 rfl) ?_
        refine mh_iret hB ⟨Nat.le_of_ble_eq_true rfl, Nat.le_of_ble_eq_true rfl⟩ hS dX9_putInside_167 ⟨?_, rfl⟩
        · rfl
    · skip
      refine lv_iload_n hx hb dX9_putInside_97 rfl (lv_at hl 5 rfl) ?_
      refine mh_iret hB ⟨Nat.le_of_ble_eq_true rfl, Nat.le_of_ble_eq_true rfl⟩ hS dX9_putInside_98 ⟨?_, rfl⟩
      · rfl
  · skip
    refine lv_iconst (v := nI 1) hx hb dX9_putInside_13 (by decide) ?_
    refine lv_goto (tgt := 18) hx hb dX9_putInside_14 (by decide) ?_
    refine lv_istore_n (lv' := [(3, .int (nI 1)), (0, .ref tb), (1, .int (nI j0)), (2, .int (nI e0))]) hx hb dX9_putInside_18 rfl hl (by decide) rfl (fun ls hl => ?_)
    refine lv_aload_n hx hb dX9_putInside_19 rfl (lv_at hl 1 rfl) ?_
    refine gf_X9_21 hB hT.1 rfl dX9_putInside_20 ?_
    refine lv_iload_n hx hb dX9_putInside_23 rfl (lv_at hl 3 rfl) ?_
    refine cl_X9_56 (As := [.ref (tb + 4), .int (nI e0)]) (rest := []) hB (c_X6_at l g H0 (tb + 4) 60 fi e0 hT.a_fi (he) (by first | assumption | omega)) rfl hl.1 (Nat.le_of_ble_eq_true rfl) dX9_putInside_24 ⟨Nat.le_of_ble_eq_true rfl, Nat.le_of_ble_eq_true rfl⟩ ⟨Nat.le_of_ble_eq_true rfl, Nat.le_of_ble_eq_true rfl⟩ hS (by have hz9 := hS.1; rintro q (h | h) <;> first | exact Or.inr (by omega) | exact h.elim | exact Or.inl h | (simp only [ftA] at h ⊢; omega)) (fun v H1 locs hpo hfr hS => ?_)
    obtain ⟨rfl, rfl⟩ := hpo
    refine W.widen (k := 0) (n := 0) (Nat.le_of_ble_eq_true rfl) (Nat.le_of_ble_eq_true rfl) ?_
    refine mh_top (y := .int (nI f0)) (by rw [hfi]) ?_
    refine lv_bipush (v := (-9)) hx hb dX9_putInside_27 (by decide) ?_
    refine lv_icmp_ne (tgt := 36) hx hb dX9_putInside_29 (by decide) (fun h_29 => ?_) (fun h => absurd h (nI_ne9 (by omega)))
    refine lv_iconst (v := nI 0) hx hb dX9_putInside_36 (by decide) ?_
    refine lv_istore (lv' := [(4, .int (nI 0)), (3, .int (nI 1)), (0, .ref tb), (1, .int (nI j0)), (2, .int (nI e0))]) hx hb dX9_putInside_37 hl (by decide) rfl (fun ls hl => ?_)
    refine lv_aload_n hx hb dX9_putInside_39 rfl (lv_at hl 2 rfl) ?_
    refine gf_X9_15 hB hT.1 rfl dX9_putInside_40 ?_
    refine lv_iload_n hx hb dX9_putInside_43 rfl (lv_at hl 3 rfl) ?_
    refine cl_X9_56 (As := [.ref (tb + 2), .int (nI j0)]) (rest := []) hB (c_X6_at l g H0 (tb + 2) 60 wd j0 hT.a_wd (hj) (by first | assumption | omega)) rfl hl.1 (Nat.le_of_ble_eq_true rfl) dX9_putInside_44 ⟨Nat.le_of_ble_eq_true rfl, Nat.le_of_ble_eq_true rfl⟩ ⟨Nat.le_of_ble_eq_true rfl, Nat.le_of_ble_eq_true rfl⟩ hS (by have hz9 := hS.1; rintro q (h | h) <;> first | exact Or.inr (by omega) | exact h.elim | exact Or.inl h | (simp only [ftA] at h ⊢; omega)) (fun v H1 locs hpo hfr hS => ?_)
    obtain ⟨rfl, rfl⟩ := hpo
    refine W.widen (k := 0) (n := 0) (Nat.le_of_ble_eq_true rfl) (Nat.le_of_ble_eq_true rfl) ?_
    refine mh_top (y := .int (nI w0)) (by rw [hw8]) ?_
    refine lv_istore (lv' := [(5, .int (nI w0)), (4, .int (nI 0)), (3, .int (nI 1)), (0, .ref tb), (1, .int (nI j0)), (2, .int (nI e0))]) hx hb dX9_putInside_47 hl (by decide) rfl (fun ls hl => ?_)
    refine lv_aload_n hx hb dX9_putInside_49 rfl (lv_at hl 3 rfl) ?_
    refine gf_X9_18 hB hT.1 rfl dX9_putInside_50 ?_
    refine lv_iload_n hx hb dX9_putInside_53 rfl (lv_at hl 4 rfl) ?_
    refine cl_X9_56 (As := [.ref (tb + 3), .int (nI j0)]) (rest := []) hB (c_X6_at l g H0 (tb + 3) 60 ht j0 hT.a_ht (hj) (by first | assumption | omega)) rfl hl.1 (Nat.le_of_ble_eq_true rfl) dX9_putInside_54 ⟨Nat.le_of_ble_eq_true rfl, Nat.le_of_ble_eq_true rfl⟩ ⟨Nat.le_of_ble_eq_true rfl, Nat.le_of_ble_eq_true rfl⟩ hS (by have hz9 := hS.1; rintro q (h | h) <;> first | exact Or.inr (by omega) | exact h.elim | exact Or.inl h | (simp only [ftA] at h ⊢; omega)) (fun v H1 locs hpo hfr hS => ?_)
    obtain ⟨rfl, rfl⟩ := hpo
    refine W.widen (k := 0) (n := 0) (Nat.le_of_ble_eq_true rfl) (Nat.le_of_ble_eq_true rfl) ?_
    refine mh_top (y := .int (nI h0)) (by rw [hh8]) ?_
    refine lv_istore (lv' := [(6, .int (nI h0)), (5, .int (nI w0)), (4, .int (nI 0)), (3, .int (nI 1)), (0, .ref tb), (1, .int (nI j0)), (2, .int (nI e0))]) hx hb dX9_putInside_57 hl (by decide) rfl (fun ls hl => ?_)
    refine lv_iload hx hb dX9_putInside_59 (lv_at hl 2 rfl) ?_
    refine mn_if_ne (tgt := 99) hB dX9_putInside_61 (by decide) (by omega) (fun h => by exfalso; omega) (fun h_61 => ?_)
    refine lv_iload_n hx hb dX9_putInside_64 rfl (lv_at hl 3 rfl) ?_
    refine mn_if_eq (tgt := 84) hB dX9_putInside_65 (by decide) (by omega) (fun h => by exfalso; omega) (fun h_65 => ?_)
    refine lv_iload hx hb dX9_putInside_68 (lv_at hl 0 rfl) ?_
    refine lv_aload_n hx hb dX9_putInside_70 rfl (lv_at hl 4 rfl) ?_
    refine gf_X9_18 hB hT.1 rfl dX9_putInside_71 ?_
    refine lv_iload_n hx hb dX9_putInside_74 rfl (lv_at hl 6 rfl) ?_
    refine cl_X9_56 (As := [.ref (tb + 3), .int (nI e0)]) (rest := [.int (nI h0)]) hB (c_X6_at l g H0 (tb + 3) 60 ht e0 hT.a_ht (he) (by first | assumption | omega)) rfl hl.1 (Nat.le_of_ble_eq_true rfl) dX9_putInside_75 ⟨Nat.le_of_ble_eq_true rfl, Nat.le_of_ble_eq_true rfl⟩ ⟨Nat.le_of_ble_eq_true rfl, Nat.le_of_ble_eq_true rfl⟩ hS (by have hz9 := hS.1; rintro q (h | h) <;> first | exact Or.inr (by omega) | exact h.elim | exact Or.inl h | (simp only [ftA] at h ⊢; omega)) (fun v H1 locs hpo hfr hS => ?_)
    obtain ⟨rfl, rfl⟩ := hpo
    refine W.widen (k := 0) (n := 0) (Nat.le_of_ble_eq_true rfl) (Nat.le_of_ble_eq_true rfl) ?_
    refine mh_top (y := .int (nI h1)) (by rw [hh9]) ?_
    refine mn_icmp_eq (tgt := 99) hB dX9_putInside_78 (by decide) (by omega) (by omega) (fun h_78 => ?_) (fun h_78 => ?_)
    · skip
      refine lv_iload_n hx hb dX9_putInside_99 rfl (lv_at hl 3 rfl) ?_
      refine mn_if_eq (tgt := 110) hB dX9_putInside_100 (by decide) (by omega) (fun h => by exfalso; omega) (fun h_100 => ?_)
      refine lv_aload_n hx hb dX9_putInside_103 rfl (lv_at hl 4 rfl) ?_
      refine gf_X9_15 hB hT.1 rfl dX9_putInside_104 ?_
      refine lv_goto (tgt := 114) hx hb dX9_putInside_107 (by decide) ?_
      refine lv_iload_n hx hb dX9_putInside_114 rfl (lv_at hl 6 rfl) ?_
      refine cl_X9_56 (As := [.ref (tb + 2), .int (nI e0)]) (rest := []) hB (c_X6_at l g H0 (tb + 2) 60 wd e0 hT.a_wd (he) (by first | assumption | omega)) rfl hl.1 (Nat.le_of_ble_eq_true rfl) dX9_putInside_115 ⟨Nat.le_of_ble_eq_true rfl, Nat.le_of_ble_eq_true rfl⟩ ⟨Nat.le_of_ble_eq_true rfl, Nat.le_of_ble_eq_true rfl⟩ hS (by have hz9 := hS.1; rintro q (h | h) <;> first | exact Or.inr (by omega) | exact h.elim | exact Or.inl h | (simp only [ftA] at h ⊢; omega)) (fun v H1 locs hpo hfr hS => ?_)
      obtain ⟨rfl, rfl⟩ := hpo
      refine W.widen (k := 0) (n := 0) (Nat.le_of_ble_eq_true rfl) (Nat.le_of_ble_eq_true rfl) ?_
      refine mh_top (y := .int (nI w1)) (by rw [hw9]) ?_
      refine lv_istore (lv' := [(7, .int (nI w1)), (6, .int (nI h0)), (5, .int (nI w0)), (4, .int (nI 0)), (3, .int (nI 1)), (0, .ref tb), (1, .int (nI j0)), (2, .int (nI e0))]) hx hb dX9_putInside_118 hl (by decide) rfl (fun ls hl => ?_)
      refine lv_iload_n hx hb dX9_putInside_120 rfl (lv_at hl 4 rfl) ?_
      refine mn_if_eq (tgt := 132) hB dX9_putInside_121 (by decide) (by omega) (fun h => by exfalso; omega) (fun h_121 => ?_)
      refine lv_iload hx hb dX9_putInside_124 (lv_at hl 0 rfl) ?_
      refine lv_iload hx hb dX9_putInside_126 (lv_at hl 2 rfl) ?_
      refine mn_iadd hB dX9_putInside_128 ?_
      refine lv_goto (tgt := 134) hx hb dX9_putInside_129 (by decide) ?_
      refine lv_istore (lv' := [(8, .int (nI (w1 + w0))), (7, .int (nI w1)), (6, .int (nI h0)), (5, .int (nI w0)), (4, .int (nI 0)), (3, .int (nI 1)), (0, .ref tb), (1, .int (nI j0)), (2, .int (nI e0))]) hx hb dX9_putInside_134 hl (by decide) rfl (fun ls hl => ?_)
      refine lv_iload_n hx hb dX9_putInside_136 rfl (lv_at hl 5 rfl) ?_
      refine mn_if_eq (tgt := 145) hB dX9_putInside_137 (by decide) (by omega) (fun h => by exfalso; omega) (fun h_137 => ?_)
      refine lv_iload hx hb dX9_putInside_140 (lv_at hl 2 rfl) ?_
      refine lv_goto (tgt := 150) hx hb dX9_putInside_142 (by decide) ?_
      refine lv_istore (lv' := [(9, .int (nI h0)), (8, .int (nI (w1 + w0))), (7, .int (nI w1)), (6, .int (nI h0)), (5, .int (nI w0)), (4, .int (nI 0)), (3, .int (nI 1)), (0, .ref tb), (1, .int (nI j0)), (2, .int (nI e0))]) hx hb dX9_putInside_150 hl (by decide) rfl (fun ls hl => ?_)
      refine lv_iload hx hb dX9_putInside_152 (lv_at hl 1 rfl) ?_
      refine lv_bipush (v := nI 16) hx hb dX9_putInside_154 (by decide) ?_
      refine mn_icmp_gt (tgt := 166) hB dX9_putInside_156 (by decide) (by omega) (by omega) (fun h_156 => ?_) (fun h_156 => ?_)
      · skip
        refine lv_iload_n hx hb dX9_putInside_166 rfl (lv_at hl 8 rfl) ?_
        refine mh_iret hB ⟨Nat.le_of_ble_eq_true rfl, Nat.le_of_ble_eq_true rfl⟩ hS dX9_putInside_167 ⟨?_, rfl⟩
        · rfl
      · skip
        refine lv_iload hx hb dX9_putInside_159 (lv_at hl 0 rfl) ?_
        refine lv_bipush (v := nI 16) hx hb dX9_putInside_161 (by decide) ?_
        refine mn_icmp_le (tgt := 168) hB dX9_putInside_163 (by decide) (by omega) (by omega) (fun h => by exfalso; omega) (fun h_163 => ?_)
        refine lv_iload_n hx hb dX9_putInside_166 rfl (lv_at hl 8 rfl) ?_
        refine mh_iret hB ⟨Nat.le_of_ble_eq_true rfl, Nat.le_of_ble_eq_true rfl⟩ hS dX9_putInside_167 ⟨?_, rfl⟩
        · rfl
    · skip
      refine lv_goto (tgt := 97) hx hb dX9_putInside_81 (by decide) ?_
      refine lv_iload_n hx hb dX9_putInside_97 rfl (lv_at hl 5 rfl) ?_
      refine mh_iret hB ⟨Nat.le_of_ble_eq_true rfl, Nat.le_of_ble_eq_true rfl⟩ hS dX9_putInside_98 ⟨?_, rfl⟩
      · rfl

def rm_c_X9_putInside_sf : Room := { frames := 1, cells := 0, slots := 0, locals := 23 }
set_option maxRecDepth 100000 in
set_option maxHeartbeats 400000 in
theorem c_X9_putInside_sf (l : Launch) (g : GG) (H0 : Heap) (tb : Nat) (tx : Nat → Int32) (ln : Nat) (wd : Nat → Int32) (ht : Nat → Int32) (fi : Nat → Int32) (la : Nat → Int32) (nx : Nat → Int32) (di : Nat → Int32) (op : Nat → Int32) (oc : Int32) (wh : Int32) (j0 : Nat) (e0 : Nat) (sg : Nat) (pl : Nat) (w1 : Nat) (h1 : Nat) (c1 : Nat → Nat) (w0 : Nat) (h0 : Nat) (c0 : Nat → Nat) (it2 : PIt) (hT : TxAt g tb tx ln wd ht fi la nx di op oc wh H0) (he : e0 < 60) (hj : j0 < 60) (hs : tx e0 = nI sg) (hsg : sg < 256) (hw9 : wd e0 = nI w1) (hh9 : ht e0 = nI h1) (hw8 : wd j0 = nI w0) (hh8 : ht j0 = nI h0) (hw1 : w1 ≤ 16) (hh1 : h1 ≤ 16) (hw0 : w0 ≤ 16) (hh0 : h0 ≤ 16) (hfi : fi e0 = -9) (hz1 : w1 = 0 ∧ h1 = 0) (hj2 : joinS (sg, pl, w1, h1, c1) (w0, h0, c0) = some it2) : Ct l yX9_putInside cX9_putInside 10 (some .int) rm_c_X9_putInside_sf g [.ref tb, .int (nI j0), .int (nI e0)] H0 (ftA (fun q9 => tb ≤ q9 ∧ q9 < tb + 9) H0.size) (fun v H1 => v = some (.int (-9)) ∧ TxAt g tb tx ln (upd wd e0 (nI it2.2.2.1)) (upd ht e0 (nI it2.2.2.2.1)) (upd fi e0 (nI j0)) (upd la e0 (nI j0)) nx (upd di j0 (nI (if sg = 40 then w1 else h1))) op oc wh H1) := by
  refine Ct.of (by decide) (fun _ h => Or.inr h) (Nat.le_of_ble_eq_true rfl) ?_
  intro p e s m below meth c ls hB hin hS hH hl
  have hx := hB.x
  have hb := hB.b
  have hl : lv_has ls 10 [(0, .ref tb), (1, .int (nI j0)), (2, .int (nI e0))] := hl
  have hq := joinS_s hj2
  refine lv_aload_n hx hb dX9_putInside_0 rfl (lv_at hl 0 rfl) ?_
  refine gf_X9_9 hB hT.1 rfl dX9_putInside_1 ?_
  refine lv_iload_n hx hb dX9_putInside_4 rfl (lv_at hl 2 rfl) ?_
  refine cl_X9_56 (As := [.ref (tb + 1), .int (nI e0)]) (rest := []) hB (c_X6_at l g H0 (tb + 1) 60 tx e0 hT.a_tx (he) (by first | assumption | omega)) rfl hl.1 (Nat.le_of_ble_eq_true rfl) dX9_putInside_5 ⟨Nat.le_of_ble_eq_true rfl, Nat.le_of_ble_eq_true rfl⟩ ⟨Nat.le_of_ble_eq_true rfl, Nat.le_of_ble_eq_true rfl⟩ hS (by have hz9 := hS.1; rintro q (h | h) <;> first | exact Or.inr (by omega) | exact h.elim | exact Or.inl h | (simp only [ftA] at h ⊢; omega)) (fun v H1 locs hpo hfr hS => ?_)
  obtain ⟨rfl, rfl⟩ := hpo
  refine W.widen (k := 0) (n := 0) (Nat.le_of_ble_eq_true rfl) (Nat.le_of_ble_eq_true rfl) ?_
  refine mh_top (y := .int (nI sg)) (by rw [hs]) ?_
  refine lv_bipush (v := nI 40) hx hb dX9_putInside_8 (by decide) ?_
  refine mn_icmp_ne (tgt := 17) hB dX9_putInside_10 (by decide) (by omega) (by omega) (fun h_10 => ?_) (fun h_10 => ?_)
  · skip
    refine lv_iconst (v := nI 0) hx hb dX9_putInside_17 (by decide) ?_
    refine lv_istore_n (lv' := [(3, .int (nI 0)), (0, .ref tb), (1, .int (nI j0)), (2, .int (nI e0))]) hx hb dX9_putInside_18 rfl hl (by decide) rfl (fun ls hl => ?_)
    refine lv_aload_n hx hb dX9_putInside_19 rfl (lv_at hl 1 rfl) ?_
    refine gf_X9_21 hB hT.1 rfl dX9_putInside_20 ?_
    refine lv_iload_n hx hb dX9_putInside_23 rfl (lv_at hl 3 rfl) ?_
    refine cl_X9_56 (As := [.ref (tb + 4), .int (nI e0)]) (rest := []) hB (c_X6_at l g H0 (tb + 4) 60 fi e0 hT.a_fi (he) (by first | assumption | omega)) rfl hl.1 (Nat.le_of_ble_eq_true rfl) dX9_putInside_24 ⟨Nat.le_of_ble_eq_true rfl, Nat.le_of_ble_eq_true rfl⟩ ⟨Nat.le_of_ble_eq_true rfl, Nat.le_of_ble_eq_true rfl⟩ hS (by have hz9 := hS.1; rintro q (h | h) <;> first | exact Or.inr (by omega) | exact h.elim | exact Or.inl h | (simp only [ftA] at h ⊢; omega)) (fun v H1 locs hpo hfr hS => ?_)
    obtain ⟨rfl, rfl⟩ := hpo
    refine W.widen (k := 0) (n := 0) (Nat.le_of_ble_eq_true rfl) (Nat.le_of_ble_eq_true rfl) ?_
    refine mh_top (y := .int (-9)) (by rw [hfi]) ?_
    refine lv_bipush (v := (-9)) hx hb dX9_putInside_27 (by decide) ?_
    refine lv_icmp_ne (tgt := 36) hx hb dX9_putInside_29 (by decide) (fun h => absurd rfl h) (fun h_29 => ?_)
    refine lv_iconst (v := nI 1) hx hb dX9_putInside_32 (by decide) ?_
    refine lv_goto (tgt := 37) hx hb dX9_putInside_33 (by decide) ?_
    refine lv_istore (lv' := [(4, .int (nI 1)), (3, .int (nI 0)), (0, .ref tb), (1, .int (nI j0)), (2, .int (nI e0))]) hx hb dX9_putInside_37 hl (by decide) rfl (fun ls hl => ?_)
    refine lv_aload_n hx hb dX9_putInside_39 rfl (lv_at hl 2 rfl) ?_
    refine gf_X9_15 hB hT.1 rfl dX9_putInside_40 ?_
    refine lv_iload_n hx hb dX9_putInside_43 rfl (lv_at hl 3 rfl) ?_
    refine cl_X9_56 (As := [.ref (tb + 2), .int (nI j0)]) (rest := []) hB (c_X6_at l g H0 (tb + 2) 60 wd j0 hT.a_wd (hj) (by first | assumption | omega)) rfl hl.1 (Nat.le_of_ble_eq_true rfl) dX9_putInside_44 ⟨Nat.le_of_ble_eq_true rfl, Nat.le_of_ble_eq_true rfl⟩ ⟨Nat.le_of_ble_eq_true rfl, Nat.le_of_ble_eq_true rfl⟩ hS (by have hz9 := hS.1; rintro q (h | h) <;> first | exact Or.inr (by omega) | exact h.elim | exact Or.inl h | (simp only [ftA] at h ⊢; omega)) (fun v H1 locs hpo hfr hS => ?_)
    obtain ⟨rfl, rfl⟩ := hpo
    refine W.widen (k := 0) (n := 0) (Nat.le_of_ble_eq_true rfl) (Nat.le_of_ble_eq_true rfl) ?_
    refine mh_top (y := .int (nI w0)) (by rw [hw8]) ?_
    refine lv_istore (lv' := [(5, .int (nI w0)), (4, .int (nI 1)), (3, .int (nI 0)), (0, .ref tb), (1, .int (nI j0)), (2, .int (nI e0))]) hx hb dX9_putInside_47 hl (by decide) rfl (fun ls hl => ?_)
    refine lv_aload_n hx hb dX9_putInside_49 rfl (lv_at hl 3 rfl) ?_
    refine gf_X9_18 hB hT.1 rfl dX9_putInside_50 ?_
    refine lv_iload_n hx hb dX9_putInside_53 rfl (lv_at hl 4 rfl) ?_
    refine cl_X9_56 (As := [.ref (tb + 3), .int (nI j0)]) (rest := []) hB (c_X6_at l g H0 (tb + 3) 60 ht j0 hT.a_ht (hj) (by first | assumption | omega)) rfl hl.1 (Nat.le_of_ble_eq_true rfl) dX9_putInside_54 ⟨Nat.le_of_ble_eq_true rfl, Nat.le_of_ble_eq_true rfl⟩ ⟨Nat.le_of_ble_eq_true rfl, Nat.le_of_ble_eq_true rfl⟩ hS (by have hz9 := hS.1; rintro q (h | h) <;> first | exact Or.inr (by omega) | exact h.elim | exact Or.inl h | (simp only [ftA] at h ⊢; omega)) (fun v H1 locs hpo hfr hS => ?_)
    obtain ⟨rfl, rfl⟩ := hpo
    refine W.widen (k := 0) (n := 0) (Nat.le_of_ble_eq_true rfl) (Nat.le_of_ble_eq_true rfl) ?_
    refine mh_top (y := .int (nI h0)) (by rw [hh8]) ?_
    refine lv_istore (lv' := [(6, .int (nI h0)), (5, .int (nI w0)), (4, .int (nI 1)), (3, .int (nI 0)), (0, .ref tb), (1, .int (nI j0)), (2, .int (nI e0))]) hx hb dX9_putInside_57 hl (by decide) rfl (fun ls hl => ?_)
    refine lv_iload hx hb dX9_putInside_59 (lv_at hl 2 rfl) ?_
    refine mn_if_ne (tgt := 99) hB dX9_putInside_61 (by decide) (by omega) (fun h_61 => ?_) (fun h => by exfalso; omega)
    refine lv_iload_n hx hb dX9_putInside_99 rfl (lv_at hl 3 rfl) ?_
    refine mn_if_eq (tgt := 110) hB dX9_putInside_100 (by decide) (by omega) (fun h_100 => ?_) (fun h => by exfalso; omega)
    refine lv_aload_n hx hb dX9_putInside_110 rfl (lv_at hl 4 rfl) ?_
    refine gf_X9_18 hB hT.1 rfl dX9_putInside_111 ?_
    refine lv_iload_n hx hb dX9_putInside_114 rfl (lv_at hl 6 rfl) ?_
    refine cl_X9_56 (As := [.ref (tb + 3), .int (nI e0)]) (rest := []) hB (c_X6_at l g H0 (tb + 3) 60 ht e0 hT.a_ht (he) (by first | assumption | omega)) rfl hl.1 (Nat.le_of_ble_eq_true rfl) dX9_putInside_115 ⟨Nat.le_of_ble_eq_true rfl, Nat.le_of_ble_eq_true rfl⟩ ⟨Nat.le_of_ble_eq_true rfl, Nat.le_of_ble_eq_true rfl⟩ hS (by have hz9 := hS.1; rintro q (h | h) <;> first | exact Or.inr (by omega) | exact h.elim | exact Or.inl h | (simp only [ftA] at h ⊢; omega)) (fun v H1 locs hpo hfr hS => ?_)
    obtain ⟨rfl, rfl⟩ := hpo
    refine W.widen (k := 0) (n := 0) (Nat.le_of_ble_eq_true rfl) (Nat.le_of_ble_eq_true rfl) ?_
    refine mh_top (y := .int (nI h1)) (by rw [hh9]) ?_
    refine lv_istore (lv' := [(7, .int (nI h1)), (6, .int (nI h0)), (5, .int (nI w0)), (4, .int (nI 1)), (3, .int (nI 0)), (0, .ref tb), (1, .int (nI j0)), (2, .int (nI e0))]) hx hb dX9_putInside_118 hl (by decide) rfl (fun ls hl => ?_)
    refine lv_iload_n hx hb dX9_putInside_120 rfl (lv_at hl 4 rfl) ?_
    refine mn_if_eq (tgt := 132) hB dX9_putInside_121 (by decide) (by omega) (fun h_121 => ?_) (fun h => by exfalso; omega)
    refine lv_iload hx hb dX9_putInside_132 (lv_at hl 2 rfl) ?_
    refine lv_istore (lv' := [(8, .int (nI w0)), (7, .int (nI h1)), (6, .int (nI h0)), (5, .int (nI w0)), (4, .int (nI 1)), (3, .int (nI 0)), (0, .ref tb), (1, .int (nI j0)), (2, .int (nI e0))]) hx hb dX9_putInside_134 hl (by decide) rfl (fun ls hl => ?_)
    refine lv_iload_n hx hb dX9_putInside_136 rfl (lv_at hl 5 rfl) ?_
    refine mn_if_eq (tgt := 145) hB dX9_putInside_137 (by decide) (by omega) (fun h_137 => ?_) (fun h => by exfalso; omega)
    refine lv_iload hx hb dX9_putInside_145 (lv_at hl 1 rfl) ?_
    refine lv_iload hx hb dX9_putInside_147 (lv_at hl 2 rfl) ?_
    refine mn_iadd hB dX9_putInside_149 ?_
    refine lv_istore (lv' := [(9, .int (nI (h1 + h0))), (8, .int (nI w0)), (7, .int (nI h1)), (6, .int (nI h0)), (5, .int (nI w0)), (4, .int (nI 1)), (3, .int (nI 0)), (0, .ref tb), (1, .int (nI j0)), (2, .int (nI e0))]) hx hb dX9_putInside_150 hl (by decide) rfl (fun ls hl => ?_)
    refine lv_iload hx hb dX9_putInside_152 (lv_at hl 1 rfl) ?_
    refine lv_bipush (v := nI 16) hx hb dX9_putInside_154 (by decide) ?_
    refine mn_icmp_gt (tgt := 166) hB dX9_putInside_156 (by decide) (by omega) (by omega) (fun h => by exfalso; omega) (fun h_156 => ?_)
    refine lv_iload hx hb dX9_putInside_159 (lv_at hl 0 rfl) ?_
    refine lv_bipush (v := nI 16) hx hb dX9_putInside_161 (by decide) ?_
    refine mn_icmp_le (tgt := 168) hB dX9_putInside_163 (by decide) (by omega) (by omega) (fun h_163 => ?_) (fun h => by exfalso; omega)
    refine lv_aload_n hx hb dX9_putInside_168 rfl (lv_at hl 7 rfl) ?_
    refine lv_iload_n hx hb dX9_putInside_169 rfl (lv_at hl 9 rfl) ?_
    refine lv_iload hx hb dX9_putInside_170 (lv_at hl 1 rfl) ?_
    refine lv_iload hx hb dX9_putInside_172 (lv_at hl 0 rfl) ?_
    refine cl_X9_88 (As := [.int (nI e0), .int (nI w0), .int (nI (h1 + h0))]) (rest := []) hB (c_X9_setSize l g H0 tb tx ln wd ht fi la nx di op oc wh e0 w0 (h1 + h0) hT (by first | assumption | omega)) hT.1 rfl hl.1 (Nat.le_of_ble_eq_true rfl) dX9_putInside_174 ⟨Nat.le_of_ble_eq_true rfl, Nat.le_of_ble_eq_true rfl⟩ ⟨Nat.le_of_ble_eq_true rfl, Nat.le_of_ble_eq_true rfl⟩ hS (by have hz9 := hS.1; rintro q (h | h) <;> first | exact Or.inr (by omega) | exact h.elim | exact Or.inl h | (simp only [ftA] at h ⊢; omega)) (fun v H1 locs hpo hfr hS => ?_)
    obtain ⟨rfl, hT⟩ := hpo
    generalize H1 = H at hfr hS hT ⊢
    refine W.widen (k := 0) (n := 0) (Nat.le_of_ble_eq_true rfl) (Nat.le_of_ble_eq_true rfl) ?_
    refine lv_aload_n hx hb dX9_putInside_177 rfl (lv_at hl 7 rfl) ?_
    refine gf_X9_30 hB hT.1 rfl dX9_putInside_178 ?_
    refine lv_iload_n hx hb dX9_putInside_181 rfl (lv_at hl 8 rfl) ?_
    refine lv_iload hx hb dX9_putInside_182 (lv_at hl 2 rfl) ?_
    refine cl_X9_43 (As := [.ref (tb + 7), .int (nI j0), .int (nI h1)]) (rest := []) hB (c_X6_put l g H (tb + 7) 60 di j0 (nI h1) hT.a_di (by first | assumption | omega) (by first | assumption | omega)) rfl hl.1 (Nat.le_of_ble_eq_true rfl) dX9_putInside_184 ⟨Nat.le_of_ble_eq_true rfl, Nat.le_of_ble_eq_true rfl⟩ ⟨Nat.le_of_ble_eq_true rfl, Nat.le_of_ble_eq_true rfl⟩ hS (by have hz9 := hS.1; rintro q (h | h) <;> first | exact Or.inr (by omega) | exact h.elim | exact Or.inl h | (simp only [ftA] at h ⊢; omega)) (fun v H1 locs hpo hfr hS => ?_)
    obtain ⟨rfl, ha⟩ := hpo
    have hT := hT.f_di hfr ha
    generalize H1 = H at hfr hS hT ⊢
    refine W.widen (k := 0) (n := 0) (Nat.le_of_ble_eq_true rfl) (Nat.le_of_ble_eq_true rfl) ?_
    refine lv_iload hx hb dX9_putInside_187 (lv_at hl 5 rfl) ?_
    refine mn_if_eq (tgt := 204) hB dX9_putInside_189 (by decide) (by omega) (fun h => by exfalso; omega) (fun h_189 => ?_)
    refine lv_aload_n hx hb dX9_putInside_192 rfl (lv_at hl 7 rfl) ?_
    refine gf_X9_21 hB hT.1 rfl dX9_putInside_193 ?_
    refine lv_iload_n hx hb dX9_putInside_196 rfl (lv_at hl 9 rfl) ?_
    refine lv_iload_n hx hb dX9_putInside_197 rfl (lv_at hl 8 rfl) ?_
    refine cl_X9_43 (As := [.ref (tb + 4), .int (nI e0), .int (nI j0)]) (rest := []) hB (c_X6_put l g H (tb + 4) 60 fi e0 (nI j0) hT.a_fi (by first | assumption | omega) (by first | assumption | omega)) rfl hl.1 (Nat.le_of_ble_eq_true rfl) dX9_putInside_198 ⟨Nat.le_of_ble_eq_true rfl, Nat.le_of_ble_eq_true rfl⟩ ⟨Nat.le_of_ble_eq_true rfl, Nat.le_of_ble_eq_true rfl⟩ hS (by have hz9 := hS.1; rintro q (h | h) <;> first | exact Or.inr (by omega) | exact h.elim | exact Or.inl h | (simp only [ftA] at h ⊢; omega)) (fun v H1 locs hpo hfr hS => ?_)
    obtain ⟨rfl, ha⟩ := hpo
    have hT := hT.f_fi hfr ha
    generalize H1 = H at hfr hS hT ⊢
    refine W.widen (k := 0) (n := 0) (Nat.le_of_ble_eq_true rfl) (Nat.le_of_ble_eq_true rfl) ?_
    refine lv_goto (tgt := 220) hx hb dX9_putInside_201 (by decide) ?_
    refine lv_aload_n hx hb dX9_putInside_220 rfl (lv_at hl 7 rfl) ?_
    refine gf_X9_24 hB hT.1 rfl dX9_putInside_221 ?_
    refine lv_iload_n hx hb dX9_putInside_224 rfl (lv_at hl 9 rfl) ?_
    refine lv_iload_n hx hb dX9_putInside_225 rfl (lv_at hl 8 rfl) ?_
    refine cl_X9_43 (As := [.ref (tb + 5), .int (nI e0), .int (nI j0)]) (rest := []) hB (c_X6_put l g H (tb + 5) 60 la e0 (nI j0) hT.a_la (by first | assumption | omega) (by first | assumption | omega)) rfl hl.1 (Nat.le_of_ble_eq_true rfl) dX9_putInside_226 ⟨Nat.le_of_ble_eq_true rfl, Nat.le_of_ble_eq_true rfl⟩ ⟨Nat.le_of_ble_eq_true rfl, Nat.le_of_ble_eq_true rfl⟩ hS (by have hz9 := hS.1; rintro q (h | h) <;> first | exact Or.inr (by omega) | exact h.elim | exact Or.inl h | (simp only [ftA] at h ⊢; omega)) (fun v H1 locs hpo hfr hS => ?_)
    obtain ⟨rfl, ha⟩ := hpo
    have hT := hT.f_la hfr ha
    generalize H1 = H at hfr hS hT ⊢
    refine W.widen (k := 0) (n := 0) (Nat.le_of_ble_eq_true rfl) (Nat.le_of_ble_eq_true rfl) ?_
    refine lv_bipush (v := (-9)) hx hb dX9_putInside_229 (by decide) ?_
    refine mh_iret hB ⟨Nat.le_of_ble_eq_true rfl, Nat.le_of_ble_eq_true rfl⟩ hS dX9_putInside_231 ⟨?_, ?_⟩
    · rfl
    · obtain ⟨q1, q2, q3, q4, q5⟩ := hq.resolve_left (fun y => absurd y.1 (by omega))
      rw [q4, q5, if_neg q1]
      exact hT
  · skip
    refine lv_iconst (v := nI 1) hx hb dX9_putInside_13 (by decide) ?_
    refine lv_goto (tgt := 18) hx hb dX9_putInside_14 (by decide) ?_
    refine lv_istore_n (lv' := [(3, .int (nI 1)), (0, .ref tb), (1, .int (nI j0)), (2, .int (nI e0))]) hx hb dX9_putInside_18 rfl hl (by decide) rfl (fun ls hl => ?_)
    refine lv_aload_n hx hb dX9_putInside_19 rfl (lv_at hl 1 rfl) ?_
    refine gf_X9_21 hB hT.1 rfl dX9_putInside_20 ?_
    refine lv_iload_n hx hb dX9_putInside_23 rfl (lv_at hl 3 rfl) ?_
    refine cl_X9_56 (As := [.ref (tb + 4), .int (nI e0)]) (rest := []) hB (c_X6_at l g H0 (tb + 4) 60 fi e0 hT.a_fi (he) (by first | assumption | omega)) rfl hl.1 (Nat.le_of_ble_eq_true rfl) dX9_putInside_24 ⟨Nat.le_of_ble_eq_true rfl, Nat.le_of_ble_eq_true rfl⟩ ⟨Nat.le_of_ble_eq_true rfl, Nat.le_of_ble_eq_true rfl⟩ hS (by have hz9 := hS.1; rintro q (h | h) <;> first | exact Or.inr (by omega) | exact h.elim | exact Or.inl h | (simp only [ftA] at h ⊢; omega)) (fun v H1 locs hpo hfr hS => ?_)
    obtain ⟨rfl, rfl⟩ := hpo
    refine W.widen (k := 0) (n := 0) (Nat.le_of_ble_eq_true rfl) (Nat.le_of_ble_eq_true rfl) ?_
    refine mh_top (y := .int (-9)) (by rw [hfi]) ?_
    refine lv_bipush (v := (-9)) hx hb dX9_putInside_27 (by decide) ?_
    refine lv_icmp_ne (tgt := 36) hx hb dX9_putInside_29 (by decide) (fun h => absurd rfl h) (fun h_29 => ?_)
    refine lv_iconst (v := nI 1) hx hb dX9_putInside_32 (by decide) ?_
    refine lv_goto (tgt := 37) hx hb dX9_putInside_33 (by decide) ?_
    refine lv_istore (lv' := [(4, .int (nI 1)), (3, .int (nI 1)), (0, .ref tb), (1, .int (nI j0)), (2, .int (nI e0))]) hx hb dX9_putInside_37 hl (by decide) rfl (fun ls hl => ?_)
    refine lv_aload_n hx hb dX9_putInside_39 rfl (lv_at hl 2 rfl) ?_
    refine gf_X9_15 hB hT.1 rfl dX9_putInside_40 ?_
    refine lv_iload_n hx hb dX9_putInside_43 rfl (lv_at hl 3 rfl) ?_
    refine cl_X9_56 (As := [.ref (tb + 2), .int (nI j0)]) (rest := []) hB (c_X6_at l g H0 (tb + 2) 60 wd j0 hT.a_wd (hj) (by first | assumption | omega)) rfl hl.1 (Nat.le_of_ble_eq_true rfl) dX9_putInside_44 ⟨Nat.le_of_ble_eq_true rfl, Nat.le_of_ble_eq_true rfl⟩ ⟨Nat.le_of_ble_eq_true rfl, Nat.le_of_ble_eq_true rfl⟩ hS (by have hz9 := hS.1; rintro q (h | h) <;> first | exact Or.inr (by omega) | exact h.elim | exact Or.inl h | (simp only [ftA] at h ⊢; omega)) (fun v H1 locs hpo hfr hS => ?_)
    obtain ⟨rfl, rfl⟩ := hpo
    refine W.widen (k := 0) (n := 0) (Nat.le_of_ble_eq_true rfl) (Nat.le_of_ble_eq_true rfl) ?_
    refine mh_top (y := .int (nI w0)) (by rw [hw8]) ?_
    refine lv_istore (lv' := [(5, .int (nI w0)), (4, .int (nI 1)), (3, .int (nI 1)), (0, .ref tb), (1, .int (nI j0)), (2, .int (nI e0))]) hx hb dX9_putInside_47 hl (by decide) rfl (fun ls hl => ?_)
    refine lv_aload_n hx hb dX9_putInside_49 rfl (lv_at hl 3 rfl) ?_
    refine gf_X9_18 hB hT.1 rfl dX9_putInside_50 ?_
    refine lv_iload_n hx hb dX9_putInside_53 rfl (lv_at hl 4 rfl) ?_
    refine cl_X9_56 (As := [.ref (tb + 3), .int (nI j0)]) (rest := []) hB (c_X6_at l g H0 (tb + 3) 60 ht j0 hT.a_ht (hj) (by first | assumption | omega)) rfl hl.1 (Nat.le_of_ble_eq_true rfl) dX9_putInside_54 ⟨Nat.le_of_ble_eq_true rfl, Nat.le_of_ble_eq_true rfl⟩ ⟨Nat.le_of_ble_eq_true rfl, Nat.le_of_ble_eq_true rfl⟩ hS (by have hz9 := hS.1; rintro q (h | h) <;> first | exact Or.inr (by omega) | exact h.elim | exact Or.inl h | (simp only [ftA] at h ⊢; omega)) (fun v H1 locs hpo hfr hS => ?_)
    obtain ⟨rfl, rfl⟩ := hpo
    refine W.widen (k := 0) (n := 0) (Nat.le_of_ble_eq_true rfl) (Nat.le_of_ble_eq_true rfl) ?_
    refine mh_top (y := .int (nI h0)) (by rw [hh8]) ?_
    refine lv_istore (lv' := [(6, .int (nI h0)), (5, .int (nI w0)), (4, .int (nI 1)), (3, .int (nI 1)), (0, .ref tb), (1, .int (nI j0)), (2, .int (nI e0))]) hx hb dX9_putInside_57 hl (by decide) rfl (fun ls hl => ?_)
    refine lv_iload hx hb dX9_putInside_59 (lv_at hl 2 rfl) ?_
    refine mn_if_ne (tgt := 99) hB dX9_putInside_61 (by decide) (by omega) (fun h_61 => ?_) (fun h => by exfalso; omega)
    refine lv_iload_n hx hb dX9_putInside_99 rfl (lv_at hl 3 rfl) ?_
    refine mn_if_eq (tgt := 110) hB dX9_putInside_100 (by decide) (by omega) (fun h => by exfalso; omega) (fun h_100 => ?_)
    refine lv_aload_n hx hb dX9_putInside_103 rfl (lv_at hl 4 rfl) ?_
    refine gf_X9_15 hB hT.1 rfl dX9_putInside_104 ?_
    refine lv_goto (tgt := 114) hx hb dX9_putInside_107 (by decide) ?_
    refine lv_iload_n hx hb dX9_putInside_114 rfl (lv_at hl 6 rfl) ?_
    refine cl_X9_56 (As := [.ref (tb + 2), .int (nI e0)]) (rest := []) hB (c_X6_at l g H0 (tb + 2) 60 wd e0 hT.a_wd (he) (by first | assumption | omega)) rfl hl.1 (Nat.le_of_ble_eq_true rfl) dX9_putInside_115 ⟨Nat.le_of_ble_eq_true rfl, Nat.le_of_ble_eq_true rfl⟩ ⟨Nat.le_of_ble_eq_true rfl, Nat.le_of_ble_eq_true rfl⟩ hS (by have hz9 := hS.1; rintro q (h | h) <;> first | exact Or.inr (by omega) | exact h.elim | exact Or.inl h | (simp only [ftA] at h ⊢; omega)) (fun v H1 locs hpo hfr hS => ?_)
    obtain ⟨rfl, rfl⟩ := hpo
    refine W.widen (k := 0) (n := 0) (Nat.le_of_ble_eq_true rfl) (Nat.le_of_ble_eq_true rfl) ?_
    refine mh_top (y := .int (nI w1)) (by rw [hw9]) ?_
    refine lv_istore (lv' := [(7, .int (nI w1)), (6, .int (nI h0)), (5, .int (nI w0)), (4, .int (nI 1)), (3, .int (nI 1)), (0, .ref tb), (1, .int (nI j0)), (2, .int (nI e0))]) hx hb dX9_putInside_118 hl (by decide) rfl (fun ls hl => ?_)
    refine lv_iload_n hx hb dX9_putInside_120 rfl (lv_at hl 4 rfl) ?_
    refine mn_if_eq (tgt := 132) hB dX9_putInside_121 (by decide) (by omega) (fun h => by exfalso; omega) (fun h_121 => ?_)
    refine lv_iload hx hb dX9_putInside_124 (lv_at hl 0 rfl) ?_
    refine lv_iload hx hb dX9_putInside_126 (lv_at hl 2 rfl) ?_
    refine mn_iadd hB dX9_putInside_128 ?_
    refine lv_goto (tgt := 134) hx hb dX9_putInside_129 (by decide) ?_
    refine lv_istore (lv' := [(8, .int (nI (w1 + w0))), (7, .int (nI w1)), (6, .int (nI h0)), (5, .int (nI w0)), (4, .int (nI 1)), (3, .int (nI 1)), (0, .ref tb), (1, .int (nI j0)), (2, .int (nI e0))]) hx hb dX9_putInside_134 hl (by decide) rfl (fun ls hl => ?_)
    refine lv_iload_n hx hb dX9_putInside_136 rfl (lv_at hl 5 rfl) ?_
    refine mn_if_eq (tgt := 145) hB dX9_putInside_137 (by decide) (by omega) (fun h => by exfalso; omega) (fun h_137 => ?_)
    refine lv_iload hx hb dX9_putInside_140 (lv_at hl 2 rfl) ?_
    refine lv_goto (tgt := 150) hx hb dX9_putInside_142 (by decide) ?_
    refine lv_istore (lv' := [(9, .int (nI h0)), (8, .int (nI (w1 + w0))), (7, .int (nI w1)), (6, .int (nI h0)), (5, .int (nI w0)), (4, .int (nI 1)), (3, .int (nI 1)), (0, .ref tb), (1, .int (nI j0)), (2, .int (nI e0))]) hx hb dX9_putInside_150 hl (by decide) rfl (fun ls hl => ?_)
    refine lv_iload hx hb dX9_putInside_152 (lv_at hl 1 rfl) ?_
    refine lv_bipush (v := nI 16) hx hb dX9_putInside_154 (by decide) ?_
    refine mn_icmp_gt (tgt := 166) hB dX9_putInside_156 (by decide) (by omega) (by omega) (fun h => by exfalso; omega) (fun h_156 => ?_)
    refine lv_iload hx hb dX9_putInside_159 (lv_at hl 0 rfl) ?_
    refine lv_bipush (v := nI 16) hx hb dX9_putInside_161 (by decide) ?_
    refine mn_icmp_le (tgt := 168) hB dX9_putInside_163 (by decide) (by omega) (by omega) (fun h_163 => ?_) (fun h => by exfalso; omega)
    refine lv_aload_n hx hb dX9_putInside_168 rfl (lv_at hl 7 rfl) ?_
    refine lv_iload_n hx hb dX9_putInside_169 rfl (lv_at hl 9 rfl) ?_
    refine lv_iload hx hb dX9_putInside_170 (lv_at hl 1 rfl) ?_
    refine lv_iload hx hb dX9_putInside_172 (lv_at hl 0 rfl) ?_
    refine cl_X9_88 (As := [.int (nI e0), .int (nI (w1 + w0)), .int (nI h0)]) (rest := []) hB (c_X9_setSize l g H0 tb tx ln wd ht fi la nx di op oc wh e0 (w1 + w0) h0 hT (by first | assumption | omega)) hT.1 rfl hl.1 (Nat.le_of_ble_eq_true rfl) dX9_putInside_174 ⟨Nat.le_of_ble_eq_true rfl, Nat.le_of_ble_eq_true rfl⟩ ⟨Nat.le_of_ble_eq_true rfl, Nat.le_of_ble_eq_true rfl⟩ hS (by have hz9 := hS.1; rintro q (h | h) <;> first | exact Or.inr (by omega) | exact h.elim | exact Or.inl h | (simp only [ftA] at h ⊢; omega)) (fun v H1 locs hpo hfr hS => ?_)
    obtain ⟨rfl, hT⟩ := hpo
    generalize H1 = H at hfr hS hT ⊢
    refine W.widen (k := 0) (n := 0) (Nat.le_of_ble_eq_true rfl) (Nat.le_of_ble_eq_true rfl) ?_
    refine lv_aload_n hx hb dX9_putInside_177 rfl (lv_at hl 7 rfl) ?_
    refine gf_X9_30 hB hT.1 rfl dX9_putInside_178 ?_
    refine lv_iload_n hx hb dX9_putInside_181 rfl (lv_at hl 8 rfl) ?_
    refine lv_iload hx hb dX9_putInside_182 (lv_at hl 2 rfl) ?_
    refine cl_X9_43 (As := [.ref (tb + 7), .int (nI j0), .int (nI w1)]) (rest := []) hB (c_X6_put l g H (tb + 7) 60 di j0 (nI w1) hT.a_di (by first | assumption | omega) (by first | assumption | omega)) rfl hl.1 (Nat.le_of_ble_eq_true rfl) dX9_putInside_184 ⟨Nat.le_of_ble_eq_true rfl, Nat.le_of_ble_eq_true rfl⟩ ⟨Nat.le_of_ble_eq_true rfl, Nat.le_of_ble_eq_true rfl⟩ hS (by have hz9 := hS.1; rintro q (h | h) <;> first | exact Or.inr (by omega) | exact h.elim | exact Or.inl h | (simp only [ftA] at h ⊢; omega)) (fun v H1 locs hpo hfr hS => ?_)
    obtain ⟨rfl, ha⟩ := hpo
    have hT := hT.f_di hfr ha
    generalize H1 = H at hfr hS hT ⊢
    refine W.widen (k := 0) (n := 0) (Nat.le_of_ble_eq_true rfl) (Nat.le_of_ble_eq_true rfl) ?_
    refine lv_iload hx hb dX9_putInside_187 (lv_at hl 5 rfl) ?_
    refine mn_if_eq (tgt := 204) hB dX9_putInside_189 (by decide) (by omega) (fun h => by exfalso; omega) (fun h_189 => ?_)
    refine lv_aload_n hx hb dX9_putInside_192 rfl (lv_at hl 7 rfl) ?_
    refine gf_X9_21 hB hT.1 rfl dX9_putInside_193 ?_
    refine lv_iload_n hx hb dX9_putInside_196 rfl (lv_at hl 9 rfl) ?_
    refine lv_iload_n hx hb dX9_putInside_197 rfl (lv_at hl 8 rfl) ?_
    refine cl_X9_43 (As := [.ref (tb + 4), .int (nI e0), .int (nI j0)]) (rest := []) hB (c_X6_put l g H (tb + 4) 60 fi e0 (nI j0) hT.a_fi (by first | assumption | omega) (by first | assumption | omega)) rfl hl.1 (Nat.le_of_ble_eq_true rfl) dX9_putInside_198 ⟨Nat.le_of_ble_eq_true rfl, Nat.le_of_ble_eq_true rfl⟩ ⟨Nat.le_of_ble_eq_true rfl, Nat.le_of_ble_eq_true rfl⟩ hS (by have hz9 := hS.1; rintro q (h | h) <;> first | exact Or.inr (by omega) | exact h.elim | exact Or.inl h | (simp only [ftA] at h ⊢; omega)) (fun v H1 locs hpo hfr hS => ?_)
    obtain ⟨rfl, ha⟩ := hpo
    have hT := hT.f_fi hfr ha
    generalize H1 = H at hfr hS hT ⊢
    refine W.widen (k := 0) (n := 0) (Nat.le_of_ble_eq_true rfl) (Nat.le_of_ble_eq_true rfl) ?_
    refine lv_goto (tgt := 220) hx hb dX9_putInside_201 (by decide) ?_
    refine lv_aload_n hx hb dX9_putInside_220 rfl (lv_at hl 7 rfl) ?_
    refine gf_X9_24 hB hT.1 rfl dX9_putInside_221 ?_
    refine lv_iload_n hx hb dX9_putInside_224 rfl (lv_at hl 9 rfl) ?_
    refine lv_iload_n hx hb dX9_putInside_225 rfl (lv_at hl 8 rfl) ?_
    refine cl_X9_43 (As := [.ref (tb + 5), .int (nI e0), .int (nI j0)]) (rest := []) hB (c_X6_put l g H (tb + 5) 60 la e0 (nI j0) hT.a_la (by first | assumption | omega) (by first | assumption | omega)) rfl hl.1 (Nat.le_of_ble_eq_true rfl) dX9_putInside_226 ⟨Nat.le_of_ble_eq_true rfl, Nat.le_of_ble_eq_true rfl⟩ ⟨Nat.le_of_ble_eq_true rfl, Nat.le_of_ble_eq_true rfl⟩ hS (by have hz9 := hS.1; rintro q (h | h) <;> first | exact Or.inr (by omega) | exact h.elim | exact Or.inl h | (simp only [ftA] at h ⊢; omega)) (fun v H1 locs hpo hfr hS => ?_)
    obtain ⟨rfl, ha⟩ := hpo
    have hT := hT.f_la hfr ha
    generalize H1 = H at hfr hS hT ⊢
    refine W.widen (k := 0) (n := 0) (Nat.le_of_ble_eq_true rfl) (Nat.le_of_ble_eq_true rfl) ?_
    refine lv_bipush (v := (-9)) hx hb dX9_putInside_229 (by decide) ?_
    refine mh_iret hB ⟨Nat.le_of_ble_eq_true rfl, Nat.le_of_ble_eq_true rfl⟩ hS dX9_putInside_231 ⟨?_, ?_⟩
    · rfl
    · obtain ⟨q1, q2, q3, q4, q5⟩ := hq.resolve_right (fun y => absurd (show sg = 40 by omega) y.1)
      rw [q4, q5, if_pos q1]
      exact hT

def rm_c_X9_putInside_sx : Room := { frames := 1, cells := 0, slots := 0, locals := 23 }
set_option maxRecDepth 100000 in
set_option maxHeartbeats 400000 in
theorem c_X9_putInside_sx (l : Launch) (g : GG) (H0 : Heap) (tb : Nat) (tx : Nat → Int32) (ln : Nat) (wd : Nat → Int32) (ht : Nat → Int32) (fi : Nat → Int32) (la : Nat → Int32) (nx : Nat → Int32) (di : Nat → Int32) (op : Nat → Int32) (oc : Int32) (wh : Int32) (j0 : Nat) (e0 : Nat) (sg : Nat) (pl : Nat) (w1 : Nat) (h1 : Nat) (c1 : Nat → Nat) (w0 : Nat) (h0 : Nat) (c0 : Nat → Nat) (f0 : Nat) (l0 : Nat) (it2 : PIt) (hT : TxAt g tb tx ln wd ht fi la nx di op oc wh H0) (he : e0 < 60) (hj : j0 < 60) (hs : tx e0 = nI sg) (hsg : sg < 256) (hw9 : wd e0 = nI w1) (hh9 : ht e0 = nI h1) (hw8 : wd j0 = nI w0) (hh8 : ht j0 = nI h0) (hw1 : w1 ≤ 16) (hh1 : h1 ≤ 16) (hw0 : w0 ≤ 16) (hh0 : h0 ≤ 16) (hfi : fi e0 = nI f0) (hf0 : f0 < 60) (hw1p : 0 < w1) (hla : la e0 = nI l0) (hl0 : l0 < 60) (hj2 : joinS (sg, pl, w1, h1, c1) (w0, h0, c0) = some it2) : Ct l yX9_putInside cX9_putInside 10 (some .int) rm_c_X9_putInside_sx g [.ref tb, .int (nI j0), .int (nI e0)] H0 (ftA (fun q9 => tb ≤ q9 ∧ q9 < tb + 9) H0.size) (fun v H1 => v = some (.int (-9)) ∧ TxAt g tb tx ln (upd wd e0 (nI it2.2.2.1)) (upd ht e0 (nI it2.2.2.2.1)) fi (upd la e0 (nI j0)) (upd nx l0 (nI j0)) (upd di j0 (nI (if sg = 40 then w1 else h1))) op oc wh H1) := by
  refine Ct.of (by decide) (fun _ h => Or.inr h) (Nat.le_of_ble_eq_true rfl) ?_
  intro p e s m below meth c ls hB hin hS hH hl
  have hx := hB.x
  have hb := hB.b
  have hl : lv_has ls 10 [(0, .ref tb), (1, .int (nI j0)), (2, .int (nI e0))] := hl
  have hq := joinS_s hj2
  refine lv_aload_n hx hb dX9_putInside_0 rfl (lv_at hl 0 rfl) ?_
  refine gf_X9_9 hB hT.1 rfl dX9_putInside_1 ?_
  refine lv_iload_n hx hb dX9_putInside_4 rfl (lv_at hl 2 rfl) ?_
  refine cl_X9_56 (As := [.ref (tb + 1), .int (nI e0)]) (rest := []) hB (c_X6_at l g H0 (tb + 1) 60 tx e0 hT.a_tx (he) (by first | assumption | omega)) rfl hl.1 (Nat.le_of_ble_eq_true rfl) dX9_putInside_5 ⟨Nat.le_of_ble_eq_true rfl, Nat.le_of_ble_eq_true rfl⟩ ⟨Nat.le_of_ble_eq_true rfl, Nat.le_of_ble_eq_true rfl⟩ hS (by have hz9 := hS.1; rintro q (h | h) <;> first | exact Or.inr (by omega) | exact h.elim | exact Or.inl h | (simp only [ftA] at h ⊢; omega)) (fun v H1 locs hpo hfr hS => ?_)
  obtain ⟨rfl, rfl⟩ := hpo
  refine W.widen (k := 0) (n := 0) (Nat.le_of_ble_eq_true rfl) (Nat.le_of_ble_eq_true rfl) ?_
  refine mh_top (y := .int (nI sg)) (by rw [hs]) ?_
  refine lv_bipush (v := nI 40) hx hb dX9_putInside_8 (by decide) ?_
  refine mn_icmp_ne (tgt := 17) hB dX9_putInside_10 (by decide) (by omega) (by omega) (fun h_10 => ?_) (fun h_10 => ?_)
  · skip
    refine lv_iconst (v := nI 0) hx hb dX9_putInside_17 (by decide) ?_
    refine lv_istore_n (lv' := [(3, .int (nI 0)), (0, .ref tb), (1, .int (nI j0)), (2, .int (nI e0))]) hx hb dX9_putInside_18 rfl hl (by decide) rfl (fun ls hl => ?_)
    refine lv_aload_n hx hb dX9_putInside_19 rfl (lv_at hl 1 rfl) ?_
    refine gf_X9_21 hB hT.1 rfl dX9_putInside_20 ?_
    refine lv_iload_n hx hb dX9_putInside_23 rfl (lv_at hl 3 rfl) ?_
    refine cl_X9_56 (As := [.ref (tb + 4), .int (nI e0)]) (rest := []) hB (c_X6_at l g H0 (tb + 4) 60 fi e0 hT.a_fi (he) (by first | assumption | omega)) rfl hl.1 (Nat.le_of_ble_eq_true rfl) dX9_putInside_24 ⟨Nat.le_of_ble_eq_true rfl, Nat.le_of_ble_eq_true rfl⟩ ⟨Nat.le_of_ble_eq_true rfl, Nat.le_of_ble_eq_true rfl⟩ hS (by have hz9 := hS.1; rintro q (h | h) <;> first | exact Or.inr (by omega) | exact h.elim | exact Or.inl h | (simp only [ftA] at h ⊢; omega)) (fun v H1 locs hpo hfr hS => ?_)
    obtain ⟨rfl, rfl⟩ := hpo
    refine W.widen (k := 0) (n := 0) (Nat.le_of_ble_eq_true rfl) (Nat.le_of_ble_eq_true rfl) ?_
    refine mh_top (y := .int (nI f0)) (by rw [hfi]) ?_
    refine lv_bipush (v := (-9)) hx hb dX9_putInside_27 (by decide) ?_
    refine lv_icmp_ne (tgt := 36) hx hb dX9_putInside_29 (by decide) (fun h_29 => ?_) (fun h => absurd h (nI_ne9 (by omega)))
    refine lv_iconst (v := nI 0) hx hb dX9_putInside_36 (by decide) ?_
    refine lv_istore (lv' := [(4, .int (nI 0)), (3, .int (nI 0)), (0, .ref tb), (1, .int (nI j0)), (2, .int (nI e0))]) hx hb dX9_putInside_37 hl (by decide) rfl (fun ls hl => ?_)
    refine lv_aload_n hx hb dX9_putInside_39 rfl (lv_at hl 2 rfl) ?_
    refine gf_X9_15 hB hT.1 rfl dX9_putInside_40 ?_
    refine lv_iload_n hx hb dX9_putInside_43 rfl (lv_at hl 3 rfl) ?_
    refine cl_X9_56 (As := [.ref (tb + 2), .int (nI j0)]) (rest := []) hB (c_X6_at l g H0 (tb + 2) 60 wd j0 hT.a_wd (hj) (by first | assumption | omega)) rfl hl.1 (Nat.le_of_ble_eq_true rfl) dX9_putInside_44 ⟨Nat.le_of_ble_eq_true rfl, Nat.le_of_ble_eq_true rfl⟩ ⟨Nat.le_of_ble_eq_true rfl, Nat.le_of_ble_eq_true rfl⟩ hS (by have hz9 := hS.1; rintro q (h | h) <;> first | exact Or.inr (by omega) | exact h.elim | exact Or.inl h | (simp only [ftA] at h ⊢; omega)) (fun v H1 locs hpo hfr hS => ?_)
    obtain ⟨rfl, rfl⟩ := hpo
    refine W.widen (k := 0) (n := 0) (Nat.le_of_ble_eq_true rfl) (Nat.le_of_ble_eq_true rfl) ?_
    refine mh_top (y := .int (nI w0)) (by rw [hw8]) ?_
    refine lv_istore (lv' := [(5, .int (nI w0)), (4, .int (nI 0)), (3, .int (nI 0)), (0, .ref tb), (1, .int (nI j0)), (2, .int (nI e0))]) hx hb dX9_putInside_47 hl (by decide) rfl (fun ls hl => ?_)
    refine lv_aload_n hx hb dX9_putInside_49 rfl (lv_at hl 3 rfl) ?_
    refine gf_X9_18 hB hT.1 rfl dX9_putInside_50 ?_
    refine lv_iload_n hx hb dX9_putInside_53 rfl (lv_at hl 4 rfl) ?_
    refine cl_X9_56 (As := [.ref (tb + 3), .int (nI j0)]) (rest := []) hB (c_X6_at l g H0 (tb + 3) 60 ht j0 hT.a_ht (hj) (by first | assumption | omega)) rfl hl.1 (Nat.le_of_ble_eq_true rfl) dX9_putInside_54 ⟨Nat.le_of_ble_eq_true rfl, Nat.le_of_ble_eq_true rfl⟩ ⟨Nat.le_of_ble_eq_true rfl, Nat.le_of_ble_eq_true rfl⟩ hS (by have hz9 := hS.1; rintro q (h | h) <;> first | exact Or.inr (by omega) | exact h.elim | exact Or.inl h | (simp only [ftA] at h ⊢; omega)) (fun v H1 locs hpo hfr hS => ?_)
    obtain ⟨rfl, rfl⟩ := hpo
    refine W.widen (k := 0) (n := 0) (Nat.le_of_ble_eq_true rfl) (Nat.le_of_ble_eq_true rfl) ?_
    refine mh_top (y := .int (nI h0)) (by rw [hh8]) ?_
    refine lv_istore (lv' := [(6, .int (nI h0)), (5, .int (nI w0)), (4, .int (nI 0)), (3, .int (nI 0)), (0, .ref tb), (1, .int (nI j0)), (2, .int (nI e0))]) hx hb dX9_putInside_57 hl (by decide) rfl (fun ls hl => ?_)
    refine lv_iload hx hb dX9_putInside_59 (lv_at hl 2 rfl) ?_
    refine mn_if_ne (tgt := 99) hB dX9_putInside_61 (by decide) (by omega) (fun h => by exfalso; omega) (fun h_61 => ?_)
    refine lv_iload_n hx hb dX9_putInside_64 rfl (lv_at hl 3 rfl) ?_
    refine mn_if_eq (tgt := 84) hB dX9_putInside_65 (by decide) (by omega) (fun h_65 => ?_) (fun h => by exfalso; omega)
    refine lv_iload hx hb dX9_putInside_84 (lv_at hl 1 rfl) ?_
    refine lv_aload_n hx hb dX9_putInside_86 rfl (lv_at hl 4 rfl) ?_
    refine gf_X9_15 hB hT.1 rfl dX9_putInside_87 ?_
    refine lv_iload_n hx hb dX9_putInside_90 rfl (lv_at hl 6 rfl) ?_
    refine cl_X9_56 (As := [.ref (tb + 2), .int (nI e0)]) (rest := [.int (nI w0)]) hB (c_X6_at l g H0 (tb + 2) 60 wd e0 hT.a_wd (he) (by first | assumption | omega)) rfl hl.1 (Nat.le_of_ble_eq_true rfl) dX9_putInside_91 ⟨Nat.le_of_ble_eq_true rfl, Nat.le_of_ble_eq_true rfl⟩ ⟨Nat.le_of_ble_eq_true rfl, Nat.le_of_ble_eq_true rfl⟩ hS (by have hz9 := hS.1; rintro q (h | h) <;> first | exact Or.inr (by omega) | exact h.elim | exact Or.inl h | (simp only [ftA] at h ⊢; omega)) (fun v H1 locs hpo hfr hS => ?_)
    obtain ⟨rfl, rfl⟩ := hpo
    refine W.widen (k := 0) (n := 0) (Nat.le_of_ble_eq_true rfl) (Nat.le_of_ble_eq_true rfl) ?_
    refine mh_top (y := .int (nI w1)) (by rw [hw9]) ?_
    refine mn_icmp_eq (tgt := 99) hB dX9_putInside_94 (by decide) (by omega) (by omega) (fun h_94 => ?_) (fun h => by exfalso; omega)
    refine lv_iload_n hx hb dX9_putInside_99 rfl (lv_at hl 3 rfl) ?_
    refine mn_if_eq (tgt := 110) hB dX9_putInside_100 (by decide) (by omega) (fun h_100 => ?_) (fun h => by exfalso; omega)
    refine lv_aload_n hx hb dX9_putInside_110 rfl (lv_at hl 4 rfl) ?_
    refine gf_X9_18 hB hT.1 rfl dX9_putInside_111 ?_
    refine lv_iload_n hx hb dX9_putInside_114 rfl (lv_at hl 6 rfl) ?_
    refine cl_X9_56 (As := [.ref (tb + 3), .int (nI e0)]) (rest := []) hB (c_X6_at l g H0 (tb + 3) 60 ht e0 hT.a_ht (he) (by first | assumption | omega)) rfl hl.1 (Nat.le_of_ble_eq_true rfl) dX9_putInside_115 ⟨Nat.le_of_ble_eq_true rfl, Nat.le_of_ble_eq_true rfl⟩ ⟨Nat.le_of_ble_eq_true rfl, Nat.le_of_ble_eq_true rfl⟩ hS (by have hz9 := hS.1; rintro q (h | h) <;> first | exact Or.inr (by omega) | exact h.elim | exact Or.inl h | (simp only [ftA] at h ⊢; omega)) (fun v H1 locs hpo hfr hS => ?_)
    obtain ⟨rfl, rfl⟩ := hpo
    refine W.widen (k := 0) (n := 0) (Nat.le_of_ble_eq_true rfl) (Nat.le_of_ble_eq_true rfl) ?_
    refine mh_top (y := .int (nI h1)) (by rw [hh9]) ?_
    refine lv_istore (lv' := [(7, .int (nI h1)), (6, .int (nI h0)), (5, .int (nI w0)), (4, .int (nI 0)), (3, .int (nI 0)), (0, .ref tb), (1, .int (nI j0)), (2, .int (nI e0))]) hx hb dX9_putInside_118 hl (by decide) rfl (fun ls hl => ?_)
    refine lv_iload_n hx hb dX9_putInside_120 rfl (lv_at hl 4 rfl) ?_
    refine mn_if_eq (tgt := 132) hB dX9_putInside_121 (by decide) (by omega) (fun h_121 => ?_) (fun h => by exfalso; omega)
    refine lv_iload hx hb dX9_putInside_132 (lv_at hl 2 rfl) ?_
    refine lv_istore (lv' := [(8, .int (nI w0)), (7, .int (nI h1)), (6, .int (nI h0)), (5, .int (nI w0)), (4, .int (nI 0)), (3, .int (nI 0)), (0, .ref tb), (1, .int (nI j0)), (2, .int (nI e0))]) hx hb dX9_putInside_134 hl (by decide) rfl (fun ls hl => ?_)
    refine lv_iload_n hx hb dX9_putInside_136 rfl (lv_at hl 5 rfl) ?_
    refine mn_if_eq (tgt := 145) hB dX9_putInside_137 (by decide) (by omega) (fun h_137 => ?_) (fun h => by exfalso; omega)
    refine lv_iload hx hb dX9_putInside_145 (lv_at hl 1 rfl) ?_
    refine lv_iload hx hb dX9_putInside_147 (lv_at hl 2 rfl) ?_
    refine mn_iadd hB dX9_putInside_149 ?_
    refine lv_istore (lv' := [(9, .int (nI (h1 + h0))), (8, .int (nI w0)), (7, .int (nI h1)), (6, .int (nI h0)), (5, .int (nI w0)), (4, .int (nI 0)), (3, .int (nI 0)), (0, .ref tb), (1, .int (nI j0)), (2, .int (nI e0))]) hx hb dX9_putInside_150 hl (by decide) rfl (fun ls hl => ?_)
    refine lv_iload hx hb dX9_putInside_152 (lv_at hl 1 rfl) ?_
    refine lv_bipush (v := nI 16) hx hb dX9_putInside_154 (by decide) ?_
    refine mn_icmp_gt (tgt := 166) hB dX9_putInside_156 (by decide) (by omega) (by omega) (fun h => by exfalso; omega) (fun h_156 => ?_)
    refine lv_iload hx hb dX9_putInside_159 (lv_at hl 0 rfl) ?_
    refine lv_bipush (v := nI 16) hx hb dX9_putInside_161 (by decide) ?_
    refine mn_icmp_le (tgt := 168) hB dX9_putInside_163 (by decide) (by omega) (by omega) (fun h_163 => ?_) (fun h => by exfalso; omega)
    refine lv_aload_n hx hb dX9_putInside_168 rfl (lv_at hl 7 rfl) ?_
    refine lv_iload_n hx hb dX9_putInside_169 rfl (lv_at hl 9 rfl) ?_
    refine lv_iload hx hb dX9_putInside_170 (lv_at hl 1 rfl) ?_
    refine lv_iload hx hb dX9_putInside_172 (lv_at hl 0 rfl) ?_
    refine cl_X9_88 (As := [.int (nI e0), .int (nI w0), .int (nI (h1 + h0))]) (rest := []) hB (c_X9_setSize l g H0 tb tx ln wd ht fi la nx di op oc wh e0 w0 (h1 + h0) hT (by first | assumption | omega)) hT.1 rfl hl.1 (Nat.le_of_ble_eq_true rfl) dX9_putInside_174 ⟨Nat.le_of_ble_eq_true rfl, Nat.le_of_ble_eq_true rfl⟩ ⟨Nat.le_of_ble_eq_true rfl, Nat.le_of_ble_eq_true rfl⟩ hS (by have hz9 := hS.1; rintro q (h | h) <;> first | exact Or.inr (by omega) | exact h.elim | exact Or.inl h | (simp only [ftA] at h ⊢; omega)) (fun v H1 locs hpo hfr hS => ?_)
    obtain ⟨rfl, hT⟩ := hpo
    generalize H1 = H at hfr hS hT ⊢
    refine W.widen (k := 0) (n := 0) (Nat.le_of_ble_eq_true rfl) (Nat.le_of_ble_eq_true rfl) ?_
    refine lv_aload_n hx hb dX9_putInside_177 rfl (lv_at hl 7 rfl) ?_
    refine gf_X9_30 hB hT.1 rfl dX9_putInside_178 ?_
    refine lv_iload_n hx hb dX9_putInside_181 rfl (lv_at hl 8 rfl) ?_
    refine lv_iload hx hb dX9_putInside_182 (lv_at hl 2 rfl) ?_
    refine cl_X9_43 (As := [.ref (tb + 7), .int (nI j0), .int (nI h1)]) (rest := []) hB (c_X6_put l g H (tb + 7) 60 di j0 (nI h1) hT.a_di (by first | assumption | omega) (by first | assumption | omega)) rfl hl.1 (Nat.le_of_ble_eq_true rfl) dX9_putInside_184 ⟨Nat.le_of_ble_eq_true rfl, Nat.le_of_ble_eq_true rfl⟩ ⟨Nat.le_of_ble_eq_true rfl, Nat.le_of_ble_eq_true rfl⟩ hS (by have hz9 := hS.1; rintro q (h | h) <;> first | exact Or.inr (by omega) | exact h.elim | exact Or.inl h | (simp only [ftA] at h ⊢; omega)) (fun v H1 locs hpo hfr hS => ?_)
    obtain ⟨rfl, ha⟩ := hpo
    have hT := hT.f_di hfr ha
    generalize H1 = H at hfr hS hT ⊢
    refine W.widen (k := 0) (n := 0) (Nat.le_of_ble_eq_true rfl) (Nat.le_of_ble_eq_true rfl) ?_
    refine lv_iload hx hb dX9_putInside_187 (lv_at hl 5 rfl) ?_
    refine mn_if_eq (tgt := 204) hB dX9_putInside_189 (by decide) (by omega) (fun h_189 => ?_) (fun h => by exfalso; omega)
    refine lv_aload_n hx hb dX9_putInside_204 rfl (lv_at hl 7 rfl) ?_
    refine gf_X9_27 hB hT.1 rfl dX9_putInside_205 ?_
    refine lv_aload_n hx hb dX9_putInside_208 rfl (lv_at hl 7 rfl) ?_
    refine gf_X9_24 hB hT.1 rfl dX9_putInside_209 ?_
    refine lv_iload_n hx hb dX9_putInside_212 rfl (lv_at hl 9 rfl) ?_
    refine cl_X9_56 (As := [.ref (tb + 5), .int (nI e0)]) (rest := [.ref (tb + 6)]) hB (c_X6_at l g H (tb + 5) 60 la e0 hT.a_la (he) (by first | assumption | omega)) rfl hl.1 (Nat.le_of_ble_eq_true rfl) dX9_putInside_213 ⟨Nat.le_of_ble_eq_true rfl, Nat.le_of_ble_eq_true rfl⟩ ⟨Nat.le_of_ble_eq_true rfl, Nat.le_of_ble_eq_true rfl⟩ hS (by have hz9 := hS.1; rintro q (h | h) <;> first | exact Or.inr (by omega) | exact h.elim | exact Or.inl h | (simp only [ftA] at h ⊢; omega)) (fun v H1 locs hpo hfr hS => ?_)
    obtain ⟨rfl, rfl⟩ := hpo
    refine W.widen (k := 0) (n := 0) (Nat.le_of_ble_eq_true rfl) (Nat.le_of_ble_eq_true rfl) ?_
    refine mh_top (y := .int (nI l0)) (by rw [hla]) ?_
    refine lv_iload_n hx hb dX9_putInside_216 rfl (lv_at hl 8 rfl) ?_
    refine cl_X9_43 (As := [.ref (tb + 6), .int (nI l0), .int (nI j0)]) (rest := []) hB (c_X6_put l g H (tb + 6) 60 nx l0 (nI j0) hT.a_nx (by first | assumption | omega) (by first | assumption | omega)) rfl hl.1 (Nat.le_of_ble_eq_true rfl) dX9_putInside_217 ⟨Nat.le_of_ble_eq_true rfl, Nat.le_of_ble_eq_true rfl⟩ ⟨Nat.le_of_ble_eq_true rfl, Nat.le_of_ble_eq_true rfl⟩ hS (by have hz9 := hS.1; rintro q (h | h) <;> first | exact Or.inr (by omega) | exact h.elim | exact Or.inl h | (simp only [ftA] at h ⊢; omega)) (fun v H1 locs hpo hfr hS => ?_)
    obtain ⟨rfl, ha⟩ := hpo
    have hT := hT.f_nx hfr ha
    generalize H1 = H at hfr hS hT ⊢
    refine W.widen (k := 0) (n := 0) (Nat.le_of_ble_eq_true rfl) (Nat.le_of_ble_eq_true rfl) ?_
    refine lv_aload_n hx hb dX9_putInside_220 rfl (lv_at hl 7 rfl) ?_
    refine gf_X9_24 hB hT.1 rfl dX9_putInside_221 ?_
    refine lv_iload_n hx hb dX9_putInside_224 rfl (lv_at hl 9 rfl) ?_
    refine lv_iload_n hx hb dX9_putInside_225 rfl (lv_at hl 8 rfl) ?_
    refine cl_X9_43 (As := [.ref (tb + 5), .int (nI e0), .int (nI j0)]) (rest := []) hB (c_X6_put l g H (tb + 5) 60 la e0 (nI j0) hT.a_la (by first | assumption | omega) (by first | assumption | omega)) rfl hl.1 (Nat.le_of_ble_eq_true rfl) dX9_putInside_226 ⟨Nat.le_of_ble_eq_true rfl, Nat.le_of_ble_eq_true rfl⟩ ⟨Nat.le_of_ble_eq_true rfl, Nat.le_of_ble_eq_true rfl⟩ hS (by have hz9 := hS.1; rintro q (h | h) <;> first | exact Or.inr (by omega) | exact h.elim | exact Or.inl h | (simp only [ftA] at h ⊢; omega)) (fun v H1 locs hpo hfr hS => ?_)
    obtain ⟨rfl, ha⟩ := hpo
    have hT := hT.f_la hfr ha
    generalize H1 = H at hfr hS hT ⊢
    refine W.widen (k := 0) (n := 0) (Nat.le_of_ble_eq_true rfl) (Nat.le_of_ble_eq_true rfl) ?_
    refine lv_bipush (v := (-9)) hx hb dX9_putInside_229 (by decide) ?_
    refine mh_iret hB ⟨Nat.le_of_ble_eq_true rfl, Nat.le_of_ble_eq_true rfl⟩ hS dX9_putInside_231 ⟨?_, ?_⟩
    · rfl
    · obtain ⟨q1, q2, q3, q4, q5⟩ := hq.resolve_left (fun y => absurd y.1 (by omega))
      rw [q4, q5, if_neg q1]
      exact hT
  · skip
    refine lv_iconst (v := nI 1) hx hb dX9_putInside_13 (by decide) ?_
    refine lv_goto (tgt := 18) hx hb dX9_putInside_14 (by decide) ?_
    refine lv_istore_n (lv' := [(3, .int (nI 1)), (0, .ref tb), (1, .int (nI j0)), (2, .int (nI e0))]) hx hb dX9_putInside_18 rfl hl (by decide) rfl (fun ls hl => ?_)
    refine lv_aload_n hx hb dX9_putInside_19 rfl (lv_at hl 1 rfl) ?_
    refine gf_X9_21 hB hT.1 rfl dX9_putInside_20 ?_
    refine lv_iload_n hx hb dX9_putInside_23 rfl (lv_at hl 3 rfl) ?_
    refine cl_X9_56 (As := [.ref (tb + 4), .int (nI e0)]) (rest := []) hB (c_X6_at l g H0 (tb + 4) 60 fi e0 hT.a_fi (he) (by first | assumption | omega)) rfl hl.1 (Nat.le_of_ble_eq_true rfl) dX9_putInside_24 ⟨Nat.le_of_ble_eq_true rfl, Nat.le_of_ble_eq_true rfl⟩ ⟨Nat.le_of_ble_eq_true rfl, Nat.le_of_ble_eq_true rfl⟩ hS (by have hz9 := hS.1; rintro q (h | h) <;> first | exact Or.inr (by omega) | exact h.elim | exact Or.inl h | (simp only [ftA] at h ⊢; omega)) (fun v H1 locs hpo hfr hS => ?_)
    obtain ⟨rfl, rfl⟩ := hpo
    refine W.widen (k := 0) (n := 0) (Nat.le_of_ble_eq_true rfl) (Nat.le_of_ble_eq_true rfl) ?_
    refine mh_top (y := .int (nI f0)) (by rw [hfi]) ?_
    refine lv_bipush (v := (-9)) hx hb dX9_putInside_27 (by decide) ?_
    refine lv_icmp_ne (tgt := 36) hx hb dX9_putInside_29 (by decide) (fun h_29 => ?_) (fun h => absurd h (nI_ne9 (by omega)))
    refine lv_iconst (v := nI 0) hx hb dX9_putInside_36 (by decide) ?_
    refine lv_istore (lv' := [(4, .int (nI 0)), (3, .int (nI 1)), (0, .ref tb), (1, .int (nI j0)), (2, .int (nI e0))]) hx hb dX9_putInside_37 hl (by decide) rfl (fun ls hl => ?_)
    refine lv_aload_n hx hb dX9_putInside_39 rfl (lv_at hl 2 rfl) ?_
    refine gf_X9_15 hB hT.1 rfl dX9_putInside_40 ?_
    refine lv_iload_n hx hb dX9_putInside_43 rfl (lv_at hl 3 rfl) ?_
    refine cl_X9_56 (As := [.ref (tb + 2), .int (nI j0)]) (rest := []) hB (c_X6_at l g H0 (tb + 2) 60 wd j0 hT.a_wd (hj) (by first | assumption | omega)) rfl hl.1 (Nat.le_of_ble_eq_true rfl) dX9_putInside_44 ⟨Nat.le_of_ble_eq_true rfl, Nat.le_of_ble_eq_true rfl⟩ ⟨Nat.le_of_ble_eq_true rfl, Nat.le_of_ble_eq_true rfl⟩ hS (by have hz9 := hS.1; rintro q (h | h) <;> first | exact Or.inr (by omega) | exact h.elim | exact Or.inl h | (simp only [ftA] at h ⊢; omega)) (fun v H1 locs hpo hfr hS => ?_)
    obtain ⟨rfl, rfl⟩ := hpo
    refine W.widen (k := 0) (n := 0) (Nat.le_of_ble_eq_true rfl) (Nat.le_of_ble_eq_true rfl) ?_
    refine mh_top (y := .int (nI w0)) (by rw [hw8]) ?_
    refine lv_istore (lv' := [(5, .int (nI w0)), (4, .int (nI 0)), (3, .int (nI 1)), (0, .ref tb), (1, .int (nI j0)), (2, .int (nI e0))]) hx hb dX9_putInside_47 hl (by decide) rfl (fun ls hl => ?_)
    refine lv_aload_n hx hb dX9_putInside_49 rfl (lv_at hl 3 rfl) ?_
    refine gf_X9_18 hB hT.1 rfl dX9_putInside_50 ?_
    refine lv_iload_n hx hb dX9_putInside_53 rfl (lv_at hl 4 rfl) ?_
    refine cl_X9_56 (As := [.ref (tb + 3), .int (nI j0)]) (rest := []) hB (c_X6_at l g H0 (tb + 3) 60 ht j0 hT.a_ht (hj) (by first | assumption | omega)) rfl hl.1 (Nat.le_of_ble_eq_true rfl) dX9_putInside_54 ⟨Nat.le_of_ble_eq_true rfl, Nat.le_of_ble_eq_true rfl⟩ ⟨Nat.le_of_ble_eq_true rfl, Nat.le_of_ble_eq_true rfl⟩ hS (by have hz9 := hS.1; rintro q (h | h) <;> first | exact Or.inr (by omega) | exact h.elim | exact Or.inl h | (simp only [ftA] at h ⊢; omega)) (fun v H1 locs hpo hfr hS => ?_)
    obtain ⟨rfl, rfl⟩ := hpo
    refine W.widen (k := 0) (n := 0) (Nat.le_of_ble_eq_true rfl) (Nat.le_of_ble_eq_true rfl) ?_
    refine mh_top (y := .int (nI h0)) (by rw [hh8]) ?_
    refine lv_istore (lv' := [(6, .int (nI h0)), (5, .int (nI w0)), (4, .int (nI 0)), (3, .int (nI 1)), (0, .ref tb), (1, .int (nI j0)), (2, .int (nI e0))]) hx hb dX9_putInside_57 hl (by decide) rfl (fun ls hl => ?_)
    refine lv_iload hx hb dX9_putInside_59 (lv_at hl 2 rfl) ?_
    refine mn_if_ne (tgt := 99) hB dX9_putInside_61 (by decide) (by omega) (fun h => by exfalso; omega) (fun h_61 => ?_)
    refine lv_iload_n hx hb dX9_putInside_64 rfl (lv_at hl 3 rfl) ?_
    refine mn_if_eq (tgt := 84) hB dX9_putInside_65 (by decide) (by omega) (fun h => by exfalso; omega) (fun h_65 => ?_)
    refine lv_iload hx hb dX9_putInside_68 (lv_at hl 0 rfl) ?_
    refine lv_aload_n hx hb dX9_putInside_70 rfl (lv_at hl 4 rfl) ?_
    refine gf_X9_18 hB hT.1 rfl dX9_putInside_71 ?_
    refine lv_iload_n hx hb dX9_putInside_74 rfl (lv_at hl 6 rfl) ?_
    refine cl_X9_56 (As := [.ref (tb + 3), .int (nI e0)]) (rest := [.int (nI h0)]) hB (c_X6_at l g H0 (tb + 3) 60 ht e0 hT.a_ht (he) (by first | assumption | omega)) rfl hl.1 (Nat.le_of_ble_eq_true rfl) dX9_putInside_75 ⟨Nat.le_of_ble_eq_true rfl, Nat.le_of_ble_eq_true rfl⟩ ⟨Nat.le_of_ble_eq_true rfl, Nat.le_of_ble_eq_true rfl⟩ hS (by have hz9 := hS.1; rintro q (h | h) <;> first | exact Or.inr (by omega) | exact h.elim | exact Or.inl h | (simp only [ftA] at h ⊢; omega)) (fun v H1 locs hpo hfr hS => ?_)
    obtain ⟨rfl, rfl⟩ := hpo
    refine W.widen (k := 0) (n := 0) (Nat.le_of_ble_eq_true rfl) (Nat.le_of_ble_eq_true rfl) ?_
    refine mh_top (y := .int (nI h1)) (by rw [hh9]) ?_
    refine mn_icmp_eq (tgt := 99) hB dX9_putInside_78 (by decide) (by omega) (by omega) (fun h_78 => ?_) (fun h => by exfalso; omega)
    refine lv_iload_n hx hb dX9_putInside_99 rfl (lv_at hl 3 rfl) ?_
    refine mn_if_eq (tgt := 110) hB dX9_putInside_100 (by decide) (by omega) (fun h => by exfalso; omega) (fun h_100 => ?_)
    refine lv_aload_n hx hb dX9_putInside_103 rfl (lv_at hl 4 rfl) ?_
    refine gf_X9_15 hB hT.1 rfl dX9_putInside_104 ?_
    refine lv_goto (tgt := 114) hx hb dX9_putInside_107 (by decide) ?_
    refine lv_iload_n hx hb dX9_putInside_114 rfl (lv_at hl 6 rfl) ?_
    refine cl_X9_56 (As := [.ref (tb + 2), .int (nI e0)]) (rest := []) hB (c_X6_at l g H0 (tb + 2) 60 wd e0 hT.a_wd (he) (by first | assumption | omega)) rfl hl.1 (Nat.le_of_ble_eq_true rfl) dX9_putInside_115 ⟨Nat.le_of_ble_eq_true rfl, Nat.le_of_ble_eq_true rfl⟩ ⟨Nat.le_of_ble_eq_true rfl, Nat.le_of_ble_eq_true rfl⟩ hS (by have hz9 := hS.1; rintro q (h | h) <;> first | exact Or.inr (by omega) | exact h.elim | exact Or.inl h | (simp only [ftA] at h ⊢; omega)) (fun v H1 locs hpo hfr hS => ?_)
    obtain ⟨rfl, rfl⟩ := hpo
    refine W.widen (k := 0) (n := 0) (Nat.le_of_ble_eq_true rfl) (Nat.le_of_ble_eq_true rfl) ?_
    refine mh_top (y := .int (nI w1)) (by rw [hw9]) ?_
    refine lv_istore (lv' := [(7, .int (nI w1)), (6, .int (nI h0)), (5, .int (nI w0)), (4, .int (nI 0)), (3, .int (nI 1)), (0, .ref tb), (1, .int (nI j0)), (2, .int (nI e0))]) hx hb dX9_putInside_118 hl (by decide) rfl (fun ls hl => ?_)
    refine lv_iload_n hx hb dX9_putInside_120 rfl (lv_at hl 4 rfl) ?_
    refine mn_if_eq (tgt := 132) hB dX9_putInside_121 (by decide) (by omega) (fun h => by exfalso; omega) (fun h_121 => ?_)
    refine lv_iload hx hb dX9_putInside_124 (lv_at hl 0 rfl) ?_
    refine lv_iload hx hb dX9_putInside_126 (lv_at hl 2 rfl) ?_
    refine mn_iadd hB dX9_putInside_128 ?_
    refine lv_goto (tgt := 134) hx hb dX9_putInside_129 (by decide) ?_
    refine lv_istore (lv' := [(8, .int (nI (w1 + w0))), (7, .int (nI w1)), (6, .int (nI h0)), (5, .int (nI w0)), (4, .int (nI 0)), (3, .int (nI 1)), (0, .ref tb), (1, .int (nI j0)), (2, .int (nI e0))]) hx hb dX9_putInside_134 hl (by decide) rfl (fun ls hl => ?_)
    refine lv_iload_n hx hb dX9_putInside_136 rfl (lv_at hl 5 rfl) ?_
    refine mn_if_eq (tgt := 145) hB dX9_putInside_137 (by decide) (by omega) (fun h => by exfalso; omega) (fun h_137 => ?_)
    refine lv_iload hx hb dX9_putInside_140 (lv_at hl 2 rfl) ?_
    refine lv_goto (tgt := 150) hx hb dX9_putInside_142 (by decide) ?_
    refine lv_istore (lv' := [(9, .int (nI h0)), (8, .int (nI (w1 + w0))), (7, .int (nI w1)), (6, .int (nI h0)), (5, .int (nI w0)), (4, .int (nI 0)), (3, .int (nI 1)), (0, .ref tb), (1, .int (nI j0)), (2, .int (nI e0))]) hx hb dX9_putInside_150 hl (by decide) rfl (fun ls hl => ?_)
    refine lv_iload hx hb dX9_putInside_152 (lv_at hl 1 rfl) ?_
    refine lv_bipush (v := nI 16) hx hb dX9_putInside_154 (by decide) ?_
    refine mn_icmp_gt (tgt := 166) hB dX9_putInside_156 (by decide) (by omega) (by omega) (fun h => by exfalso; omega) (fun h_156 => ?_)
    refine lv_iload hx hb dX9_putInside_159 (lv_at hl 0 rfl) ?_
    refine lv_bipush (v := nI 16) hx hb dX9_putInside_161 (by decide) ?_
    refine mn_icmp_le (tgt := 168) hB dX9_putInside_163 (by decide) (by omega) (by omega) (fun h_163 => ?_) (fun h => by exfalso; omega)
    refine lv_aload_n hx hb dX9_putInside_168 rfl (lv_at hl 7 rfl) ?_
    refine lv_iload_n hx hb dX9_putInside_169 rfl (lv_at hl 9 rfl) ?_
    refine lv_iload hx hb dX9_putInside_170 (lv_at hl 1 rfl) ?_
    refine lv_iload hx hb dX9_putInside_172 (lv_at hl 0 rfl) ?_
    refine cl_X9_88 (As := [.int (nI e0), .int (nI (w1 + w0)), .int (nI h0)]) (rest := []) hB (c_X9_setSize l g H0 tb tx ln wd ht fi la nx di op oc wh e0 (w1 + w0) h0 hT (by first | assumption | omega)) hT.1 rfl hl.1 (Nat.le_of_ble_eq_true rfl) dX9_putInside_174 ⟨Nat.le_of_ble_eq_true rfl, Nat.le_of_ble_eq_true rfl⟩ ⟨Nat.le_of_ble_eq_true rfl, Nat.le_of_ble_eq_true rfl⟩ hS (by have hz9 := hS.1; rintro q (h | h) <;> first | exact Or.inr (by omega) | exact h.elim | exact Or.inl h | (simp only [ftA] at h ⊢; omega)) (fun v H1 locs hpo hfr hS => ?_)
    obtain ⟨rfl, hT⟩ := hpo
    generalize H1 = H at hfr hS hT ⊢
    refine W.widen (k := 0) (n := 0) (Nat.le_of_ble_eq_true rfl) (Nat.le_of_ble_eq_true rfl) ?_
    refine lv_aload_n hx hb dX9_putInside_177 rfl (lv_at hl 7 rfl) ?_
    refine gf_X9_30 hB hT.1 rfl dX9_putInside_178 ?_
    refine lv_iload_n hx hb dX9_putInside_181 rfl (lv_at hl 8 rfl) ?_
    refine lv_iload hx hb dX9_putInside_182 (lv_at hl 2 rfl) ?_
    refine cl_X9_43 (As := [.ref (tb + 7), .int (nI j0), .int (nI w1)]) (rest := []) hB (c_X6_put l g H (tb + 7) 60 di j0 (nI w1) hT.a_di (by first | assumption | omega) (by first | assumption | omega)) rfl hl.1 (Nat.le_of_ble_eq_true rfl) dX9_putInside_184 ⟨Nat.le_of_ble_eq_true rfl, Nat.le_of_ble_eq_true rfl⟩ ⟨Nat.le_of_ble_eq_true rfl, Nat.le_of_ble_eq_true rfl⟩ hS (by have hz9 := hS.1; rintro q (h | h) <;> first | exact Or.inr (by omega) | exact h.elim | exact Or.inl h | (simp only [ftA] at h ⊢; omega)) (fun v H1 locs hpo hfr hS => ?_)
    obtain ⟨rfl, ha⟩ := hpo
    have hT := hT.f_di hfr ha
    generalize H1 = H at hfr hS hT ⊢
    refine W.widen (k := 0) (n := 0) (Nat.le_of_ble_eq_true rfl) (Nat.le_of_ble_eq_true rfl) ?_
    refine lv_iload hx hb dX9_putInside_187 (lv_at hl 5 rfl) ?_
    refine mn_if_eq (tgt := 204) hB dX9_putInside_189 (by decide) (by omega) (fun h_189 => ?_) (fun h => by exfalso; omega)
    refine lv_aload_n hx hb dX9_putInside_204 rfl (lv_at hl 7 rfl) ?_
    refine gf_X9_27 hB hT.1 rfl dX9_putInside_205 ?_
    refine lv_aload_n hx hb dX9_putInside_208 rfl (lv_at hl 7 rfl) ?_
    refine gf_X9_24 hB hT.1 rfl dX9_putInside_209 ?_
    refine lv_iload_n hx hb dX9_putInside_212 rfl (lv_at hl 9 rfl) ?_
    refine cl_X9_56 (As := [.ref (tb + 5), .int (nI e0)]) (rest := [.ref (tb + 6)]) hB (c_X6_at l g H (tb + 5) 60 la e0 hT.a_la (he) (by first | assumption | omega)) rfl hl.1 (Nat.le_of_ble_eq_true rfl) dX9_putInside_213 ⟨Nat.le_of_ble_eq_true rfl, Nat.le_of_ble_eq_true rfl⟩ ⟨Nat.le_of_ble_eq_true rfl, Nat.le_of_ble_eq_true rfl⟩ hS (by have hz9 := hS.1; rintro q (h | h) <;> first | exact Or.inr (by omega) | exact h.elim | exact Or.inl h | (simp only [ftA] at h ⊢; omega)) (fun v H1 locs hpo hfr hS => ?_)
    obtain ⟨rfl, rfl⟩ := hpo
    refine W.widen (k := 0) (n := 0) (Nat.le_of_ble_eq_true rfl) (Nat.le_of_ble_eq_true rfl) ?_
    refine mh_top (y := .int (nI l0)) (by rw [hla]) ?_
    refine lv_iload_n hx hb dX9_putInside_216 rfl (lv_at hl 8 rfl) ?_
    refine cl_X9_43 (As := [.ref (tb + 6), .int (nI l0), .int (nI j0)]) (rest := []) hB (c_X6_put l g H (tb + 6) 60 nx l0 (nI j0) hT.a_nx (by first | assumption | omega) (by first | assumption | omega)) rfl hl.1 (Nat.le_of_ble_eq_true rfl) dX9_putInside_217 ⟨Nat.le_of_ble_eq_true rfl, Nat.le_of_ble_eq_true rfl⟩ ⟨Nat.le_of_ble_eq_true rfl, Nat.le_of_ble_eq_true rfl⟩ hS (by have hz9 := hS.1; rintro q (h | h) <;> first | exact Or.inr (by omega) | exact h.elim | exact Or.inl h | (simp only [ftA] at h ⊢; omega)) (fun v H1 locs hpo hfr hS => ?_)
    obtain ⟨rfl, ha⟩ := hpo
    have hT := hT.f_nx hfr ha
    generalize H1 = H at hfr hS hT ⊢
    refine W.widen (k := 0) (n := 0) (Nat.le_of_ble_eq_true rfl) (Nat.le_of_ble_eq_true rfl) ?_
    refine lv_aload_n hx hb dX9_putInside_220 rfl (lv_at hl 7 rfl) ?_
    refine gf_X9_24 hB hT.1 rfl dX9_putInside_221 ?_
    refine lv_iload_n hx hb dX9_putInside_224 rfl (lv_at hl 9 rfl) ?_
    refine lv_iload_n hx hb dX9_putInside_225 rfl (lv_at hl 8 rfl) ?_
    refine cl_X9_43 (As := [.ref (tb + 5), .int (nI e0), .int (nI j0)]) (rest := []) hB (c_X6_put l g H (tb + 5) 60 la e0 (nI j0) hT.a_la (by first | assumption | omega) (by first | assumption | omega)) rfl hl.1 (Nat.le_of_ble_eq_true rfl) dX9_putInside_226 ⟨Nat.le_of_ble_eq_true rfl, Nat.le_of_ble_eq_true rfl⟩ ⟨Nat.le_of_ble_eq_true rfl, Nat.le_of_ble_eq_true rfl⟩ hS (by have hz9 := hS.1; rintro q (h | h) <;> first | exact Or.inr (by omega) | exact h.elim | exact Or.inl h | (simp only [ftA] at h ⊢; omega)) (fun v H1 locs hpo hfr hS => ?_)
    obtain ⟨rfl, ha⟩ := hpo
    have hT := hT.f_la hfr ha
    generalize H1 = H at hfr hS hT ⊢
    refine W.widen (k := 0) (n := 0) (Nat.le_of_ble_eq_true rfl) (Nat.le_of_ble_eq_true rfl) ?_
    refine lv_bipush (v := (-9)) hx hb dX9_putInside_229 (by decide) ?_
    refine mh_iret hB ⟨Nat.le_of_ble_eq_true rfl, Nat.le_of_ble_eq_true rfl⟩ hS dX9_putInside_231 ⟨?_, ?_⟩
    · rfl
    · obtain ⟨q1, q2, q3, q4, q5⟩ := hq.resolve_right (fun y => absurd (show sg = 40 by omega) y.1)
      rw [q4, q5, if_pos q1]
      exact hT
