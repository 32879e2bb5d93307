def rm_c_X9_check : Room := { frames := 5, cells := 0, slots := 0, locals := 121 }
set_option maxRecDepth 100000 in
set_option maxHeartbeats 400000 in
theorem c_X9_check (l : Launch) (g : GG) (H0 : Heap) (tb : Nat) (tx : Nat → Int32) (ln : Nat) (wd : Nat → Int32) (ht : Nat → Int32) (fi : Nat → Int32) (la : Nat → Int32) (nx : Nat → Int32) (di : Nat → Int32) (op : Nat → Int32) (oc : Int32) (wh : Int32) (tc : Nat → Nat) (hT : TxAt g tb tx ln wd ht fi la nx di op oc wh H0) (htc : ∀ j, j < ln → tx j = nI (tc j) ∧ tc j < 256) (hln : ln ≤ 60) : Ct l yX9_check cX9_check 3 (some .int) rm_c_X9_check g [.ref tb] H0 (ftA (fun q9 => tb ≤ q9 ∧ q9 < tb + 9) H0.size) (fun v H1 => v = some (.int (erV (wholeS tc ln))) ∧ ∃ (fi2 : Nat → Int32), ∃ (la2 : Nat → Int32), ∃ (nx2 : Nat → Int32), ∃ (di2 : Nat → Int32), ∃ (wd2 : Nat → Int32), ∃ (ht2 : Nat → Int32), ∃ (oc2 : Int32), ∃ (wh2 : Int32), ∃ (op2 : Nat → Int32), TxAt g tb tx ln wd2 ht2 fi2 la2 nx2 di2 op2 oc2 wh2 H1 ∧ ChkC tc fi2 nx2 di2 wd2 ht2 ln wh2 (wholeS tc ln)) := by
  refine Ct.of (by decide) (fun _ h => Or.inr h) (Nat.le_of_ble_eq_true rfl) ?_
  intro p e s m below meth c ls hB hin hS hH hl
  have hx := hB.x
  have hb := hB.b
  have hl : lv_has ls 3 [(0, .ref tb)] := hl
  refine lv_aload_n hx hb dX9_check_0 rfl (lv_at hl 0 rfl) ?_
  refine lv_iconst (v := nI 0) hx hb dX9_check_1 (by decide) ?_
  refine pf_X9_49 hB hT.1 (by first | exact Or.inl rfl | (simp only [ftA]; omega) | (simp [ftA]; omega)) hS rfl rfl (Nat.le_of_ble_eq_true rfl) dX9_check_2 (fun H locs hwr => ?_)
  obtain ⟨hT, hS⟩ := hT.w_oc hwr
  refine lv_aload_n hx hb dX9_check_5 rfl (lv_at hl 0 rfl) ?_
  refine lv_bipush (v := (-9)) hx hb dX9_check_6 (by decide) ?_
  refine pf_X9_36 hB hT.1 (by first | exact Or.inl rfl | (simp only [ftA]; omega) | (simp [ftA]; omega)) hS rfl rfl (Nat.le_of_ble_eq_true rfl) dX9_check_8 (fun H locs hwr => ?_)
  obtain ⟨hT, hS⟩ := hT.w_wh hwr
  refine lv_iconst (v := nI 0) hx hb dX9_check_11 (by decide) ?_
  refine lv_istore_n (lv' := [(1, .int (nI 0)), (0, .ref tb)]) hx hb dX9_check_12 rfl hl (by decide) rfl (fun ls hl => ?_)
  refine mh_loop (σ := Nat × (PBl ⊕ List PIt) × (Nat → Int32) × (Nat → Int32) × (Nat → Int32) × (Nat → Int32) × (Nat → Int32) × (Nat → Int32) × (Nat → Int32) × Int32 × Int32) (fun xx9 H locs ls => match xx9 with | (k9, ms, fii, lai, nxi, dii, wdi, hti, opi, oci, whi) => k9 ≤ ln ∧ EndC tc fii lai nxi dii wdi hti opi k9 oci whi (.inr ms) ∧ LsOk k9 ms ∧ conS tc ln k9 ms = wholeS tc ln ∧ TxAt g tb tx ln wdi hti fii lai nxi dii opi oci whi H ∧ va_S (ftA (fun q9 => tb ≤ q9 ∧ q9 < tb + 9) H0.size) H0 H locs ∧ lv_has ls 3 [(0, .ref tb), (1, .int (nI k9))]) (fun xx9 => match xx9 with | (k9, ms, fii, lai, nxi, dii, wdi, hti, opi, oci, whi) => ln - k9) ?_ (0, Sum.inr [], fi, la, nx, di, wd, ht, op, nI 0, -9) ⟨(Nat.zero_le _), (⟨rfl, rfl, trivial, trivial⟩), (⟨trivial, Nat.le_refl _⟩), (rfl), hT, hS, lv_sub hl [1, 0] rfl⟩
  rintro ⟨k9, ms, fii, lai, nxi, dii, wdi, hti, opi, oci, whi⟩ H locs ls ⟨hki, hEi, hLi, hCi, hT, hS, hl⟩ ih
  have ih13 := ih
  refine lv_iload_n hx hb dX9_check_13 rfl (lv_at hl 1 rfl) ?_
  refine lv_aload_n hx hb dX9_check_14 rfl (lv_at hl 0 rfl) ?_
  refine gf_X9_40 hB hT.1 rfl dX9_check_15 ?_
  refine mn_icmp_ge (tgt := 47) hB dX9_check_18 (by decide) (by omega) (by omega) (fun h_18 => ?_) (fun h_18 => ?_)
  · skip
    rcases ms with b | L
    · skip
      obtain ⟨j8, hj8, hwh8, hDn8⟩ := hEi
      refine lv_aload_n hx hb dX9_check_47 rfl (lv_at hl 0 rfl) ?_
      refine gf_X9_36 hB hT.1 rfl dX9_check_48 ?_
      refine lv_bipush (v := (-9)) hx hb dX9_check_51 (by decide) ?_
      refine lv_icmp_ne (tgt := 63) hx hb dX9_check_53 (by decide) (fun h_53 => ?_) (fun h => absurd h (by rw [hwh8]; exact nI_ne9 hj8))
      refine lv_bipush (v := (-9)) hx hb dX9_check_63 (by decide) ?_
      refine mh_iret hB ⟨Nat.le_of_ble_eq_true rfl, Nat.le_of_ble_eq_true rfl⟩ hS dX9_check_65 ⟨?_, fii, lai, nxi, dii, wdi, hti, oci, whi, opi, ?_, ?_⟩
      · rw [← hCi, conS_be (by omega)]; rfl
      · exact hT
      · rw [← hCi, conS_be (by omega)]
        have e8 : k9 = ln := by omega
        rw [← e8]
        exact ⟨j8, hj8, hwh8, hDn8⟩
    · skip
      obtain ⟨hwh8, hoc8, hO8, hN8⟩ := hEi
      refine lv_aload_n hx hb dX9_check_47 rfl (lv_at hl 0 rfl) ?_
      refine gf_X9_36 hB hT.1 rfl dX9_check_48 ?_
      refine lv_bipush (v := (-9)) hx hb dX9_check_51 (by decide) ?_
      refine lv_icmp_ne (tgt := 63) hx hb dX9_check_53 (by decide) (fun h => absurd hwh8 h) (fun h_53 => ?_)
      refine lv_aload_n hx hb dX9_check_56 rfl (lv_at hl 0 rfl) ?_
      refine gf_X9_40 hB hT.1 rfl dX9_check_57 ?_
      refine lv_goto (tgt := 65) hx hb dX9_check_60 (by decide) ?_
      refine mh_iret hB ⟨Nat.le_of_ble_eq_true rfl, Nat.le_of_ble_eq_true rfl⟩ hS dX9_check_65 ⟨?_, fii, lai, nxi, dii, wdi, hti, oci, whi, opi, ?_, ?_⟩
      · rw [← hCi, conS_n (by omega)]
        have e8 : k9 = ln := by omega
        rw [← e8]
        rfl
      · exact hT
      · rw [← hCi, conS_n (by omega)]
        exact trivial
  · skip
    refine lv_iload_n hx hb dX9_check_21 rfl (lv_at hl 1 rfl) ?_
    refine lv_bipush (v := nI 60) hx hb dX9_check_22 (by decide) ?_
    refine mn_icmp_ge (tgt := 47) hB dX9_check_24 (by decide) (by omega) (by omega) (fun h => by exfalso; omega) (fun h_24 => ?_)
    rcases ms with b | L
    · skip
      obtain ⟨j8, hj8, hwh8, hDn8⟩ := hEi
      refine lv_aload_n hx hb dX9_check_27 rfl (lv_at hl 0 rfl) ?_
      refine lv_iload_n hx hb dX9_check_28 rfl (lv_at hl 1 rfl) ?_
      refine cl_X9_52 (As := [.int (nI k9)]) (rest := []) hB (c_X9_read_w l g H tb tx ln wdi hti fii lai nxi dii opi oci whi k9 j8 hT (by omega) (hwh8) (hj8)) hT.1 rfl hl.1 (Nat.le_of_ble_eq_true rfl) dX9_check_29 ⟨Nat.le_of_ble_eq_true rfl, Nat.le_of_ble_eq_true rfl⟩ ⟨Nat.le_of_ble_eq_true rfl, Nat.le_of_ble_eq_true rfl⟩ hS (by have hz9 := hS.1; rintro q (h | h) <;> first | exact Or.inr (by omega) | exact h.elim | exact Or.inl h | (simp only [ftA] at h ⊢; omega)) (fun v H1 locs hpo hfr hS => ?_)
      obtain ⟨rfl, rfl⟩ := hpo
      refine W.widen (k := 0) (n := 0) (Nat.le_of_ble_eq_true rfl) (Nat.le_of_ble_eq_true rfl) ?_
      refine lv_istore_n (lv' := [(2, .int (nI k9)), (0, .ref tb), (1, .int (nI k9))]) hx hb dX9_check_32 rfl hl (by decide) rfl (fun ls hl => ?_)
      refine lv_iload_n hx hb dX9_check_33 rfl (lv_at hl 0 rfl) ?_
      refine lv_bipush (v := (-9)) hx hb dX9_check_34 (by decide) ?_
      refine lv_icmp_eq (tgt := 41) hx hb dX9_check_36 (by decide) (fun h => absurd h (nI_ne9 (by omega))) (fun h_36 => ?_)
      refine lv_iload_n hx hb dX9_check_39 rfl (lv_at hl 0 rfl) ?_
      refine mh_iret hB ⟨Nat.le_of_ble_eq_true rfl, Nat.le_of_ble_eq_true rfl⟩ hS dX9_check_40 ⟨?_, fii, lai, nxi, dii, wdi, hti, oci, whi, opi, ?_, ?_⟩
      · rw [← hCi, conS_b (by omega)]; rfl
      · exact hT
      · rw [← hCi, conS_b (by omega)]
        exact trivial
    · skip
      obtain ⟨hwh8, hoc8, hO8, hN8⟩ := hEi
      refine lv_aload_n hx hb dX9_check_27 rfl (lv_at hl 0 rfl) ?_
      refine lv_iload_n hx hb dX9_check_28 rfl (lv_at hl 1 rfl) ?_
      refine cl_X9_52 (As := [.int (nI k9)]) (rest := []) hB (c_X9_read l g H tb tx ln wdi hti fii lai nxi dii opi oci whi tc L k9 hT (fun j hj => htc j (by omega)) (by omega) (hoc8) (hLi.2) (hO8) (hN8) (hLi.1) (hwh8)) hT.1 rfl hl.1 (Nat.le_of_ble_eq_true rfl) dX9_check_29 ⟨Nat.le_of_ble_eq_true rfl, Nat.le_of_ble_eq_true rfl⟩ ⟨Nat.le_of_ble_eq_true rfl, Nat.le_of_ble_eq_true rfl⟩ hS (by have hz9 := hS.1; rintro q (h | h) <;> first | exact Or.inr (by omega) | exact h.elim | exact Or.inl h | (simp only [ftA] at h ⊢; omega)) (fun v H1 locs hpo hfr hS => ?_)
      obtain ⟨rfl, fi2_1, la2_2, nx2_3, di2_4, wd2_5, ht2_6, oc2_7, wh2_8, op2_9, hT, hEn⟩ := hpo
      generalize H1 = H at hfr hS hT hEn ⊢
      refine W.widen (k := 0) (n := 0) (Nat.le_of_ble_eq_true rfl) (Nat.le_of_ble_eq_true rfl) ?_
      refine lv_istore_n (lv' := [(2, .int (edV (stepS (tc k9) k9 L))), (0, .ref tb), (1, .int (nI k9))]) hx hb dX9_check_32 rfl hl (by decide) rfl (fun ls hl => ?_)
      rcases hst : stepS (tc k9) k9 L with e8 | ms2
      · skip
        have hE2 := hEn
        have he60 := stepS_ok (tc := tc) (i := k9) (by omega) hLi.1
        rw [hst] at hE2 he60
        refine lv_iload_n hx hb dX9_check_33 rfl (lv_at hl 0 rfl) ?_
        refine lv_bipush (v := (-9)) hx hb dX9_check_34 (by decide) ?_
        refine lv_icmp_eq (tgt := 41) hx hb dX9_check_36 (by decide) (fun h => absurd (show nI e8 = -9 from (congrArg edV hst).symm.trans h) (nI_ne9 he60)) (fun h_36 => ?_)
        refine lv_iload_n hx hb dX9_check_39 rfl (lv_at hl 0 rfl) ?_
        refine mh_iret hB ⟨Nat.le_of_ble_eq_true rfl, Nat.le_of_ble_eq_true rfl⟩ hS dX9_check_40 ⟨?_, fi2_1, la2_2, nx2_3, di2_4, wd2_5, ht2_6, oc2_7, wh2_8, op2_9, ?_, ?_⟩
        · rw [← hCi, conS_e (by omega) hst, hst]; rfl
        · exact hT
        · rw [← hCi, conS_e (by omega) hst]
          exact trivial
      · skip
        have hE2 := hEn
        rw [hst] at hE2
        refine lv_iload_n hx hb dX9_check_33 rfl (lv_at hl 0 rfl) ?_
        refine lv_bipush (v := (-9)) hx hb dX9_check_34 (by decide) ?_
        refine lv_icmp_eq (tgt := 41) hx hb dX9_check_36 (by decide) (fun h_36 => ?_) (fun h => absurd (congrArg edV hst) h)
        refine lv_iinc (v := nI (k9 + 1)) (lv' := [(1, .int (nI (k9 + 1))), (2, .int (edV (stepS (tc k9) k9 L))), (0, .ref tb)]) hx hb dX9_check_41 hl (k := 2) rfl (nI_1 _) (by decide) rfl (fun ls hl => ?_)
        refine lv_goto (tgt := 13) hx hb dX9_check_44 (by decide) ?_
        refine ih13 (k9 + 1, ms2, fi2_1, la2_2, nx2_3, di2_4, wd2_5, ht2_6, op2_9, oc2_7, wh2_8) _ _ _ ⟨(by omega), (hE2), (LsOk_s (tc := tc) (by omega) hLi hst), ((conS_s (by omega) hst).trans hCi), hT, hS, lv_sub hl [2, 0] rfl⟩ (by dsimp only; omega)
