def rm_c_X9_readColour : Room := { frames := 3, cells := 0, slots := 0, locals := 76 }
set_option maxRecDepth 100000 in
set_option maxHeartbeats 400000 in
theorem c_X9_readColour (l : Launch) (g : GG) (H0 : Heap) (tb : Nat) (tx : Nat → Int32) (ln : Nat) (wd : Nat → Int32) (ht : Nat → Int32) (fi : Nat → Int32) (la : Nat → Int32) (nx : Nat → Int32) (di : Nat → Int32) (op : Nat → Int32) (oc : Int32) (wh : Int32) (tc : Nat → Nat) (L0 : List PIt) (i0 : Nat) (hT : TxAt g tb tx ln wd ht fi la nx di op oc wh H0) (htc : ∀ j, j < i0 + 1 → tx j = nI (tc j) ∧ tc j < 256) (hi : i0 < 60) (hoc : oc = nI L0.length) (hl60 : L0.length ≤ i0) (hO : OpS tc fi la nx di wd ht op L0 i0) (hN : NxS nx L0) (hI : ItsOk L0) (hwh : wh = -9) (hlet : 97 ≤ tc i0 ∧ tc i0 ≤ 102) : Ct l yX9_readColour cX9_readColour 2 (some .int) rm_c_X9_readColour g [.ref tb, .int (nI i0)] H0 (ftA (fun q9 => tb ≤ q9 ∧ q9 < tb + 9) H0.size) (fun v H1 => v = some (.int (edV (endS L0 (1, 1, fun _ => tc i0 - 97) i0))) ∧ ∃ (fi2 : Nat → Int32), ∃ (la2 : Nat → Int32), ∃ (nx2 : Nat → Int32), ∃ (di2 : Nat → Int32), ∃ (wd2 : Nat → Int32), ∃ (ht2 : Nat → Int32), ∃ (oc2 : Int32), ∃ (wh2 : Int32), TxAt g tb tx ln wd2 ht2 fi2 la2 nx2 di2 op oc2 wh2 H1 ∧ EndC tc fi2 la2 nx2 di2 wd2 ht2 op (i0 + 1) oc2 wh2 (endS L0 (1, 1, fun _ => tc i0 - 97) i0)) := by
  refine Ct.of (by decide) (fun _ h => Or.inr h) (Nat.le_of_ble_eq_true rfl) ?_
  intro p e s m below meth c ls hB hin hS hH hl
  have hx := hB.x
  have hb := hB.b
  have hl : lv_has ls 2 [(0, .ref tb), (1, .int (nI i0))] := hl
  refine lv_aload_n hx hb dX9_readColour_0 rfl (lv_at hl 0 rfl) ?_
  refine lv_iload_n hx hb dX9_readColour_1 rfl (lv_at hl 1 rfl) ?_
  refine lv_iconst (v := nI 1) hx hb dX9_readColour_2 (by decide) ?_
  refine lv_iconst (v := nI 1) hx hb dX9_readColour_3 (by decide) ?_
  refine cl_X9_88 (As := [.int (nI i0), .int (nI 1), .int (nI 1)]) (rest := []) hB (c_X9_setSize l g H0 tb tx ln wd ht fi la nx di op oc wh i0 1 1 hT (hi)) hT.1 rfl hl.1 (Nat.le_of_ble_eq_true rfl) dX9_readColour_4 ⟨Nat.le_of_ble_eq_true rfl, Nat.le_of_ble_eq_true rfl⟩ ⟨Nat.le_of_ble_eq_true rfl, Nat.le_of_ble_eq_true rfl⟩ hS (by have hz9 := hS.1; rintro q (h | h) <;> first | exact Or.inr (by omega) | exact h.elim | exact Or.inl h | (simp only [ftA] at h ⊢; omega)) (fun v H1 locs hpo hfr hS => ?_)
  obtain ⟨rfl, hT⟩ := hpo
  generalize H1 = H at hfr hS hT ⊢
  refine W.widen (k := 0) (n := 0) (Nat.le_of_ble_eq_true rfl) (Nat.le_of_ble_eq_true rfl) ?_
  refine lv_aload_n hx hb dX9_readColour_7 rfl (lv_at hl 0 rfl) ?_
  refine gf_X9_27 hB hT.1 rfl dX9_readColour_8 ?_
  refine lv_iload_n hx hb dX9_readColour_11 rfl (lv_at hl 1 rfl) ?_
  refine lv_bipush (v := (-9)) hx hb dX9_readColour_12 (by decide) ?_
  refine cl_X9_43 (As := [.ref (tb + 6), .int (nI i0), .int (-9)]) (rest := []) hB (c_X6_put l g H (tb + 6) 60 nx i0 (-9) hT.a_nx (hi) (by first | assumption | omega)) rfl hl.1 (Nat.le_of_ble_eq_true rfl) dX9_readColour_14 ⟨Nat.le_of_ble_eq_true rfl, Nat.le_of_ble_eq_true rfl⟩ ⟨Nat.le_of_ble_eq_true rfl, Nat.le_of_ble_eq_true rfl⟩ hS (by have hz9 := hS.1; rintro q (h | h) <;> first | exact Or.inr (by omega) | exact h.elim | exact Or.inl h | (simp only [ftA] at h ⊢; omega)) (fun v H1 locs hpo hfr hS => ?_)
  obtain ⟨rfl, ha⟩ := hpo
  have hT := hT.f_nx hfr ha
  generalize H1 = H at hfr hS hT ⊢
  refine W.widen (k := 0) (n := 0) (Nat.le_of_ble_eq_true rfl) (Nat.le_of_ble_eq_true rfl) ?_
  refine lv_aload_n hx hb dX9_readColour_17 rfl (lv_at hl 0 rfl) ?_
  refine lv_iload_n hx hb dX9_readColour_18 rfl (lv_at hl 1 rfl) ?_
  refine cl_X9_92 (As := [.int (nI i0)]) (rest := []) hB (c_X9_endBlock l g H tb tx ln (upd wd i0 (nI 1)) (upd ht i0 (nI 1)) fi la (upd nx i0 (-9)) di op oc wh tc L0 i0 (i0 + 1) 1 1 (fun _ => tc i0 - 97) hT (htc) (hoc) (by omega) (hO.congr (Nat.le_refl _) (by omega) (fun j (x1 : j < i0) => ⟨upd_n (by omega), upd_n (by omega), rfl, rfl, upd_n (by omega), rfl⟩) (fun _ _ => rfl)) (hN.congr hO (fun j x1 => upd_n (by omega))) (hI) (Den.letter hlet hi (upd_s (α := Nat)) (upd_s (α := Nat))) (upd_s (α := Nat)) (hwh)) hT.1 rfl hl.1 (Nat.le_of_ble_eq_true rfl) dX9_readColour_19 ⟨Nat.le_of_ble_eq_true rfl, Nat.le_of_ble_eq_true rfl⟩ ⟨Nat.le_of_ble_eq_true rfl, Nat.le_of_ble_eq_true rfl⟩ hS (by have hz9 := hS.1; rintro q (h | h) <;> first | exact Or.inr (by omega) | exact h.elim | exact Or.inl h | (simp only [ftA] at h ⊢; omega)) (fun v H1 locs hpo hfr hS => ?_)
  obtain ⟨rfl, fi2_1, la2_2, nx2_3, di2_4, wd2_5, ht2_6, oc2_7, wh2_8, hT, hEn⟩ := hpo
  generalize H1 = H at hfr hS hT hEn ⊢
  refine W.widen (k := 0) (n := 0) (Nat.le_of_ble_eq_true rfl) (Nat.le_of_ble_eq_true rfl) ?_
  refine mh_iret hB ⟨Nat.le_of_ble_eq_true rfl, Nat.le_of_ble_eq_true rfl⟩ hS dX9_readColour_22 ⟨?_, fi2_1, la2_2, nx2_3, di2_4, wd2_5, ht2_6, oc2_7, wh2_8, ?_, ?_⟩
  · rfl
  · exact hT
  · exact hEn
