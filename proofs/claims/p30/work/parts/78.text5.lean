def rm_c_X9_readColour : Room := { frames := 3, cells := 0, slots := 0, locals := 76 }
set_option maxRecDepth 100000 in
set_option maxHeartbeats 400000 in
theorem c_X9_readColour (l : Launch) (g : GG) (H0 : Heap) (tb : Nat) (tx : Nat → Int32) (ln : Nat) (wd : Nat → Int32) (ht : Nat → Int32) (fi : Nat → Int32) (la : Nat → Int32) (nx : Nat → Int32) (di : Nat → Int32) (op : Nat → Int32) (oc : Int32) (wh : Int32) (tc : Nat → Nat) (L0 : List PIt) (i0 : Nat) (hT : TxAt g tb tx ln wd ht fi la nx di op oc wh H0) (htc : ∀ j, j < i0 + 1 → tx j = nI (tc j) ∧ tc j < 256) (hi : i0 < 60) (hoc : oc = nI L0.length) (hl60 : L0.length ≤ i0) (hO : OpS tc fi la nx di wd ht op L0 i0) (hN : NxS nx L0) (hI : ItsOk L0) (hwh : wh = -9) (hlet : 97 ≤ tc i0 ∧ tc i0 ≤ 102) : Ct l yX9_readColour cX9_readColour 2 (some .int) rm_c_X9_readColour g [.ref tb, .int (nI i0)] H0 (ftA (fun q9 => tb ≤ q9 ∧ q9 < tb + 9) H0.size) (fun v H1 => v = some (.int (edV (endS L0 (1, 1, fun _ => tc i0 - 97) i0))) ∧ ∃ (fi2 : Nat → Int32), ∃ (la2 : Nat → Int32), ∃ (nx2 : Nat → Int32), ∃ (di2 : Nat → Int32), ∃ (wd2 : Nat → Int32), ∃ (ht2 : Nat → Int32), ∃ (oc2 : Int32), ∃ (wh2 : Int32), TxAt g tb tx ln wd2 ht2 fi2 la2 nx2 di2 op oc2 wh2 H1 ∧ EndC tc fi2 la2 nx2 di2 wd2 ht2 op (i0 + 1) oc2 wh2 (endS L0 (1, 1, fun _ => tc i0 - 97) i0)) := by
  refine Ct.of (by decide) (fun _ h => Or.inr h) (Nat.le_of_ble_eq_true rfl) ?_
  intro p e s m below meth c ls hB hin hS hH hl
  have hx := hB.x
  have hb := hB.b
  have hl : lv_has ls 2 [(0, .ref tb), (1, .int (nI i0))] := hl
  refine lv_aload_n hx hb dX9_readColour_0 rfl (lv_at hl 0 rfl) ?_
  refine lv_iload_n hx hb dX9_readColour_1 rfl (lv_at hl 1 rfl) ?_
  refine lv_iconst (v := nI 1) hx hb dX9_readColour_2 (by decide) ?_
  refine lv_iconst (v := nI 1) hx hb dX9_readColour_3 (by decide) ?_
  refine cl_X9_88 (As := [.int (nI i0), .int (nI 1), .int (nI 1)]) (rest := []) hB (c_X9_setSize l g H0 tb tx ln wd ht fi la nx di op oc wh i0 1 1 hT (hi)) hT.1 rfl hl.1 (Nat.le_of_ble_eq_true rfl) dX9_readColour_4 ⟨Nat.le_of_ble_eq_true rfl, Nat.le_of_ble_eq_true rfl⟩ ⟨Nat.le_of_ble_eq_true rfl, Nat.le_of_ble_eq_true rfl⟩ hS (by have hz9 := hS.1; rintro q (h | h) <;> first | exact Or.inr (by omega) | exact h.elim | exact Or.inl h | (simp only [ftA] at h ⊢; omega)) (fun v H1 locs hpo hfr hS => ?_)
  obtain ⟨rfl, hT⟩ := hpo
  generalize H1 = H at hfr hS hT ⊢
  refine W.widen (k := 0) (n := 0) (Nat.le_of_ble_eq_true rfl) (Nat.le_of_ble_eq_true rfl) ?_
  refine lv_aload_n hx hb dX9_readColour_7 rfl (lv_at hl 0 rfl) ?_
  refine gf_X9_27 hB hT.1 rfl dX9_readColour_8 ?_
  refine lv_iload_n hx hb dX9_readColour_11 rfl (lv_at hl 1 rfl) ?_
  refine lv_bipush (v := (-9)) hx hb dX9_readColour_12 (by decide) ?_
  refine cl_X9_43 (As := [.ref (tb + 6), .int (nI i0), .int (-9)]) (rest := []) hB (c_X6_put l g H (tb + 6) 60 nx i0 (-9) hT.a_nx (hi) (by first | assumption | omega)) rfl hl.1 (Nat.le_of_ble_eq_true rfl) dX9_readColour_14 ⟨Nat.le_of_ble_eq_true rfl, Nat.le_of_ble_eq_true rfl⟩ ⟨Nat.le_of_ble_eq_true rfl, Nat.le_of_ble_eq_true rfl⟩ hS (by have hz9 := hS.1; rintro q (h | h) <;> first | exact Or.inr (by omega) | exact h.elim | exact Or.inl h | (simp only [ftA] at h ⊢; omega)) (fun v H1 locs hpo hfr hS => ?_)
  obtain ⟨rfl, ha⟩ := hpo
  have hT := hT.f_nx hfr ha
  generalize H1 = H at hfr hS hT ⊢
  refine W.widen (k := 0) (n := 0) (Nat.le_of_ble_eq_true rfl) (Nat.le_of_ble_eq_true rfl) ?_
  refine lv_aload_n hx hb dX9_readColour_17 rfl (lv_at hl 0 rfl) ?_
  refine lv_iload_n hx hb dX9_readColour_18 rfl (lv_at hl 1 rfl) ?_
  refine cl_X9_92 (As := [.int (nI i0)]) (rest := []) hB (c_X9_endBlock l g H tb tx ln (upd wd i0 (nI 1)) (upd ht i0 (nI 1)) fi la (upd nx i0 (-9)) di op oc wh tc L0 i0 (i0 + 1) 1 1 (fun _ => tc i0 - 97) hT (htc) (hoc) (by omega) (hO.congr (Nat.le_refl _) (by omega) (fun j (x1 : j < i0) => ⟨upd_n (by omega), upd_n (by omega), rfl, rfl, upd_n (by omega), rfl⟩) (fun _ _ => rfl)) (hN.congr hO (fun j x1 => upd_n (by omega))) (hI) (Den.letter hlet hi (upd_s (α := Nat)) (upd_s (α := Nat))) (upd_s (α := Nat)) (hwh)) hT.1 rfl hl.1 (Nat.le_of_ble_eq_true rfl) dX9_readColour_19 ⟨Nat.le_of_ble_eq_true rfl, Nat.le_of_ble_eq_true rfl⟩ ⟨Nat.le_of_ble_eq_true rfl, Nat.le_of_ble_eq_true rfl⟩ hS (by have hz9 := hS.1; rintro q (h | h) <;> first | exact Or.inr (by omega) | exact h.elim | exact Or.inl h | (simp only [ftA] at h ⊢; omega)) (fun v H1 locs hpo hfr hS => ?_)
  obtain ⟨rfl, fi2_1, la2_2, nx2_3, di2_4, wd2_5, ht2_6, oc2_7, wh2_8, hT, hEn⟩ := hpo
  generalize H1 = H at hfr hS hT hEn ⊢
  refine W.widen (k := 0) (n := 0) (Nat.le_of_ble_eq_true rfl) (Nat.le_of_ble_eq_true rfl) ?_
  refine mh_iret hB ⟨Nat.le_of_ble_eq_true rfl, Nat.le_of_ble_eq_true rfl⟩ hS dX9_readColour_22 ⟨?_, fi2_1, la2_2, nx2_3, di2_4, wd2_5, ht2_6, oc2_7, wh2_8, ?_, ?_⟩
  · rfl
  · exact hT
  · exact hEn

def rm_c_X9_closeBlock_n0 : Room := { frames := 1, cells := 0, slots := 0, locals := 20 }
set_option maxRecDepth 100000 in
set_option maxHeartbeats 400000 in
theorem c_X9_closeBlock_n0 (l : Launch) (g : GG) (H0 : Heap) (tb : Nat) (tx : Nat → Int32) (ln : Nat) (wd : Nat → Int32) (ht : Nat → Int32) (fi : Nat → Int32) (la : Nat → Int32) (nx : Nat → Int32) (di : Nat → Int32) (op : Nat → Int32) (oc : Int32) (wh : Int32) (i0 : Nat) (og : Nat) (hT : TxAt g tb tx ln wd ht fi la nx di op oc wh H0) (hoc : oc = nI 0) : Ct l yX9_closeBlock cX9_closeBlock 4 (some .int) rm_c_X9_closeBlock_n0 g [.ref tb, .int (nI i0), .int (nI og)] H0 (ftA (fun _ => False) H0.size) (fun v H1 => v = some (.int (nI i0)) ∧ H0 = H1) := by
  refine Ct.of (by decide) (fun _ h => Or.inr h) (Nat.le_of_ble_eq_true rfl) ?_
  intro p e s m below meth c ls hB hin hS hH hl
  have hx := hB.x
  have hb := hB.b
  have hl : lv_has ls 4 [(0, .ref tb), (1, .int (nI i0)), (2, .int (nI og))] := hl
  refine lv_aload_n hx hb dX9_closeBlock_0 rfl (lv_at hl 0 rfl) ?_
  refine cl_X9_95 (As := []) (rest := []) hB (c_X9_innermost_n l g H0 tb tx ln wd ht fi la nx di op oc wh hT (hoc)) hT.1 rfl hl.1 (Nat.le_of_ble_eq_true rfl) dX9_closeBlock_1 ⟨Nat.le_of_ble_eq_true rfl, Nat.le_of_ble_eq_true rfl⟩ ⟨Nat.le_of_ble_eq_true rfl, Nat.le_of_ble_eq_true rfl⟩ hS (by have hz9 := hS.1; rintro q (h | h) <;> first | exact Or.inr (by omega) | exact h.elim | exact Or.inl h | (simp only [ftA] at h ⊢; omega)) (fun v H1 locs hpo hfr hS => ?_)
  obtain ⟨rfl, rfl⟩ := hpo
  refine W.widen (k := 0) (n := 0) (Nat.le_of_ble_eq_true rfl) (Nat.le_of_ble_eq_true rfl) ?_
  refine lv_istore_n (lv' := [(3, .int (-9)), (0, .ref tb), (1, .int (nI i0)), (2, .int (nI og))]) hx hb dX9_closeBlock_4 rfl hl (by decide) rfl (fun ls hl => ?_)
  refine lv_iload_n hx hb dX9_closeBlock_5 rfl (lv_at hl 0 rfl) ?_
  refine lv_bipush (v := (-9)) hx hb dX9_closeBlock_6 (by decide) ?_
  refine lv_icmp_eq (tgt := 36) hx hb dX9_closeBlock_8 (by decide) (fun h_8 => ?_) (fun h => absurd rfl h)
  refine lv_iload_n hx hb dX9_closeBlock_36 rfl (lv_at hl 2 rfl) ?_
  refine mh_iret hB ⟨Nat.le_of_ble_eq_true rfl, Nat.le_of_ble_eq_true rfl⟩ hS dX9_closeBlock_37 ⟨?_, rfl⟩
  · rfl

def rm_c_X9_closeBlock_n : Room := { frames := 2, cells := 0, slots := 0, locals := 41 }
set_option maxRecDepth 100000 in
set_option maxHeartbeats 400000 in
theorem c_X9_closeBlock_n (l : Launch) (g : GG) (H0 : Heap) (tb : Nat) (tx : Nat → Int32) (ln : Nat) (wd : Nat → Int32) (ht : Nat → Int32) (fi : Nat → Int32) (la : Nat → Int32) (nx : Nat → Int32) (di : Nat → Int32) (op : Nat → Int32) (oc : Int32) (wh : Int32) (tc : Nat → Nat) (rest : List PIt) (i0 : Nat) (og : Nat) (s1 : Nat) (p1 : Nat) (w1 : Nat) (h1 : Nat) (c1 : Nat → Nat) (hT : TxAt g tb tx ln wd ht fi la nx di op oc wh H0) (htc : ∀ j, j < i0 + 1 → tx j = nI (tc j) ∧ tc j < 256) (hi : i0 < 60) (hoc : oc = nI (rest.length + 1)) (hl60 : rest.length + 1 ≤ i0) (hO : OpS tc fi la nx di wd ht op ((s1, p1, w1, h1, c1) :: rest) i0) (hI : ItsOk ((s1, p1, w1, h1, c1) :: rest)) (hog : og = 40 ∨ og = 91) (hno : ¬ (0 < w1 ∧ s1 = og)) : Ct l yX9_closeBlock cX9_closeBlock 4 (some .int) rm_c_X9_closeBlock_n g [.ref tb, .int (nI i0), .int (nI og)] H0 (ftA (fun _ => False) H0.size) (fun v H1 => v = some (.int (nI i0)) ∧ H0 = H1) := by
  refine Ct.of (by decide) (fun _ h => Or.inr h) (Nat.le_of_ble_eq_true rfl) ?_
  intro p e s m below meth c ls hB hin hS hH hl
  have hx := hB.x
  have hb := hB.b
  have hl : lv_has ls 4 [(0, .ref tb), (1, .int (nI i0)), (2, .int (nI og))] := hl
  obtain ⟨a1, a2, a3⟩ := hO
  have a4 := a2
  obtain ⟨o1, o2, o3, o4, o5, o6⟩ := a4
  dsimp only at a1 o1 o2 o3 o4 o5 o6
  have hp60 : p1 < 60 := by omega
  have htp := htc p1 (by omega)
  rw [o1] at htp
  refine lv_aload_n hx hb dX9_closeBlock_0 rfl (lv_at hl 0 rfl) ?_
  refine cl_X9_95 (As := []) (rest := []) hB (c_X9_innermost l g H0 tb tx ln wd ht fi la nx di op oc wh rest.length p1 hT (hoc) (by omega) (a1)) hT.1 rfl hl.1 (Nat.le_of_ble_eq_true rfl) dX9_closeBlock_1 ⟨Nat.le_of_ble_eq_true rfl, Nat.le_of_ble_eq_true rfl⟩ ⟨Nat.le_of_ble_eq_true rfl, Nat.le_of_ble_eq_true rfl⟩ hS (by have hz9 := hS.1; rintro q (h | h) <;> first | exact Or.inr (by omega) | exact h.elim | exact Or.inl h | (simp only [ftA] at h ⊢; omega)) (fun v H1 locs hpo hfr hS => ?_)
  obtain ⟨rfl, rfl⟩ := hpo
  refine W.widen (k := 0) (n := 0) (Nat.le_of_ble_eq_true rfl) (Nat.le_of_ble_eq_true rfl) ?_
  refine lv_istore_n (lv' := [(3, .int (nI p1)), (0, .ref tb), (1, .int (nI i0)), (2, .int (nI og))]) hx hb dX9_closeBlock_4 rfl hl (by decide) rfl (fun ls hl => ?_)
  refine lv_iload_n hx hb dX9_closeBlock_5 rfl (lv_at hl 0 rfl) ?_
  refine lv_bipush (v := (-9)) hx hb dX9_closeBlock_6 (by decide) ?_
  refine lv_icmp_eq (tgt := 36) hx hb dX9_closeBlock_8 (by decide) (fun h => absurd h (nI_ne9 hp60)) (fun h_8 => ?_)
  refine lv_aload_n hx hb dX9_closeBlock_11 rfl (lv_at hl 1 rfl) ?_
  refine gf_X9_9 hB hT.1 rfl dX9_closeBlock_12 ?_
  refine lv_iload_n hx hb dX9_closeBlock_15 rfl (lv_at hl 0 rfl) ?_
  refine cl_X9_56 (As := [.ref (tb + 1), .int (nI p1)]) (rest := []) hB (c_X6_at l g H0 (tb + 1) 60 tx p1 hT.a_tx (hp60) (by first | assumption | omega)) rfl hl.1 (Nat.le_of_ble_eq_true rfl) dX9_closeBlock_16 ⟨Nat.le_of_ble_eq_true rfl, Nat.le_of_ble_eq_true rfl⟩ ⟨Nat.le_of_ble_eq_true rfl, Nat.le_of_ble_eq_true rfl⟩ hS (by have hz9 := hS.1; rintro q (h | h) <;> first | exact Or.inr (by omega) | exact h.elim | exact Or.inl h | (simp only [ftA] at h ⊢; omega)) (fun v H1 locs hpo hfr hS => ?_)
  obtain ⟨rfl, rfl⟩ := hpo
  refine W.widen (k := 0) (n := 0) (Nat.le_of_ble_eq_true rfl) (Nat.le_of_ble_eq_true rfl) ?_
  refine mh_top (y := .int (nI s1)) (by rw [htp.1]) ?_
  refine lv_iload_n hx hb dX9_closeBlock_19 rfl (lv_at hl 3 rfl) ?_
  refine mn_icmp_ne (tgt := 36) hB dX9_closeBlock_20 (by decide) (by omega) (by omega) (fun h_20 => ?_) (fun h_20 => ?_)
  · skip
    refine lv_iload_n hx hb dX9_closeBlock_36 rfl (lv_at hl 2 rfl) ?_
    refine mh_iret hB ⟨Nat.le_of_ble_eq_true rfl, Nat.le_of_ble_eq_true rfl⟩ hS dX9_closeBlock_37 ⟨?_, rfl⟩
    · rfl
  · skip
    refine lv_aload_n hx hb dX9_closeBlock_23 rfl (lv_at hl 1 rfl) ?_
    refine gf_X9_21 hB hT.1 rfl dX9_closeBlock_24 ?_
    refine lv_iload_n hx hb dX9_closeBlock_27 rfl (lv_at hl 0 rfl) ?_
    refine cl_X9_56 (As := [.ref (tb + 4), .int (nI p1)]) (rest := []) hB (c_X6_at l g H0 (tb + 4) 60 fi p1 hT.a_fi (hp60) (by first | assumption | omega)) rfl hl.1 (Nat.le_of_ble_eq_true rfl) dX9_closeBlock_28 ⟨Nat.le_of_ble_eq_true rfl, Nat.le_of_ble_eq_true rfl⟩ ⟨Nat.le_of_ble_eq_true rfl, Nat.le_of_ble_eq_true rfl⟩ hS (by have hz9 := hS.1; rintro q (h | h) <;> first | exact Or.inr (by omega) | exact h.elim | exact Or.inl h | (simp only [ftA] at h ⊢; omega)) (fun v H1 locs hpo hfr hS => ?_)
    obtain ⟨rfl, rfl⟩ := hpo
    refine W.widen (k := 0) (n := 0) (Nat.le_of_ble_eq_true rfl) (Nat.le_of_ble_eq_true rfl) ?_
    refine mh_top (y := .int (-9)) (by rw [(o6.elim (fun y => y.1) (fun y => absurd ⟨y.2.1, by omega⟩ hno) : fi p1 = -9)]) ?_
    refine lv_bipush (v := (-9)) hx hb dX9_closeBlock_31 (by decide) ?_
    refine lv_icmp_ne (tgt := 38) hx hb dX9_closeBlock_33 (by decide) (fun h => absurd rfl h) (fun h_33 => ?_)
    refine lv_iload_n hx hb dX9_closeBlock_36 rfl (lv_at hl 2 rfl) ?_
    refine mh_iret hB ⟨Nat.le_of_ble_eq_true rfl, Nat.le_of_ble_eq_true rfl⟩ hS dX9_closeBlock_37 ⟨?_, rfl⟩
    · rfl

def rm_c_X9_closeBlock : Room := { frames := 3, cells := 0, slots := 0, locals := 76 }
set_option maxRecDepth 100000 in
set_option maxHeartbeats 400000 in
theorem c_X9_closeBlock (l : Launch) (g : GG) (H0 : Heap) (tb : Nat) (tx : Nat → Int32) (ln : Nat) (wd : Nat → Int32) (ht : Nat → Int32) (fi : Nat → Int32) (la : Nat → Int32) (nx : Nat → Int32) (di : Nat → Int32) (op : Nat → Int32) (oc : Int32) (wh : Int32) (tc : Nat → Nat) (rest : List PIt) (i0 : Nat) (og : Nat) (s1 : Nat) (p1 : Nat) (w1 : Nat) (h1 : Nat) (c1 : Nat → Nat) (f0 : Nat) (hT : TxAt g tb tx ln wd ht fi la nx di op oc wh H0) (htc : ∀ j, j < i0 + 1 → tx j = nI (tc j) ∧ tc j < 256) (hi : i0 < 60) (hoc : oc = nI (rest.length + 1)) (hl60 : rest.length + 1 ≤ i0) (hO : OpS tc fi la nx di wd ht op ((s1, p1, w1, h1, c1) :: rest) i0) (hI : ItsOk ((s1, p1, w1, h1, c1) :: rest)) (hog : og = 40 ∨ og = 91) (hN : NxS nx ((s1, p1, w1, h1, c1) :: rest)) (hwh : wh = -9) (hw : 0 < w1) (hs : s1 = og) (hf0 : fi p1 = nI f0) (hf6 : f0 < 60) : Ct l yX9_closeBlock cX9_closeBlock 4 (some .int) rm_c_X9_closeBlock g [.ref tb, .int (nI i0), .int (nI og)] H0 (ftA (fun q9 => tb ≤ q9 ∧ q9 < tb + 9) H0.size) (fun v H1 => v = some (.int (edV (endS rest (w1, h1, c1) p1))) ∧ ∃ (fi2 : Nat → Int32), ∃ (la2 : Nat → Int32), ∃ (nx2 : Nat → Int32), ∃ (di2 : Nat → Int32), ∃ (wd2 : Nat → Int32), ∃ (ht2 : Nat → Int32), ∃ (oc2 : Int32), ∃ (wh2 : Int32), TxAt g tb tx ln wd2 ht2 fi2 la2 nx2 di2 op oc2 wh2 H1 ∧ EndC tc fi2 la2 nx2 di2 wd2 ht2 op (i0 + 1) oc2 wh2 (endS rest (w1, h1, c1) p1)) := by
  refine Ct.of (by decide) (fun _ h => Or.inr h) (Nat.le_of_ble_eq_true rfl) ?_
  intro p e s m below meth c ls hB hin hS hH hl
  have hx := hB.x
  have hb := hB.b
  have hl : lv_has ls 4 [(0, .ref tb), (1, .int (nI i0)), (2, .int (nI og))] := hl
  obtain ⟨a1, a2, a3⟩ := hO
  have a4 := a2
  obtain ⟨o1, o2, o3, o4, o5, o6⟩ := a4
  dsimp only at a1 o1 o2 o3 o4 o5 o6
  have hp60 : p1 < 60 := by omega
  have htp := htc p1 (by omega)
  rw [o1] at htp
  refine lv_aload_n hx hb dX9_closeBlock_0 rfl (lv_at hl 0 rfl) ?_
  refine cl_X9_95 (As := []) (rest := []) hB (c_X9_innermost l g H0 tb tx ln wd ht fi la nx di op oc wh rest.length p1 hT (hoc) (by omega) (a1)) hT.1 rfl hl.1 (Nat.le_of_ble_eq_true rfl) dX9_closeBlock_1 ⟨Nat.le_of_ble_eq_true rfl, Nat.le_of_ble_eq_true rfl⟩ ⟨Nat.le_of_ble_eq_true rfl, Nat.le_of_ble_eq_true rfl⟩ hS (by have hz9 := hS.1; rintro q (h | h) <;> first | exact Or.inr (by omega) | exact h.elim | exact Or.inl h | (simp only [ftA] at h ⊢; omega)) (fun v H1 locs hpo hfr hS => ?_)
  obtain ⟨rfl, rfl⟩ := hpo
  refine W.widen (k := 0) (n := 0) (Nat.le_of_ble_eq_true rfl) (Nat.le_of_ble_eq_true rfl) ?_
  refine lv_istore_n (lv' := [(3, .int (nI p1)), (0, .ref tb), (1, .int (nI i0)), (2, .int (nI og))]) hx hb dX9_closeBlock_4 rfl hl (by decide) rfl (fun ls hl => ?_)
  refine lv_iload_n hx hb dX9_closeBlock_5 rfl (lv_at hl 0 rfl) ?_
  refine lv_bipush (v := (-9)) hx hb dX9_closeBlock_6 (by decide) ?_
  refine lv_icmp_eq (tgt := 36) hx hb dX9_closeBlock_8 (by decide) (fun h => absurd h (nI_ne9 hp60)) (fun h_8 => ?_)
  refine lv_aload_n hx hb dX9_closeBlock_11 rfl (lv_at hl 1 rfl) ?_
  refine gf_X9_9 hB hT.1 rfl dX9_closeBlock_12 ?_
  refine lv_iload_n hx hb dX9_closeBlock_15 rfl (lv_at hl 0 rfl) ?_
  refine cl_X9_56 (As := [.ref (tb + 1), .int (nI p1)]) (rest := []) hB (c_X6_at l g H0 (tb + 1) 60 tx p1 hT.a_tx (hp60) (by first | assumption | omega)) rfl hl.1 (Nat.le_of_ble_eq_true rfl) dX9_closeBlock_16 ⟨Nat.le_of_ble_eq_true rfl, Nat.le_of_ble_eq_true rfl⟩ ⟨Nat.le_of_ble_eq_true rfl, Nat.le_of_ble_eq_true rfl⟩ hS (by have hz9 := hS.1; rintro q (h | h) <;> first | exact Or.inr (by omega) | exact h.elim | exact Or.inl h | (simp only [ftA] at h ⊢; omega)) (fun v H1 locs hpo hfr hS => ?_)
  obtain ⟨rfl, rfl⟩ := hpo
  refine W.widen (k := 0) (n := 0) (Nat.le_of_ble_eq_true rfl) (Nat.le_of_ble_eq_true rfl) ?_
  refine mh_top (y := .int (nI s1)) (by rw [htp.1]) ?_
  refine lv_iload_n hx hb dX9_closeBlock_19 rfl (lv_at hl 3 rfl) ?_
  refine mn_icmp_ne (tgt := 36) hB dX9_closeBlock_20 (by decide) (by omega) (by omega) (fun h => by exfalso; omega) (fun h_20 => ?_)
  refine lv_aload_n hx hb dX9_closeBlock_23 rfl (lv_at hl 1 rfl) ?_
  refine gf_X9_21 hB hT.1 rfl dX9_closeBlock_24 ?_
  refine lv_iload_n hx hb dX9_closeBlock_27 rfl (lv_at hl 0 rfl) ?_
  refine cl_X9_56 (As := [.ref (tb + 4), .int (nI p1)]) (rest := []) hB (c_X6_at l g H0 (tb + 4) 60 fi p1 hT.a_fi (hp60) (by first | assumption | omega)) rfl hl.1 (Nat.le_of_ble_eq_true rfl) dX9_closeBlock_28 ⟨Nat.le_of_ble_eq_true rfl, Nat.le_of_ble_eq_true rfl⟩ ⟨Nat.le_of_ble_eq_true rfl, Nat.le_of_ble_eq_true rfl⟩ hS (by have hz9 := hS.1; rintro q (h | h) <;> first | exact Or.inr (by omega) | exact h.elim | exact Or.inl h | (simp only [ftA] at h ⊢; omega)) (fun v H1 locs hpo hfr hS => ?_)
  obtain ⟨rfl, rfl⟩ := hpo
  refine W.widen (k := 0) (n := 0) (Nat.le_of_ble_eq_true rfl) (Nat.le_of_ble_eq_true rfl) ?_
  refine mh_top (y := .int (nI f0)) (by rw [hf0]) ?_
  refine lv_bipush (v := (-9)) hx hb dX9_closeBlock_31 (by decide) ?_
  refine lv_icmp_ne (tgt := 38) hx hb dX9_closeBlock_33 (by decide) (fun h_33 => ?_) (fun h => absurd h (nI_ne9 hf6))
  refine lv_aload_n hx hb dX9_closeBlock_38 rfl (lv_at hl 1 rfl) ?_
  refine lv_dup hx hb dX9_closeBlock_39 rfl ?_
  refine gf_X9_49 hB hT.1 rfl dX9_closeBlock_40 ?_
  refine mh_top (y := .int (nI (rest.length + 1))) (by rw [hoc]) ?_
  refine lv_iconst (v := nI 1) hx hb dX9_closeBlock_43 (by decide) ?_
  refine mn_isub hB dX9_closeBlock_44 (by omega) ?_
  refine pf_X9_49 hB hT.1 (by first | exact Or.inl rfl | (simp only [ftA]; omega) | (simp [ftA]; omega)) hS rfl rfl (Nat.le_of_ble_eq_true rfl) dX9_closeBlock_45 (fun H locs hwr => ?_)
  obtain ⟨hT, hS⟩ := hT.w_oc hwr
  refine lv_aload_n hx hb dX9_closeBlock_48 rfl (lv_at hl 1 rfl) ?_
  refine lv_iload_n hx hb dX9_closeBlock_49 rfl (lv_at hl 0 rfl) ?_
  refine cl_X9_92 (As := [.int (nI p1)]) (rest := []) hB (c_X9_endBlock l g H tb tx ln wd ht fi la nx di op (nI ((rest.length + 1) - 1)) wh tc rest p1 (i0 + 1) w1 h1 c1 hT (htc) (by first | rfl | rw [Nat.add_sub_cancel]) (by omega) (a3) (hN.2) (hI.2) (a2.close hI.1 hw (Nat.le_succ _) (by omega)) (hN.1) (hwh)) hT.1 rfl hl.1 (Nat.le_of_ble_eq_true rfl) dX9_closeBlock_50 ⟨Nat.le_of_ble_eq_true rfl, Nat.le_of_ble_eq_true rfl⟩ ⟨Nat.le_of_ble_eq_true rfl, Nat.le_of_ble_eq_true rfl⟩ hS (by have hz9 := hS.1; rintro q (h | h) <;> first | exact Or.inr (by omega) | exact h.elim | exact Or.inl h | (simp only [ftA] at h ⊢; omega)) (fun v H1 locs hpo hfr hS => ?_)
  obtain ⟨rfl, fi2_1, la2_2, nx2_3, di2_4, wd2_5, ht2_6, oc2_7, wh2_8, hT, hEn⟩ := hpo
  generalize H1 = H at hfr hS hT hEn ⊢
  refine W.widen (k := 0) (n := 0) (Nat.le_of_ble_eq_true rfl) (Nat.le_of_ble_eq_true rfl) ?_
  refine mh_iret hB ⟨Nat.le_of_ble_eq_true rfl, Nat.le_of_ble_eq_true rfl⟩ hS dX9_closeBlock_53 ⟨?_, fi2_1, la2_2, nx2_3, di2_4, wd2_5, ht2_6, oc2_7, wh2_8, ?_, ?_⟩
  · rfl
  · exact hT
  · exact hEn
