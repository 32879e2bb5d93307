def rm_c_X11_fromOther : Room := { frames := 0, cells := 0, slots := 0, locals := 0 }
set_option maxRecDepth 100000 in
set_option maxHeartbeats 400000 in
theorem c_X11_fromOther (l : Launch) (g : GG) (H0 : Heap) (r : Nat) (zq : Nat → Int32) (zsp : Nat → Int32) (zrm : Nat → Int32) (zst : Int32) (zsl : Nat → Int32) (zsv : Nat → Int32) (ztx : Nat → Int32) (zln : Int32) (zth : Int32) (zsg : Nat → Int32) (zbg : Nat → Int32) (zwd : Nat → Int32) (zhg : Nat → Int32) (zin : Nat → Int32) (zop : Int32) (zbe : Int32) (zwi : Int32) (zhi : Int32) (zbk : Nat → Int32) (zot : Nat → Int32) (zer : Int32) (zen : Int32) (zpo : Nat → Int32) (zpi : Int32) (zgr : Int32) (zsh : Nat → Int32) (zsn : Int32) (w0 : Nat) (h0 : Nat) (hR : ModAt g r zq zsp zrm zst zsl zsv ztx zln zth zsg zbg zwd zhg zin zop zbe zwi zhi zbk zot zer zen zpo zpi zgr zsh zsn H0) (hwh : w0 * h0 ≤ 256) : Ct l yX11_fromOther cX11_fromOther 4 none rm_c_X11_fromOther g [.ref r, .int (nI w0), .int (nI h0)] H0 (ftA (fun q => r ≤ q ∧ q < r + 16) H0.size) (fun v H1 => v = none ∧ ModAt g r zq zsp zrm zst zsl zsv ztx zln zth zsg zbg zwd zhg zin zop zbe (nI w0) (nI h0) (lowOf zot zbk (w0 * h0)) zot zer zen zpo zpi zgr zsh zsn H1) := by
  refine Ct.of (by decide) (fun _ h => Or.inr h) (Nat.le_of_ble_eq_true rfl) ?_
  intro p e s m below meth c ls hB hin hS hH hl
  have hx := hB.x
  have hb := hB.b
  have hl : lv_has ls 4 [(0, .ref r), (1, .int (nI w0)), (2, .int (nI h0))] := hl
  refine lv_aload_n hx hb dX11_fromOther_0 rfl (lv_at hl 0 rfl) ?_
  refine lv_iload_n hx hb dX11_fromOther_1 rfl (lv_at hl 1 rfl) ?_
  refine pf_X11_90 hB hR.o (by first | exact Or.inl rfl | (simp only [ftA]; omega) | (simp [ftA]; omega)) hS rfl rfl (Nat.le_of_ble_eq_true rfl) dX11_fromOther_2 (fun H locs hwr => ?_)
  obtain ⟨hR, hS⟩ := hR.w_zwi hwr
  refine lv_aload_n hx hb dX11_fromOther_5 rfl (lv_at hl 0 rfl) ?_
  refine lv_iload_n hx hb dX11_fromOther_6 rfl (lv_at hl 2 rfl) ?_
  refine pf_X11_93 hB hR.o (by first | exact Or.inl rfl | (simp only [ftA]; omega) | (simp [ftA]; omega)) hS rfl rfl (Nat.le_of_ble_eq_true rfl) dX11_fromOther_7 (fun H locs hwr => ?_)
  obtain ⟨hR, hS⟩ := hR.w_zhi hwr
  refine lv_iconst (v := nI 0) hx hb dX11_fromOther_10 (by decide) ?_
  refine lv_istore_n (lv' := [(3, .int (nI 0)), (0, .ref r), (1, .int (nI w0)), (2, .int (nI h0))]) hx hb dX11_fromOther_11 rfl hl (by decide) rfl (fun ls hl => ?_)
  refine mh_loop (σ := Nat) (fun xx9 H locs ls => match xx9 with | i9 => i9 ≤ w0 * h0 ∧ ModAt g r zq zsp zrm zst zsl zsv ztx zln zth zsg zbg zwd zhg zin zop zbe (nI w0) (nI h0) (lowOf zot zbk i9) zot zer zen zpo zpi zgr zsh zsn H ∧ va_S (ftA (fun q => r ≤ q ∧ q < r + 16) H0.size) H0 H locs ∧ lv_has ls 4 [(0, .ref r), (1, .int (nI w0)), (2, .int (nI h0)), (3, .int (nI i9))]) (fun xx9 => match xx9 with | i9 => w0 * h0 - i9) ?_ 0 ⟨(by omega), (by rw [lowOf_0]; exact hR), hS, lv_sub hl [1, 2, 3, 0] rfl⟩
  rintro i9 H locs ls ⟨hi9, hR, hS, hl⟩ ih
  have ih12 := ih
  refine lv_iload_n hx hb dX11_fromOther_12 rfl (lv_at hl 3 rfl) ?_
  refine lv_iload_n hx hb dX11_fromOther_13 rfl (lv_at hl 1 rfl) ?_
  refine lv_iload_n hx hb dX11_fromOther_14 rfl (lv_at hl 2 rfl) ?_
  refine mn_imul hB dX11_fromOther_15 ?_
  refine mn_icmp_ge (tgt := 37) hB dX11_fromOther_16 (by decide) (by omega) (by omega) (fun h_16 => ?_) (fun h_16 => ?_)
  · skip
    have hin9 : i9 = w0 * h0 := by omega
    subst hin9
    refine mh_vret hB ⟨Nat.le_of_ble_eq_true rfl, Nat.le_of_ble_eq_true rfl⟩ hS dX11_fromOther_37 ⟨?_, ?_⟩
    · rfl
    · exact hR
  · skip
    refine lv_aload_n hx hb dX11_fromOther_19 rfl (lv_at hl 0 rfl) ?_
    refine gf_X11_44 hB hR.o rfl dX11_fromOther_20 ?_
    refine lv_iload_n hx hb dX11_fromOther_23 rfl (lv_at hl 3 rfl) ?_
    refine lv_aload_n hx hb dX11_fromOther_24 rfl (lv_at hl 0 rfl) ?_
    refine gf_X11_47 hB hR.o rfl dX11_fromOther_25 ?_
    refine lv_iload_n hx hb dX11_fromOther_28 rfl (lv_at hl 3 rfl) ?_
    refine mn_iald hB hR.a_zot (by omega) (by omega) dX11_fromOther_29 ?_
    refine mn_iast hB hR.a_zbk (by first | exact Or.inl rfl | (simp only [ftA]; omega) | (simp [ftA]; omega)) hS (by omega) (by omega) dX11_fromOther_30 (fun H locs hwr => ?_)
    obtain ⟨hR, hS⟩ := hR.w_zbk hwr
    refine lv_iinc (v := nI (i9 + 1)) (lv' := [(3, .int (nI (i9 + 1))), (0, .ref r), (1, .int (nI w0)), (2, .int (nI h0))]) hx hb dX11_fromOther_31 hl (k := 3) rfl (nI_1 _) (by decide) rfl (fun ls hl => ?_)
    refine lv_goto (tgt := 12) hx hb dX11_fromOther_34 (by decide) ?_
    refine ih12 (i9 + 1) _ _ _ ⟨(by omega), (by rw [← lowOf_up]; exact hR), hS, lv_sub hl [1, 2, 3, 0] rfl⟩ (by dsimp only; omega)

def rm_c_X11_takes : Room := { frames := 2, cells := 0, slots := 0, locals := 43 }
set_option maxRecDepth 100000 in
set_option maxHeartbeats 400000 in
theorem c_X11_takes (l : Launch) (g : GG) (H0 : Heap) (r : Nat) (zq : Nat → Int32) (zsp : Nat → Int32) (zrm : Nat → Int32) (zst : Int32) (zsl : Nat → Int32) (zsv : Nat → Int32) (ztx : Nat → Int32) (zln : Int32) (zth : Int32) (zsg : Nat → Int32) (zbg : Nat → Int32) (zwd : Nat → Int32) (zhg : Nat → Int32) (zin : Nat → Int32) (zop : Int32) (zbe : Int32) (zwi : Int32) (zhi : Int32) (zbk : Nat → Int32) (zot : Nat → Int32) (zer : Int32) (zen : Int32) (zpo : Nat → Int32) (zpi : Int32) (zgr : Int32) (zsh : Nat → Int32) (zsn : Int32) (f : Nat) (hR : ModAt g r zq zsp zrm zst zsl zsv ztx zln zth zsg zbg zwd zhg zin zop zbe zwi zhi zbk zot zer zen zpo zpi zgr zsh zsn H0) (hf : f < 3) (hF : WFf zq f) : Ct l yX11_takes cX11_takes 3 none rm_c_X11_takes g [.ref r, .int (nI f)] H0 (ftA (fun q => r ≤ q ∧ q < r + 16) H0.size) (fun v H1 => v = none ∧ ModAt g r zq zsp zrm zst zsl zsv ztx zln zth zsg zbg zwd zhg zin zop zbe (nI (wdF zq f)) (nI (htF zq f)) (lowOf (fun j9 => nI (clF zq f j9)) zbk (szF zq f)) zot zer zen zpo zpi zgr zsh zsn H1) := by
  refine Ct.of (by decide) (fun _ h => Or.inr h) (Nat.le_of_ble_eq_true rfl) ?_
  intro p e s m below meth c ls hB hin hS hH hl
  have hx := hB.x
  have hb := hB.b
  have hl : lv_has ls 3 [(0, .ref r), (1, .int (nI f))] := hl
  have hsz := WF.sz hF
  refine lv_aload_n hx hb dX11_takes_0 rfl (lv_at hl 0 rfl) ?_
  refine lv_aload_n hx hb dX11_takes_1 rfl (lv_at hl 0 rfl) ?_
  refine gf_X11_7 hB hR.o rfl dX11_takes_2 ?_
  refine lv_iload_n hx hb dX11_takes_5 rfl (lv_at hl 1 rfl) ?_
  refine lv_iconst (v := nI 0) hx hb dX11_takes_6 (by decide) ?_
  refine cl_X11_71 (As := [.int (nI f), .int (nI 0)]) (rest := [.ref (r + 1), .ref r]) hB (c_X11_at l g H0 f 0) rfl hl.1 (Nat.le_of_ble_eq_true rfl) dX11_takes_7 ⟨Nat.le_of_ble_eq_true rfl, Nat.le_of_ble_eq_true rfl⟩ ⟨Nat.le_of_ble_eq_true rfl, Nat.le_of_ble_eq_true rfl⟩ hS (by have hz9 := hS.1; rintro q (h | h) <;> first | exact Or.inr (by omega) | exact h.elim | exact Or.inl h | (simp only [ftA] at h ⊢; omega)) (fun v H1 locs hpo hfr hS => ?_)
  obtain ⟨rfl, rfl⟩ := hpo
  refine W.widen (k := 0) (n := 0) (Nat.le_of_ble_eq_true rfl) (Nat.le_of_ble_eq_true rfl) ?_
  refine mn_iald hB hR.a_zq (by omega) (by omega) dX11_takes_10 ?_
  refine mh_top (y := .int (nI (wdF zq f))) (by rw [hF.w]) ?_
  refine pf_X11_90 hB hR.o (by first | exact Or.inl rfl | (simp only [ftA]; omega) | (simp [ftA]; omega)) hS rfl rfl (Nat.le_of_ble_eq_true rfl) dX11_takes_11 (fun H locs hwr => ?_)
  obtain ⟨hR, hS⟩ := hR.w_zwi hwr
  refine lv_aload_n hx hb dX11_takes_14 rfl (lv_at hl 0 rfl) ?_
  refine lv_aload_n hx hb dX11_takes_15 rfl (lv_at hl 0 rfl) ?_
  refine gf_X11_7 hB hR.o rfl dX11_takes_16 ?_
  refine lv_iload_n hx hb dX11_takes_19 rfl (lv_at hl 1 rfl) ?_
  refine lv_iconst (v := nI 1) hx hb dX11_takes_20 (by decide) ?_
  refine cl_X11_71 (As := [.int (nI f), .int (nI 1)]) (rest := [.ref (r + 1), .ref r]) hB (c_X11_at l g H f 1) rfl hl.1 (Nat.le_of_ble_eq_true rfl) dX11_takes_21 ⟨Nat.le_of_ble_eq_true rfl, Nat.le_of_ble_eq_true rfl⟩ ⟨Nat.le_of_ble_eq_true rfl, Nat.le_of_ble_eq_true rfl⟩ hS (by have hz9 := hS.1; rintro q (h | h) <;> first | exact Or.inr (by omega) | exact h.elim | exact Or.inl h | (simp only [ftA] at h ⊢; omega)) (fun v H1 locs hpo hfr hS => ?_)
  obtain ⟨rfl, rfl⟩ := hpo
  refine W.widen (k := 0) (n := 0) (Nat.le_of_ble_eq_true rfl) (Nat.le_of_ble_eq_true rfl) ?_
  refine mn_iald hB hR.a_zq (by omega) (by omega) dX11_takes_24 ?_
  refine mh_top (y := .int (nI (htF zq f))) (by rw [hF.h]) ?_
  refine pf_X11_93 hB hR.o (by first | exact Or.inl rfl | (simp only [ftA]; omega) | (simp [ftA]; omega)) hS rfl rfl (Nat.le_of_ble_eq_true rfl) dX11_takes_25 (fun H locs hwr => ?_)
  obtain ⟨hR, hS⟩ := hR.w_zhi hwr
  refine lv_iconst (v := nI 0) hx hb dX11_takes_28 (by decide) ?_
  refine lv_istore_n (lv' := [(2, .int (nI 0)), (0, .ref r), (1, .int (nI f))]) hx hb dX11_takes_29 rfl hl (by decide) rfl (fun ls hl => ?_)
  refine mh_loop (σ := Nat) (fun xx9 H locs ls => match xx9 with | i9 => i9 ≤ szF zq f ∧ ModAt g r zq zsp zrm zst zsl zsv ztx zln zth zsg zbg zwd zhg zin zop zbe (nI (wdF zq f)) (nI (htF zq f)) (lowOf (fun j9 => nI (clF zq f j9)) zbk i9) zot zer zen zpo zpi zgr zsh zsn H ∧ va_S (ftA (fun q => r ≤ q ∧ q < r + 16) H0.size) H0 H locs ∧ lv_has ls 3 [(0, .ref r), (1, .int (nI f)), (2, .int (nI i9))]) (fun xx9 => match xx9 with | i9 => szF zq f - i9) ?_ 0 ⟨(by omega), (by rw [lowOf_0]; exact hR), hS, lv_sub hl [1, 2, 0] rfl⟩
  rintro i9 H locs ls ⟨hi9, hR, hS, hl⟩ ih
  have ih30 := ih
  refine lv_iload_n hx hb dX11_takes_30 rfl (lv_at hl 2 rfl) ?_
  refine lv_aload_n hx hb dX11_takes_31 rfl (lv_at hl 0 rfl) ?_
  refine gf_X11_90 hB hR.o rfl dX11_takes_32 ?_
  refine lv_aload_n hx hb dX11_takes_35 rfl (lv_at hl 0 rfl) ?_
  refine gf_X11_93 hB hR.o rfl dX11_takes_36 ?_
  refine mn_imul hB dX11_takes_39 ?_
  refine mh_top (y := .int (nI (szF zq f))) (rfl) ?_
  refine mn_icmp_ge (tgt := 61) hB dX11_takes_40 (by decide) (by omega) (by omega) (fun h_40 => ?_) (fun h_40 => ?_)
  · skip
    have hin9 : i9 = szF zq f := by omega
    subst hin9
    refine mh_vret hB ⟨Nat.le_of_ble_eq_true rfl, Nat.le_of_ble_eq_true rfl⟩ hS dX11_takes_61 ⟨?_, ?_⟩
    · rfl
    · exact hR
  · skip
    refine lv_aload_n hx hb dX11_takes_43 rfl (lv_at hl 0 rfl) ?_
    refine gf_X11_44 hB hR.o rfl dX11_takes_44 ?_
    refine lv_iload_n hx hb dX11_takes_47 rfl (lv_at hl 2 rfl) ?_
    refine lv_aload_n hx hb dX11_takes_48 rfl (lv_at hl 0 rfl) ?_
    refine lv_iload_n hx hb dX11_takes_49 rfl (lv_at hl 1 rfl) ?_
    refine lv_iload_n hx hb dX11_takes_50 rfl (lv_at hl 2 rfl) ?_
    refine cl_X11_150 (As := [.int (nI f), .int (nI i9)]) (rest := [.int (nI i9), .ref (r + 12)]) hB (c_X11_colourAt l g H r zq zsp zrm zst zsl zsv ztx zln zth zsg zbg zwd zhg zin zop zbe (nI (wdF zq f)) (nI (htF zq f)) (lowOf (fun j9 => nI (clF zq f j9)) zbk i9) zot zer zen zpo zpi zgr zsh zsn f i9 hR (by omega) (by omega) (by omega)) hR.o rfl hl.1 (Nat.le_of_ble_eq_true rfl) dX11_takes_51 ⟨Nat.le_of_ble_eq_true rfl, Nat.le_of_ble_eq_true rfl⟩ ⟨Nat.le_of_ble_eq_true rfl, Nat.le_of_ble_eq_true rfl⟩ hS (by have hz9 := hS.1; rintro q (h | h) <;> first | exact Or.inr (by omega) | exact h.elim | exact Or.inl h | (simp only [ftA] at h ⊢; omega)) (fun v H1 locs hpo hfr hS => ?_)
    obtain ⟨rfl, rfl⟩ := hpo
    refine W.widen (k := 0) (n := 0) (Nat.le_of_ble_eq_true rfl) (Nat.le_of_ble_eq_true rfl) ?_
    refine mn_iast hB hR.a_zbk (by first | exact Or.inl rfl | (simp only [ftA]; omega) | (simp [ftA]; omega)) hS (by omega) (by omega) dX11_takes_54 (fun H locs hwr => ?_)
    obtain ⟨hR, hS⟩ := hR.w_zbk hwr
    refine lv_iinc (v := nI (i9 + 1)) (lv' := [(2, .int (nI (i9 + 1))), (0, .ref r), (1, .int (nI f))]) hx hb dX11_takes_55 hl (k := 2) rfl (nI_1 _) (by decide) rfl (fun ls hl => ?_)
    refine lv_goto (tgt := 30) hx hb dX11_takes_58 (by decide) ?_
    refine ih30 (i9 + 1) _ _ _ ⟨(by omega), (by rw [← lowOf_up]; exact hR), hS, lv_sub hl [1, 2, 0] rfl⟩ (by dsimp only; omega)

def rm_c_X11_isBlock : Room := { frames := 2, cells := 0, slots := 0, locals := 43 }
set_option maxRecDepth 100000 in
set_option maxHeartbeats 400000 in
theorem c_X11_isBlock (l : Launch) (g : GG) (H0 : Heap) (r : Nat) (zq : Nat → Int32) (zsp : Nat → Int32) (zrm : Nat → Int32) (zst : Int32) (zsl : Nat → Int32) (zsv : Nat → Int32) (ztx : Nat → Int32) (zln : Int32) (zth : Int32) (zsg : Nat → Int32) (zbg : Nat → Int32) (zwd : Nat → Int32) (zhg : Nat → Int32) (zin : Nat → Int32) (zop : Int32) (zbe : Int32) (zbk : Nat → Int32) (zot : Nat → Int32) (zer : Int32) (zen : Int32) (zpo : Nat → Int32) (zpi : Int32) (zgr : Int32) (zsh : Nat → Int32) (zsn : Int32) (w0 : Nat) (h0 : Nat) (cb : Nat → Nat) (f : Nat) (hR : ModAt g r zq zsp zrm zst zsl zsv ztx zln zth zsg zbg zwd zhg zin zop zbe (nI w0) (nI h0) zbk zot zer zen zpo zpi zgr zsh zsn H0) (hw2 : w0 ≤ 16) (hh2 : h0 ≤ 16) (hbk : ∀ k, k < w0 * h0 → zbk k = nI (cb k) ∧ cb k < 6) (hf : f < 3) (hF : WFf zq f) : Ct l yX11_isBlock cX11_isBlock 4 (some .boolean) rm_c_X11_isBlock g [.ref r, .int (nI f)] H0 (ftA (fun _ => False) H0.size) (fun v H1 => v = some (.int (bI (decide (w0 = wdF zq f ∧ h0 = htF zq f) && eqB cb (clF zq f) (w0 * h0)))) ∧ H0 = H1) := by
  refine Ct.of (by decide) (fun _ h => Or.inr h) (Nat.le_of_ble_eq_true rfl) ?_
  intro p e s m below meth c ls hB hin hS hH hl
  have hx := hB.x
  have hb := hB.b
  have hl : lv_has ls 4 [(0, .ref r), (1, .int (nI f))] := hl
  have hwh := sz256 hw2 hh2
  have hw16 := hF.w16
  have hh16 := hF.h16
  refine lv_aload_n hx hb dX11_isBlock_0 rfl (lv_at hl 0 rfl) ?_
  refine gf_X11_90 hB hR.o rfl dX11_isBlock_1 ?_
  refine lv_aload_n hx hb dX11_isBlock_4 rfl (lv_at hl 0 rfl) ?_
  refine gf_X11_7 hB hR.o rfl dX11_isBlock_5 ?_
  refine lv_iload_n hx hb dX11_isBlock_8 rfl (lv_at hl 1 rfl) ?_
  refine lv_iconst (v := nI 0) hx hb dX11_isBlock_9 (by decide) ?_
  refine cl_X11_71 (As := [.int (nI f), .int (nI 0)]) (rest := [.ref (r + 1), .int (nI w0)]) hB (c_X11_at l g H0 f 0) rfl hl.1 (Nat.le_of_ble_eq_true rfl) dX11_isBlock_10 ⟨Nat.le_of_ble_eq_true rfl, Nat.le_of_ble_eq_true rfl⟩ ⟨Nat.le_of_ble_eq_true rfl, Nat.le_of_ble_eq_true rfl⟩ hS (by have hz9 := hS.1; rintro q (h | h) <;> first | exact Or.inr (by omega) | exact h.elim | exact Or.inl h | (simp only [ftA] at h ⊢; omega)) (fun v H1 locs hpo hfr hS => ?_)
  obtain ⟨rfl, rfl⟩ := hpo
  refine W.widen (k := 0) (n := 0) (Nat.le_of_ble_eq_true rfl) (Nat.le_of_ble_eq_true rfl) ?_
  refine mn_iald hB hR.a_zq (by omega) (by omega) dX11_isBlock_13 ?_
  refine mh_top (y := .int (nI (wdF zq f))) (by rw [hF.w]) ?_
  refine mn_icmp_ne (tgt := 38) hB dX11_isBlock_14 (by decide) (by omega) (by omega) (fun h_14 => ?_) (fun h_14 => ?_)
  · skip
    refine lv_iconst (v := nI 0) hx hb dX11_isBlock_38 (by decide) ?_
    refine mh_top (y := .int (bI (decide (w0 = wdF zq f ∧ h0 = htF zq f)))) (by first | (rw [decide_eq_true (by omega)]; rfl) | (rw [decide_eq_false (by omega)]; rfl)) ?_
    refine lv_istore_n (lv' := [(2, .int (bI (decide (w0 = wdF zq f ∧ h0 = htF zq f)))), (0, .ref r), (1, .int (nI f))]) hx hb dX11_isBlock_39 rfl hl (by decide) rfl (fun ls hl => ?_)
    refine lv_iconst (v := nI 0) hx hb dX11_isBlock_40 (by decide) ?_
    refine lv_istore_n (lv' := [(3, .int (nI 0)), (2, .int (bI (decide (w0 = wdF zq f ∧ h0 = htF zq f)))), (0, .ref r), (1, .int (nI f))]) hx hb dX11_isBlock_41 rfl hl (by decide) rfl (fun ls hl => ?_)
    refine mh_loopR (σ := Nat × Bool) (fun xx9 locs ls => match xx9 with | (k9, go) => k9 ≤ w0 * h0 ∧ go = (decide (w0 = wdF zq f ∧ h0 = htF zq f) && eqB cb (clF zq f) k9) ∧ va_S (ftA (fun _ => False) H0.size) H0 H0 locs ∧ lv_has ls 4 [(0, .ref r), (1, .int (nI f)), (2, .int (bI go)), (3, .int (nI k9))]) (fun xx9 => match xx9 with | (k9, go) => w0 * h0 - k9) ?_ (0, decide (w0 = wdF zq f ∧ h0 = htF zq f)) ⟨(by omega), (by simp [eqB]), hS, lv_sub hl [2, 3, 1, 0] rfl⟩
    rintro ⟨k9, go⟩ locs ls ⟨hk9, hgo, hS, hl⟩ ih
    have ih42 := ih
    refine lv_iload_n hx hb dX11_isBlock_42 rfl (lv_at hl 3 rfl) ?_
    refine lv_aload_n hx hb dX11_isBlock_43 rfl (lv_at hl 0 rfl) ?_
    refine gf_X11_90 hB hR.o rfl dX11_isBlock_44 ?_
    refine lv_aload_n hx hb dX11_isBlock_47 rfl (lv_at hl 0 rfl) ?_
    refine gf_X11_93 hB hR.o rfl dX11_isBlock_48 ?_
    refine mn_imul hB dX11_isBlock_51 ?_
    refine mn_icmp_ge (tgt := 86) hB dX11_isBlock_52 (by decide) (by omega) (by omega) (fun h_52 => ?_) (fun h_52 => ?_)
    · skip
      refine lv_iload_n hx hb dX11_isBlock_86 rfl (lv_at hl 2 rfl) ?_
      refine mh_zret hB ⟨Nat.le_of_ble_eq_true rfl, Nat.le_of_ble_eq_true rfl⟩ hS dX11_isBlock_87 (by cases go <;> rfl) ⟨?_, rfl⟩
      · have hfin : go = (decide (w0 = wdF zq f ∧ h0 = htF zq f) && eqB cb (clF zq f) (w0 * h0)) := by
          first
          | (rw [h_56] at hgo; rw [h_56]; cases hD : decide (w0 = wdF zq f ∧ h0 = htF zq f) with
             | false => rfl
             | true => rw [hD, Bool.true_and] at hgo; rw [eqB_f hgo.symm (by omega)]; rfl)
          | (have hin : k9 = w0 * h0 := by omega
             rw [hin] at hgo; exact hgo)
        rw [hfin]
    · skip
      refine lv_iload_n hx hb dX11_isBlock_55 rfl (lv_at hl 2 rfl) ?_
      refine mb_if_eq (tgt := 86) hB dX11_isBlock_56 (by decide) (fun h_56 => ?_) (fun h_56 => ?_)
      · skip
        refine lv_iload_n hx hb dX11_isBlock_86 rfl (lv_at hl 2 rfl) ?_
        refine mh_zret hB ⟨Nat.le_of_ble_eq_true rfl, Nat.le_of_ble_eq_true rfl⟩ hS dX11_isBlock_87 (by cases go <;> rfl) ⟨?_, rfl⟩
        · have hfin : go = (decide (w0 = wdF zq f ∧ h0 = htF zq f) && eqB cb (clF zq f) (w0 * h0)) := by
            first
            | (rw [h_56] at hgo; rw [h_56]; cases hD : decide (w0 = wdF zq f ∧ h0 = htF zq f) with
               | false => rfl
               | true => rw [hD, Bool.true_and] at hgo; rw [eqB_f hgo.symm (by omega)]; rfl)
            | (have hin : k9 = w0 * h0 := by omega
               rw [hin] at hgo; exact hgo)
          rw [hfin]
      · skip
        refine lv_aload_n hx hb dX11_isBlock_59 rfl (lv_at hl 0 rfl) ?_
        refine gf_X11_44 hB hR.o rfl dX11_isBlock_60 ?_
        refine lv_iload_n hx hb dX11_isBlock_63 rfl (lv_at hl 3 rfl) ?_
        refine mn_iald hB hR.a_zbk (by omega) (by omega) dX11_isBlock_64 ?_
        refine mh_top (y := .int (nI (cb k9))) (by rw [(hbk k9 (by omega)).1]) ?_
        have hc1 := (hbk k9 (by omega)).2
        have hc2 := hF.c6 (k := k9) (by omega)
        refine lv_aload_n hx hb dX11_isBlock_65 rfl (lv_at hl 0 rfl) ?_
        refine lv_iload_n hx hb dX11_isBlock_66 rfl (lv_at hl 1 rfl) ?_
        refine lv_iload_n hx hb dX11_isBlock_67 rfl (lv_at hl 3 rfl) ?_
        refine cl_X11_150 (As := [.int (nI f), .int (nI k9)]) (rest := [.int (nI (cb k9))]) hB (c_X11_colourAt l g H0 r zq zsp zrm zst zsl zsv ztx zln zth zsg zbg zwd zhg zin zop zbe (nI w0) (nI h0) zbk zot zer zen zpo zpi zgr zsh zsn f k9 hR (by omega) (by omega) (by omega)) hR.o rfl hl.1 (Nat.le_of_ble_eq_true rfl) dX11_isBlock_68 ⟨Nat.le_of_ble_eq_true rfl, Nat.le_of_ble_eq_true rfl⟩ ⟨Nat.le_of_ble_eq_true rfl, Nat.le_of_ble_eq_true rfl⟩ hS (by have hz9 := hS.1; rintro q (h | h) <;> first | exact Or.inr (by omega) | exact h.elim | exact Or.inl h | (simp only [ftA] at h ⊢; omega)) (fun v H1 locs hpo hfr hS => ?_)
        obtain ⟨rfl, rfl⟩ := hpo
        refine W.widen (k := 0) (n := 0) (Nat.le_of_ble_eq_true rfl) (Nat.le_of_ble_eq_true rfl) ?_
        refine mn_icmp_ne (tgt := 78) hB dX11_isBlock_71 (by decide) (by omega) (by omega) (fun h_71 => ?_) (fun h_71 => ?_)
        · skip
          refine lv_iconst (v := nI 0) hx hb dX11_isBlock_78 (by decide) ?_
          refine mh_top (y := .int (bI false)) (rfl) ?_
          refine lv_istore_n (lv' := [(2, .int (bI false)), (0, .ref r), (1, .int (nI f)), (3, .int (nI k9))]) hx hb dX11_isBlock_79 rfl hl (by decide) rfl (fun ls hl => ?_)
          refine lv_iinc (v := nI (k9 + 1)) (lv' := [(3, .int (nI (k9 + 1))), (2, .int (bI false)), (0, .ref r), (1, .int (nI f))]) hx hb dX11_isBlock_80 hl (k := 3) rfl (nI_1 _) (by decide) rfl (fun ls hl => ?_)
          refine lv_goto (tgt := 42) hx hb dX11_isBlock_83 (by decide) ?_
          refine ih42 (k9 + 1, false) _ _ ⟨(by omega), ?_, hS, lv_sub hl [2, 3, 1, 0] rfl⟩ (by dsimp only; omega)
          · rw [h_56] at hgo; show _ = (decide (w0 = wdF zq f ∧ h0 = htF zq f) && (eqB cb (clF zq f) k9 && _)); rw [← Bool.and_assoc, ← hgo]; first | (rw [decide_eq_true h_71]; rfl) | (rw [decide_eq_false h_71]; rfl)
        · skip
          refine lv_iconst (v := nI 1) hx hb dX11_isBlock_74 (by decide) ?_
          refine mh_top (y := .int (bI true)) (rfl) ?_
          refine lv_goto (tgt := 79) hx hb dX11_isBlock_75 (by decide) ?_
          refine lv_istore_n (lv' := [(2, .int (bI true)), (0, .ref r), (1, .int (nI f)), (3, .int (nI k9))]) hx hb dX11_isBlock_79 rfl hl (by decide) rfl (fun ls hl => ?_)
          refine lv_iinc (v := nI (k9 + 1)) (lv' := [(3, .int (nI (k9 + 1))), (2, .int (bI true)), (0, .ref r), (1, .int (nI f))]) hx hb dX11_isBlock_80 hl (k := 3) rfl (nI_1 _) (by decide) rfl (fun ls hl => ?_)
          refine lv_goto (tgt := 42) hx hb dX11_isBlock_83 (by decide) ?_
          refine ih42 (k9 + 1, true) _ _ ⟨(by omega), ?_, hS, lv_sub hl [2, 3, 1, 0] rfl⟩ (by dsimp only; omega)
          · rw [h_56] at hgo; show _ = (decide (w0 = wdF zq f ∧ h0 = htF zq f) && (eqB cb (clF zq f) k9 && _)); rw [← Bool.and_assoc, ← hgo]; first | (rw [decide_eq_true h_71]; rfl) | (rw [decide_eq_false h_71]; rfl)
  · skip
    refine lv_aload_n hx hb dX11_isBlock_17 rfl (lv_at hl 0 rfl) ?_
    refine gf_X11_93 hB hR.o rfl dX11_isBlock_18 ?_
    refine lv_aload_n hx hb dX11_isBlock_21 rfl (lv_at hl 0 rfl) ?_
    refine gf_X11_7 hB hR.o rfl dX11_isBlock_22 ?_
    refine lv_iload_n hx hb dX11_isBlock_25 rfl (lv_at hl 1 rfl) ?_
    refine lv_iconst (v := nI 1) hx hb dX11_isBlock_26 (by decide) ?_
    refine cl_X11_71 (As := [.int (nI f), .int (nI 1)]) (rest := [.ref (r + 1), .int (nI h0)]) hB (c_X11_at l g H0 f 1) rfl hl.1 (Nat.le_of_ble_eq_true rfl) dX11_isBlock_27 ⟨Nat.le_of_ble_eq_true rfl, Nat.le_of_ble_eq_true rfl⟩ ⟨Nat.le_of_ble_eq_true rfl, Nat.le_of_ble_eq_true rfl⟩ hS (by have hz9 := hS.1; rintro q (h | h) <;> first | exact Or.inr (by omega) | exact h.elim | exact Or.inl h | (simp only [ftA] at h ⊢; omega)) (fun v H1 locs hpo hfr hS => ?_)
    obtain ⟨rfl, rfl⟩ := hpo
    refine W.widen (k := 0) (n := 0) (Nat.le_of_ble_eq_true rfl) (Nat.le_of_ble_eq_true rfl) ?_
    refine mn_iald hB hR.a_zq (by omega) (by omega) dX11_isBlock_30 ?_
    refine mh_top (y := .int (nI (htF zq f))) (by rw [hF.h]) ?_
    refine mn_icmp_ne (tgt := 38) hB dX11_isBlock_31 (by decide) (by omega) (by omega) (fun h_31 => ?_) (fun h_31 => ?_)
    · skip
      refine lv_iconst (v := nI 0) hx hb dX11_isBlock_38 (by decide) ?_
      refine mh_top (y := .int (bI (decide (w0 = wdF zq f ∧ h0 = htF zq f)))) (by first | (rw [decide_eq_true (by omega)]; rfl) | (rw [decide_eq_false (by omega)]; rfl)) ?_
      refine lv_istore_n (lv' := [(2, .int (bI (decide (w0 = wdF zq f ∧ h0 = htF zq f)))), (0, .ref r), (1, .int (nI f))]) hx hb dX11_isBlock_39 rfl hl (by decide) rfl (fun ls hl => ?_)
      refine lv_iconst (v := nI 0) hx hb dX11_isBlock_40 (by decide) ?_
      refine lv_istore_n (lv' := [(3, .int (nI 0)), (2, .int (bI (decide (w0 = wdF zq f ∧ h0 = htF zq f)))), (0, .ref r), (1, .int (nI f))]) hx hb dX11_isBlock_41 rfl hl (by decide) rfl (fun ls hl => ?_)
      refine mh_loopR (σ := Nat × Bool) (fun xx9 locs ls => match xx9 with | (k9, go) => k9 ≤ w0 * h0 ∧ go = (decide (w0 = wdF zq f ∧ h0 = htF zq f) && eqB cb (clF zq f) k9) ∧ va_S (ftA (fun _ => False) H0.size) H0 H0 locs ∧ lv_has ls 4 [(0, .ref r), (1, .int (nI f)), (2, .int (bI go)), (3, .int (nI k9))]) (fun xx9 => match xx9 with | (k9, go) => w0 * h0 - k9) ?_ (0, decide (w0 = wdF zq f ∧ h0 = htF zq f)) ⟨(by omega), (by simp [eqB]), hS, lv_sub hl [2, 3, 1, 0] rfl⟩
      rintro ⟨k9, go⟩ locs ls ⟨hk9, hgo, hS, hl⟩ ih
      have ih42 := ih
      refine lv_iload_n hx hb dX11_isBlock_42 rfl (lv_at hl 3 rfl) ?_
      refine lv_aload_n hx hb dX11_isBlock_43 rfl (lv_at hl 0 rfl) ?_
      refine gf_X11_90 hB hR.o rfl dX11_isBlock_44 ?_
      refine lv_aload_n hx hb dX11_isBlock_47 rfl (lv_at hl 0 rfl) ?_
      refine gf_X11_93 hB hR.o rfl dX11_isBlock_48 ?_
      refine mn_imul hB dX11_isBlock_51 ?_
      refine mn_icmp_ge (tgt := 86) hB dX11_isBlock_52 (by decide) (by omega) (by omega) (fun h_52 => ?_) (fun h_52 => ?_)
      · skip
        refine lv_iload_n hx hb dX11_isBlock_86 rfl (lv_at hl 2 rfl) ?_
        refine mh_zret hB ⟨Nat.le_of_ble_eq_true rfl, Nat.le_of_ble_eq_true rfl⟩ hS dX11_isBlock_87 (by cases go <;> rfl) ⟨?_, rfl⟩
        · have hfin : go = (decide (w0 = wdF zq f ∧ h0 = htF zq f) && eqB cb (clF zq f) (w0 * h0)) := by
            first
            | (rw [h_56] at hgo; rw [h_56]; cases hD : decide (w0 = wdF zq f ∧ h0 = htF zq f) with
               | false => rfl
               | true => rw [hD, Bool.true_and] at hgo; rw [eqB_f hgo.symm (by omega)]; rfl)
            | (have hin : k9 = w0 * h0 := by omega
               rw [hin] at hgo; exact hgo)
          rw [hfin]
      · skip
        refine lv_iload_n hx hb dX11_isBlock_55 rfl (lv_at hl 2 rfl) ?_
        refine mb_if_eq (tgt := 86) hB dX11_isBlock_56 (by decide) (fun h_56 => ?_) (fun h_56 => ?_)
        · skip
          refine lv_iload_n hx hb dX11_isBlock_86 rfl (lv_at hl 2 rfl) ?_
          refine mh_zret hB ⟨Nat.le_of_ble_eq_true rfl, Nat.le_of_ble_eq_true rfl⟩ hS dX11_isBlock_87 (by cases go <;> rfl) ⟨?_, rfl⟩
          · have hfin : go = (decide (w0 = wdF zq f ∧ h0 = htF zq f) && eqB cb (clF zq f) (w0 * h0)) := by
              first
              | (rw [h_56] at hgo; rw [h_56]; cases hD : decide (w0 = wdF zq f ∧ h0 = htF zq f) with
                 | false => rfl
                 | true => rw [hD, Bool.true_and] at hgo; rw [eqB_f hgo.symm (by omega)]; rfl)
              | (have hin : k9 = w0 * h0 := by omega
                 rw [hin] at hgo; exact hgo)
            rw [hfin]
        · skip
          refine lv_aload_n hx hb dX11_isBlock_59 rfl (lv_at hl 0 rfl) ?_
          refine gf_X11_44 hB hR.o rfl dX11_isBlock_60 ?_
          refine lv_iload_n hx hb dX11_isBlock_63 rfl (lv_at hl 3 rfl) ?_
          refine mn_iald hB hR.a_zbk (by omega) (by omega) dX11_isBlock_64 ?_
          refine mh_top (y := .int (nI (cb k9))) (by rw [(hbk k9 (by omega)).1]) ?_
          have hc1 := (hbk k9 (by omega)).2
          have hc2 := hF.c6 (k := k9) (by omega)
          refine lv_aload_n hx hb dX11_isBlock_65 rfl (lv_at hl 0 rfl) ?_
          refine lv_iload_n hx hb dX11_isBlock_66 rfl (lv_at hl 1 rfl) ?_
          refine lv_iload_n hx hb dX11_isBlock_67 rfl (lv_at hl 3 rfl) ?_
          refine cl_X11_150 (As := [.int (nI f), .int (nI k9)]) (rest := [.int (nI (cb k9))]) hB (c_X11_colourAt l g H0 r zq zsp zrm zst zsl zsv ztx zln zth zsg zbg zwd zhg zin zop zbe (nI w0) (nI h0) zbk zot zer zen zpo zpi zgr zsh zsn f k9 hR (by omega) (by omega) (by omega)) hR.o rfl hl.1 (Nat.le_of_ble_eq_true rfl) dX11_isBlock_68 ⟨Nat.le_of_ble_eq_true rfl, Nat.le_of_ble_eq_true rfl⟩ ⟨Nat.le_of_ble_eq_true rfl, Nat.le_of_ble_eq_true rfl⟩ hS (by have hz9 := hS.1; rintro q (h | h) <;> first | exact Or.inr (by omega) | exact h.elim | exact Or.inl h | (simp only [ftA] at h ⊢; omega)) (fun v H1 locs hpo hfr hS => ?_)
          obtain ⟨rfl, rfl⟩ := hpo
          refine W.widen (k := 0) (n := 0) (Nat.le_of_ble_eq_true rfl) (Nat.le_of_ble_eq_true rfl) ?_
          refine mn_icmp_ne (tgt := 78) hB dX11_isBlock_71 (by decide) (by omega) (by omega) (fun h_71 => ?_) (fun h_71 => ?_)
          · skip
            refine lv_iconst (v := nI 0) hx hb dX11_isBlock_78 (by decide) ?_
            refine mh_top (y := .int (bI false)) (rfl) ?_
            refine lv_istore_n (lv' := [(2, .int (bI false)), (0, .ref r), (1, .int (nI f)), (3, .int (nI k9))]) hx hb dX11_isBlock_79 rfl hl (by decide) rfl (fun ls hl => ?_)
            refine lv_iinc (v := nI (k9 + 1)) (lv' := [(3, .int (nI (k9 + 1))), (2, .int (bI false)), (0, .ref r), (1, .int (nI f))]) hx hb dX11_isBlock_80 hl (k := 3) rfl (nI_1 _) (by decide) rfl (fun ls hl => ?_)
            refine lv_goto (tgt := 42) hx hb dX11_isBlock_83 (by decide) ?_
            refine ih42 (k9 + 1, false) _ _ ⟨(by omega), ?_, hS, lv_sub hl [2, 3, 1, 0] rfl⟩ (by dsimp only; omega)
            · rw [h_56] at hgo; show _ = (decide (w0 = wdF zq f ∧ h0 = htF zq f) && (eqB cb (clF zq f) k9 && _)); rw [← Bool.and_assoc, ← hgo]; first | (rw [decide_eq_true h_71]; rfl) | (rw [decide_eq_false h_71]; rfl)
          · skip
            refine lv_iconst (v := nI 1) hx hb dX11_isBlock_74 (by decide) ?_
            refine mh_top (y := .int (bI true)) (rfl) ?_
            refine lv_goto (tgt := 79) hx hb dX11_isBlock_75 (by decide) ?_
            refine lv_istore_n (lv' := [(2, .int (bI true)), (0, .ref r), (1, .int (nI f)), (3, .int (nI k9))]) hx hb dX11_isBlock_79 rfl hl (by decide) rfl (fun ls hl => ?_)
            refine lv_iinc (v := nI (k9 + 1)) (lv' := [(3, .int (nI (k9 + 1))), (2, .int (bI true)), (0, .ref r), (1, .int (nI f))]) hx hb dX11_isBlock_80 hl (k := 3) rfl (nI_1 _) (by decide) rfl (fun ls hl => ?_)
            refine lv_goto (tgt := 42) hx hb dX11_isBlock_83 (by decide) ?_
            refine ih42 (k9 + 1, true) _ _ ⟨(by omega), ?_, hS, lv_sub hl [2, 3, 1, 0] rfl⟩ (by dsimp only; omega)
            · rw [h_56] at hgo; show _ = (decide (w0 = wdF zq f ∧ h0 = htF zq f) && (eqB cb (clF zq f) k9 && _)); rw [← Bool.and_assoc, ← hgo]; first | (rw [decide_eq_true h_71]; rfl) | (rw [decide_eq_false h_71]; rfl)
    · skip
      refine lv_iconst (v := nI 1) hx hb dX11_isBlock_34 (by decide) ?_
      refine lv_goto (tgt := 39) hx hb dX11_isBlock_35 (by decide) ?_
      refine mh_top (y := .int (bI (decide (w0 = wdF zq f ∧ h0 = htF zq f)))) (by first | (rw [decide_eq_true (by omega)]; rfl) | (rw [decide_eq_false (by omega)]; rfl)) ?_
      refine lv_istore_n (lv' := [(2, .int (bI (decide (w0 = wdF zq f ∧ h0 = htF zq f)))), (0, .ref r), (1, .int (nI f))]) hx hb dX11_isBlock_39 rfl hl (by decide) rfl (fun ls hl => ?_)
      refine lv_iconst (v := nI 0) hx hb dX11_isBlock_40 (by decide) ?_
      refine lv_istore_n (lv' := [(3, .int (nI 0)), (2, .int (bI (decide (w0 = wdF zq f ∧ h0 = htF zq f)))), (0, .ref r), (1, .int (nI f))]) hx hb dX11_isBlock_41 rfl hl (by decide) rfl (fun ls hl => ?_)
      refine mh_loopR (σ := Nat × Bool) (fun xx9 locs ls => match xx9 with | (k9, go) => k9 ≤ w0 * h0 ∧ go = (decide (w0 = wdF zq f ∧ h0 = htF zq f) && eqB cb (clF zq f) k9) ∧ va_S (ftA (fun _ => False) H0.size) H0 H0 locs ∧ lv_has ls 4 [(0, .ref r), (1, .int (nI f)), (2, .int (bI go)), (3, .int (nI k9))]) (fun xx9 => match xx9 with | (k9, go) => w0 * h0 - k9) ?_ (0, decide (w0 = wdF zq f ∧ h0 = htF zq f)) ⟨(by omega), (by simp [eqB]), hS, lv_sub hl [2, 3, 1, 0] rfl⟩
      rintro ⟨k9, go⟩ locs ls ⟨hk9, hgo, hS, hl⟩ ih
      have ih42 := ih
      refine lv_iload_n hx hb dX11_isBlock_42 rfl (lv_at hl 3 rfl) ?_
      refine lv_aload_n hx hb dX11_isBlock_43 rfl (lv_at hl 0 rfl) ?_
      refine gf_X11_90 hB hR.o rfl dX11_isBlock_44 ?_
      refine lv_aload_n hx hb dX11_isBlock_47 rfl (lv_at hl 0 rfl) ?_
      refine gf_X11_93 hB hR.o rfl dX11_isBlock_48 ?_
      refine mn_imul hB dX11_isBlock_51 ?_
      refine mn_icmp_ge (tgt := 86) hB dX11_isBlock_52 (by decide) (by omega) (by omega) (fun h_52 => ?_) (fun h_52 => ?_)
      · skip
        refine lv_iload_n hx hb dX11_isBlock_86 rfl (lv_at hl 2 rfl) ?_
        refine mh_zret hB ⟨Nat.le_of_ble_eq_true rfl, Nat.le_of_ble_eq_true rfl⟩ hS dX11_isBlock_87 (by cases go <;> rfl) ⟨?_, rfl⟩
        · have hfin : go = (decide (w0 = wdF zq f ∧ h0 = htF zq f) && eqB cb (clF zq f) (w0 * h0)) := by
            first
            | (rw [h_56] at hgo; rw [h_56]; cases hD : decide (w0 = wdF zq f ∧ h0 = htF zq f) with
               | false => rfl
               | true => rw [hD, Bool.true_and] at hgo; rw [eqB_f hgo.symm (by omega)]; rfl)
            | (have hin : k9 = w0 * h0 := by omega
               rw [hin] at hgo; exact hgo)
          rw [hfin]
      · skip
        refine lv_iload_n hx hb dX11_isBlock_55 rfl (lv_at hl 2 rfl) ?_
        refine mb_if_eq (tgt := 86) hB dX11_isBlock_56 (by decide) (fun h_56 => ?_) (fun h_56 => ?_)
        · skip
          refine lv_iload_n hx hb dX11_isBlock_86 rfl (lv_at hl 2 rfl) ?_
          refine mh_zret hB ⟨Nat.le_of_ble_eq_true rfl, Nat.le_of_ble_eq_true rfl⟩ hS dX11_isBlock_87 (by cases go <;> rfl) ⟨?_, rfl⟩
          · have hfin : go = (decide (w0 = wdF zq f ∧ h0 = htF zq f) && eqB cb (clF zq f) (w0 * h0)) := by
              first
              | (rw [h_56] at hgo; rw [h_56]; cases hD : decide (w0 = wdF zq f ∧ h0 = htF zq f) with
                 | false => rfl
                 | true => rw [hD, Bool.true_and] at hgo; rw [eqB_f hgo.symm (by omega)]; rfl)
              | (have hin : k9 = w0 * h0 := by omega
                 rw [hin] at hgo; exact hgo)
            rw [hfin]
        · skip
          refine lv_aload_n hx hb dX11_isBlock_59 rfl (lv_at hl 0 rfl) ?_
          refine gf_X11_44 hB hR.o rfl dX11_isBlock_60 ?_
          refine lv_iload_n hx hb dX11_isBlock_63 rfl (lv_at hl 3 rfl) ?_
          refine mn_iald hB hR.a_zbk (by omega) (by omega) dX11_isBlock_64 ?_
          refine mh_top (y := .int (nI (cb k9))) (by rw [(hbk k9 (by omega)).1]) ?_
          have hc1 := (hbk k9 (by omega)).2
          have hc2 := hF.c6 (k := k9) (by omega)
          refine lv_aload_n hx hb dX11_isBlock_65 rfl (lv_at hl 0 rfl) ?_
          refine lv_iload_n hx hb dX11_isBlock_66 rfl (lv_at hl 1 rfl) ?_
          refine lv_iload_n hx hb dX11_isBlock_67 rfl (lv_at hl 3 rfl) ?_
          refine cl_X11_150 (As := [.int (nI f), .int (nI k9)]) (rest := [.int (nI (cb k9))]) hB (c_X11_colourAt l g H0 r zq zsp zrm zst zsl zsv ztx zln zth zsg zbg zwd zhg zin zop zbe (nI w0) (nI h0) zbk zot zer zen zpo zpi zgr zsh zsn f k9 hR (by omega) (by omega) (by omega)) hR.o rfl hl.1 (Nat.le_of_ble_eq_true rfl) dX11_isBlock_68 ⟨Nat.le_of_ble_eq_true rfl, Nat.le_of_ble_eq_true rfl⟩ ⟨Nat.le_of_ble_eq_true rfl, Nat.le_of_ble_eq_true rfl⟩ hS (by have hz9 := hS.1; rintro q (h | h) <;> first | exact Or.inr (by omega) | exact h.elim | exact Or.inl h | (simp only [ftA] at h ⊢; omega)) (fun v H1 locs hpo hfr hS => ?_)
          obtain ⟨rfl, rfl⟩ := hpo
          refine W.widen (k := 0) (n := 0) (Nat.le_of_ble_eq_true rfl) (Nat.le_of_ble_eq_true rfl) ?_
          refine mn_icmp_ne (tgt := 78) hB dX11_isBlock_71 (by decide) (by omega) (by omega) (fun h_71 => ?_) (fun h_71 => ?_)
          · skip
            refine lv_iconst (v := nI 0) hx hb dX11_isBlock_78 (by decide) ?_
            refine mh_top (y := .int (bI false)) (rfl) ?_
            refine lv_istore_n (lv' := [(2, .int (bI false)), (0, .ref r), (1, .int (nI f)), (3, .int (nI k9))]) hx hb dX11_isBlock_79 rfl hl (by decide) rfl (fun ls hl => ?_)
            refine lv_iinc (v := nI (k9 + 1)) (lv' := [(3, .int (nI (k9 + 1))), (2, .int (bI false)), (0, .ref r), (1, .int (nI f))]) hx hb dX11_isBlock_80 hl (k := 3) rfl (nI_1 _) (by decide) rfl (fun ls hl => ?_)
            refine lv_goto (tgt := 42) hx hb dX11_isBlock_83 (by decide) ?_
            refine ih42 (k9 + 1, false) _ _ ⟨(by omega), ?_, hS, lv_sub hl [2, 3, 1, 0] rfl⟩ (by dsimp only; omega)
            · rw [h_56] at hgo; show _ = (decide (w0 = wdF zq f ∧ h0 = htF zq f) && (eqB cb (clF zq f) k9 && _)); rw [← Bool.and_assoc, ← hgo]; first | (rw [decide_eq_true h_71]; rfl) | (rw [decide_eq_false h_71]; rfl)
          · skip
            refine lv_iconst (v := nI 1) hx hb dX11_isBlock_74 (by decide) ?_
            refine mh_top (y := .int (bI true)) (rfl) ?_
            refine lv_goto (tgt := 79) hx hb dX11_isBlock_75 (by decide) ?_
            refine lv_istore_n (lv' := [(2, .int (bI true)), (0, .ref r), (1, .int (nI f)), (3, .int (nI k9))]) hx hb dX11_isBlock_79 rfl hl (by decide) rfl (fun ls hl => ?_)
            refine lv_iinc (v := nI (k9 + 1)) (lv' := [(3, .int (nI (k9 + 1))), (2, .int (bI true)), (0, .ref r), (1, .int (nI f))]) hx hb dX11_isBlock_80 hl (k := 3) rfl (nI_1 _) (by decide) rfl (fun ls hl => ?_)
            refine lv_goto (tgt := 42) hx hb dX11_isBlock_83 (by decide) ?_
            refine ih42 (k9 + 1, true) _ _ ⟨(by omega), ?_, hS, lv_sub hl [2, 3, 1, 0] rfl⟩ (by dsimp only; omega)
            · rw [h_56] at hgo; show _ = (decide (w0 = wdF zq f ∧ h0 = htF zq f) && (eqB cb (clF zq f) k9 && _)); rw [← Bool.and_assoc, ← hgo]; first | (rw [decide_eq_true h_71]; rfl) | (rw [decide_eq_false h_71]; rfl)

def rm_c_X11_applies_m : Room := { frames := 1, cells := 0, slots := 0, locals := 23 }
set_option maxRecDepth 100000 in
set_option maxHeartbeats 400000 in
theorem c_X11_applies_m (l : Launch) (g : GG) (H0 : Heap) (r : Nat) (zq : Nat → Int32) (zsp : Nat → Int32) (zrm : Nat → Int32) (zst : Int32) (zsl : Nat → Int32) (zsv : Nat → Int32) (ztx : Nat → Int32) (zln : Int32) (zth : Int32) (zsg : Nat → Int32) (zbg : Nat → Int32) (zwd : Nat → Int32) (zhg : Nat → Int32) (zin : Nat → Int32) (zop : Int32) (zbe : Int32) (zbk : Nat → Int32) (zot : Nat → Int32) (zer : Int32) (zen : Int32) (zpo : Nat → Int32) (zpi : Int32) (zgr : Int32) (zsh : Nat → Int32) (zsn : Int32) (w0 : Nat) (h0 : Nat) (cb : Nat → Nat) (hR : ModAt g r zq zsp zrm zst zsl zsv ztx zln zth zsg zbg zwd zhg zin zop zbe (nI w0) (nI h0) zbk zot zer zen zpo zpi zgr zsh zsn H0) (hw1 : 0 < w0) (hw2 : w0 ≤ 16) (hh1 : 0 < h0) (hh2 : h0 ≤ 16) (hbk : ∀ k, k < w0 * h0 → zbk k = nI (cb k) ∧ cb k < 6) : Ct l yX11_applies cX11_applies 5 (some .boolean) rm_c_X11_applies_m g [.ref r, .int (nI 60)] H0 (ftA (fun q => r ≤ q ∧ q < r + 16) H0.size) (fun v H1 => v = some (.int (bI true)) ∧ ∃ (bk2 : Nat → Int32), ∃ (ot2 : Nat → Int32), ModAt g r zq zsp zrm zst zsl zsv ztx zln zth zsg zbg zwd zhg zin zop zbe (nI w0) (nI h0) bk2 ot2 zer zen zpo zpi zgr zsh zsn H1 ∧ (∀ k, k < w0 * h0 → bk2 k = nI (cb (mirI w0 k)) ∧ cb (mirI w0 k) < 6)) := by
  refine Ct.of (by decide) (fun _ h => Or.inr h) (Nat.le_of_ble_eq_true rfl) ?_
  intro p e s m below meth c ls hB hin hS hH hl
  have hx := hB.x
  have hb := hB.b
  have hl : lv_has ls 5 [(0, .ref r), (1, .int (nI 60))] := hl
  have hwh := sz256 hw2 hh2
  refine lv_iload_n hx hb dX11_applies_0 rfl (lv_at hl 1 rfl) ?_
  refine lv_bipush (v := nI 60) hx hb dX11_applies_1 (by decide) ?_
  refine mn_icmp_ne (tgt := 77) hB dX11_applies_3 (by decide) (by omega) (by omega) (fun h => by exfalso; omega) (fun h_3 => ?_)
  refine lv_iconst (v := nI 0) hx hb dX11_applies_6 (by decide) ?_
  refine lv_istore_n (lv' := [(2, .int (nI 0)), (0, .ref r), (1, .int (nI 60))]) hx hb dX11_applies_7 rfl hl (by decide) rfl (fun ls hl => ?_)
  refine mh_loop (σ := Nat) (fun xx9 H locs ls => match xx9 with | i9 => i9 ≤ w0 * h0 ∧ ModAt g r zq zsp zrm zst zsl zsv ztx zln zth zsg zbg zwd zhg zin zop zbe (nI w0) (nI h0) zbk (lowOf (fun j9 => zbk (mirI w0 j9)) zot i9) zer zen zpo zpi zgr zsh zsn H ∧ va_S (ftA (fun q => r ≤ q ∧ q < r + 16) H0.size) H0 H locs ∧ lv_has ls 5 [(0, .ref r), (1, .int (nI 60)), (2, .int (nI i9))]) (fun xx9 => match xx9 with | i9 => w0 * h0 - i9) ?_ 0 ⟨(by omega), (by rw [lowOf_0]; exact hR), hS, lv_sub hl [1, 2, 0] rfl⟩
  rintro i9 H locs ls ⟨hi9, hR, hS, hl⟩ ih
  have ih8 := ih
  refine lv_iload_n hx hb dX11_applies_8 rfl (lv_at hl 2 rfl) ?_
  refine lv_aload_n hx hb dX11_applies_9 rfl (lv_at hl 0 rfl) ?_
  refine gf_X11_90 hB hR.o rfl dX11_applies_10 ?_
  refine lv_aload_n hx hb dX11_applies_13 rfl (lv_at hl 0 rfl) ?_
  refine gf_X11_93 hB hR.o rfl dX11_applies_14 ?_
  refine mn_imul hB dX11_applies_17 ?_
  refine mn_icmp_ge (tgt := 63) hB dX11_applies_18 (by decide) (by omega) (by omega) (fun h_18 => ?_) (fun h_18 => ?_)
  · skip
    have hin9 : i9 = w0 * h0 := by omega
    subst hin9
    refine lv_aload_n hx hb dX11_applies_63 rfl (lv_at hl 0 rfl) ?_
    refine lv_aload_n hx hb dX11_applies_64 rfl (lv_at hl 0 rfl) ?_
    refine gf_X11_90 hB hR.o rfl dX11_applies_65 ?_
    refine lv_aload_n hx hb dX11_applies_68 rfl (lv_at hl 0 rfl) ?_
    refine gf_X11_93 hB hR.o rfl dX11_applies_69 ?_
    refine cl_X11_96 (As := [.int (nI w0), .int (nI h0)]) (rest := []) hB (c_X11_fromOther l g H r zq zsp zrm zst zsl zsv ztx zln zth zsg zbg zwd zhg zin zop zbe (nI w0) (nI h0) zbk (lowOf (fun j9 => zbk (mirI w0 j9)) zot (w0 * h0)) zer zen zpo zpi zgr zsh zsn w0 h0 hR (by omega)) hR.o rfl hl.1 (Nat.le_of_ble_eq_true rfl) dX11_applies_72 ⟨Nat.le_of_ble_eq_true rfl, Nat.le_of_ble_eq_true rfl⟩ ⟨Nat.le_of_ble_eq_true rfl, Nat.le_of_ble_eq_true rfl⟩ hS (by have hz9 := hS.1; rintro q (h | h) <;> first | exact Or.inr (by omega) | exact h.elim | exact Or.inl h | (simp only [ftA] at h ⊢; omega)) (fun v H1 locs hpo hfr hS => ?_)
    obtain ⟨rfl, hR⟩ := hpo
    generalize H1 = H at hfr hS hR ⊢
    refine W.widen (k := 0) (n := 0) (Nat.le_of_ble_eq_true rfl) (Nat.le_of_ble_eq_true rfl) ?_
    refine lv_iconst (v := nI 1) hx hb dX11_applies_75 (by decide) ?_
    refine mh_top (y := .int (bI true)) (rfl) ?_
    refine mh_zret hB ⟨Nat.le_of_ble_eq_true rfl, Nat.le_of_ble_eq_true rfl⟩ hS dX11_applies_76 (by first | rfl | decide | (split <;> rfl)) ⟨?_, (lowOf (lowOf (fun j9 => zbk (mirI w0 j9)) zot (w0 * h0)) zbk (w0 * h0)), (lowOf (fun j9 => zbk (mirI w0 j9)) zot (w0 * h0)), ?_, ?_⟩
    · rfl
    · exact hR
    · intro k hk
      have h9 := hbk _ (mirI_lt hk)
      exact ⟨by rw [lowOf_all _ _ hk, lowOf_all _ _ hk]; exact h9.1, h9.2⟩
  · skip
    refine lv_aload_n hx hb dX11_applies_21 rfl (lv_at hl 0 rfl) ?_
    refine gf_X11_47 hB hR.o rfl dX11_applies_22 ?_
    refine lv_iload_n hx hb dX11_applies_25 rfl (lv_at hl 2 rfl) ?_
    refine lv_aload_n hx hb dX11_applies_26 rfl (lv_at hl 0 rfl) ?_
    refine gf_X11_44 hB hR.o rfl dX11_applies_27 ?_
    refine lv_iload_n hx hb dX11_applies_30 rfl (lv_at hl 2 rfl) ?_
    refine lv_aload_n hx hb dX11_applies_31 rfl (lv_at hl 0 rfl) ?_
    refine gf_X11_90 hB hR.o rfl dX11_applies_32 ?_
    refine mn_idiv hB dX11_applies_35 (by omega) (by omega) (by omega) ?_
    refine lv_aload_n hx hb dX11_applies_36 rfl (lv_at hl 0 rfl) ?_
    refine gf_X11_90 hB hR.o rfl dX11_applies_37 ?_
    refine mn_imul hB dX11_applies_40 ?_
    refine lv_aload_n hx hb dX11_applies_41 rfl (lv_at hl 0 rfl) ?_
    refine gf_X11_90 hB hR.o rfl dX11_applies_42 ?_
    refine mn_iadd hB dX11_applies_45 ?_
    refine lv_iconst (v := nI 1) hx hb dX11_applies_46 (by decide) ?_
    refine mn_isub hB dX11_applies_47 (by omega) ?_
    refine lv_iload_n hx hb dX11_applies_48 rfl (lv_at hl 2 rfl) ?_
    refine lv_aload_n hx hb dX11_applies_49 rfl (lv_at hl 0 rfl) ?_
    refine gf_X11_90 hB hR.o rfl dX11_applies_50 ?_
    refine mn_irem hB dX11_applies_53 (by omega) (by omega) (by omega) ?_
    refine mn_isub hB dX11_applies_54 (by have := Nat.mod_lt i9 hw1; omega) ?_
    refine mh_top (y := .int (nI (mirI w0 i9))) (rfl) ?_
    refine mn_iald hB hR.a_zbk (by have := mirI_lt (w := w0) (h := h0) (k := i9) (by omega); omega) (by omega) dX11_applies_55 ?_
    refine mn_iast hB hR.a_zot (by first | exact Or.inl rfl | (simp only [ftA]; omega) | (simp [ftA]; omega)) hS (by omega) (by omega) dX11_applies_56 (fun H locs hwr => ?_)
    obtain ⟨hR, hS⟩ := hR.w_zot hwr
    refine lv_iinc (v := nI (i9 + 1)) (lv' := [(2, .int (nI (i9 + 1))), (0, .ref r), (1, .int (nI 60))]) hx hb dX11_applies_57 hl (k := 2) rfl (nI_1 _) (by decide) rfl (fun ls hl => ?_)
    refine lv_goto (tgt := 8) hx hb dX11_applies_60 (by decide) ?_
    refine ih8 (i9 + 1) _ _ _ ⟨(by omega), (by rw [← lowOf_up]; exact hR), hS, lv_sub hl [1, 2, 0] rfl⟩ (by dsimp only; omega)

def rm_c_X11_applies_t : Room := { frames := 1, cells := 0, slots := 0, locals := 23 }
set_option maxRecDepth 100000 in
set_option maxHeartbeats 400000 in
theorem c_X11_applies_t (l : Launch) (g : GG) (H0 : Heap) (r : Nat) (zq : Nat → Int32) (zsp : Nat → Int32) (zrm : Nat → Int32) (zst : Int32) (zsl : Nat → Int32) (zsv : Nat → Int32) (ztx : Nat → Int32) (zln : Int32) (zth : Int32) (zsg : Nat → Int32) (zbg : Nat → Int32) (zwd : Nat → Int32) (zhg : Nat → Int32) (zin : Nat → Int32) (zop : Int32) (zbe : Int32) (zbk : Nat → Int32) (zot : Nat → Int32) (zer : Int32) (zen : Int32) (zpo : Nat → Int32) (zpi : Int32) (zgr : Int32) (zsh : Nat → Int32) (zsn : Int32) (w0 : Nat) (h0 : Nat) (cb : Nat → Nat) (hR : ModAt g r zq zsp zrm zst zsl zsv ztx zln zth zsg zbg zwd zhg zin zop zbe (nI w0) (nI h0) zbk zot zer zen zpo zpi zgr zsh zsn H0) (hw1 : 0 < w0) (hw2 : w0 ≤ 16) (hh1 : 0 < h0) (hh2 : h0 ≤ 16) (hbk : ∀ k, k < w0 * h0 → zbk k = nI (cb k) ∧ cb k < 6) : Ct l yX11_applies cX11_applies 5 (some .boolean) rm_c_X11_applies_t g [.ref r, .int (nI 94)] H0 (ftA (fun q => r ≤ q ∧ q < r + 16) H0.size) (fun v H1 => v = some (.int (bI true)) ∧ ∃ (bk2 : Nat → Int32), ∃ (ot2 : Nat → Int32), ModAt g r zq zsp zrm zst zsl zsv ztx zln zth zsg zbg zwd zhg zin zop zbe (nI h0) (nI w0) bk2 ot2 zer zen zpo zpi zgr zsh zsn H1 ∧ (∀ k, k < h0 * w0 → bk2 k = nI (cb (turI w0 h0 k)) ∧ cb (turI w0 h0 k) < 6)) := by
  refine Ct.of (by decide) (fun _ h => Or.inr h) (Nat.le_of_ble_eq_true rfl) ?_
  intro p e s m below meth c ls hB hin hS hH hl
  have hx := hB.x
  have hb := hB.b
  have hl : lv_has ls 5 [(0, .ref r), (1, .int (nI 94))] := hl
  have hwh := sz256 hw2 hh2
  refine lv_iload_n hx hb dX11_applies_0 rfl (lv_at hl 1 rfl) ?_
  refine lv_bipush (v := nI 60) hx hb dX11_applies_1 (by decide) ?_
  refine mn_icmp_ne (tgt := 77) hB dX11_applies_3 (by decide) (by omega) (by omega) (fun h_3 => ?_) (fun h => by exfalso; omega)
  refine lv_iload_n hx hb dX11_applies_77 rfl (lv_at hl 1 rfl) ?_
  refine lv_bipush (v := nI 94) hx hb dX11_applies_78 (by decide) ?_
  refine mn_icmp_ne (tgt := 154) hB dX11_applies_80 (by decide) (by omega) (by omega) (fun h => by exfalso; omega) (fun h_80 => ?_)
  refine lv_iconst (v := nI 0) hx hb dX11_applies_83 (by decide) ?_
  refine lv_istore_n (lv' := [(2, .int (nI 0)), (0, .ref r), (1, .int (nI 94))]) hx hb dX11_applies_84 rfl hl (by decide) rfl (fun ls hl => ?_)
  refine mh_loop (σ := Nat) (fun xx9 H locs ls => match xx9 with | i9 => i9 ≤ w0 * h0 ∧ ModAt g r zq zsp zrm zst zsl zsv ztx zln zth zsg zbg zwd zhg zin zop zbe (nI w0) (nI h0) zbk (lowOf (fun j9 => zbk (turI w0 h0 j9)) zot i9) zer zen zpo zpi zgr zsh zsn H ∧ va_S (ftA (fun q => r ≤ q ∧ q < r + 16) H0.size) H0 H locs ∧ lv_has ls 5 [(0, .ref r), (1, .int (nI 94)), (2, .int (nI i9))]) (fun xx9 => match xx9 with | i9 => w0 * h0 - i9) ?_ 0 ⟨(by omega), (by rw [lowOf_0]; exact hR), hS, lv_sub hl [1, 2, 0] rfl⟩
  rintro i9 H locs ls ⟨hi9, hR, hS, hl⟩ ih
  have ih85 := ih
  refine lv_iload_n hx hb dX11_applies_85 rfl (lv_at hl 2 rfl) ?_
  refine lv_aload_n hx hb dX11_applies_86 rfl (lv_at hl 0 rfl) ?_
  refine gf_X11_90 hB hR.o rfl dX11_applies_87 ?_
  refine lv_aload_n hx hb dX11_applies_90 rfl (lv_at hl 0 rfl) ?_
  refine gf_X11_93 hB hR.o rfl dX11_applies_91 ?_
  refine mn_imul hB dX11_applies_94 ?_
  refine mn_icmp_ge (tgt := 140) hB dX11_applies_95 (by decide) (by omega) (by omega) (fun h_95 => ?_) (fun h_95 => ?_)
  · skip
    have hin9 : i9 = w0 * h0 := by omega
    subst hin9
    refine lv_aload_n hx hb dX11_applies_140 rfl (lv_at hl 0 rfl) ?_
    refine lv_aload_n hx hb dX11_applies_141 rfl (lv_at hl 0 rfl) ?_
    refine gf_X11_93 hB hR.o rfl dX11_applies_142 ?_
    refine lv_aload_n hx hb dX11_applies_145 rfl (lv_at hl 0 rfl) ?_
    refine gf_X11_90 hB hR.o rfl dX11_applies_146 ?_
    refine cl_X11_96 (As := [.int (nI h0), .int (nI w0)]) (rest := []) hB (c_X11_fromOther l g H r zq zsp zrm zst zsl zsv ztx zln zth zsg zbg zwd zhg zin zop zbe (nI w0) (nI h0) zbk (lowOf (fun j9 => zbk (turI w0 h0 j9)) zot (w0 * h0)) zer zen zpo zpi zgr zsh zsn h0 w0 hR (by rw [Nat.mul_comm]; exact hwh)) hR.o rfl hl.1 (Nat.le_of_ble_eq_true rfl) dX11_applies_149 ⟨Nat.le_of_ble_eq_true rfl, Nat.le_of_ble_eq_true rfl⟩ ⟨Nat.le_of_ble_eq_true rfl, Nat.le_of_ble_eq_true rfl⟩ hS (by have hz9 := hS.1; rintro q (h | h) <;> first | exact Or.inr (by omega) | exact h.elim | exact Or.inl h | (simp only [ftA] at h ⊢; omega)) (fun v H1 locs hpo hfr hS => ?_)
    obtain ⟨rfl, hR⟩ := hpo
    generalize H1 = H at hfr hS hR ⊢
    refine W.widen (k := 0) (n := 0) (Nat.le_of_ble_eq_true rfl) (Nat.le_of_ble_eq_true rfl) ?_
    refine lv_iconst (v := nI 1) hx hb dX11_applies_152 (by decide) ?_
    refine mh_top (y := .int (bI true)) (rfl) ?_
    refine mh_zret hB ⟨Nat.le_of_ble_eq_true rfl, Nat.le_of_ble_eq_true rfl⟩ hS dX11_applies_153 (by first | rfl | decide | (split <;> rfl)) ⟨?_, (lowOf (lowOf (fun j9 => zbk (turI w0 h0 j9)) zot (w0 * h0)) zbk (h0 * w0)), (lowOf (fun j9 => zbk (turI w0 h0 j9)) zot (w0 * h0)), ?_, ?_⟩
    · rfl
    · exact hR
    · intro k hk
      have hk2 : k < w0 * h0 := by rw [Nat.mul_comm]; exact hk
      have h9 := hbk _ (turI_lt hk2)
      exact ⟨by rw [lowOf_all _ _ hk, lowOf_all _ _ hk2]; exact h9.1, h9.2⟩
  · skip
    refine lv_aload_n hx hb dX11_applies_98 rfl (lv_at hl 0 rfl) ?_
    refine gf_X11_47 hB hR.o rfl dX11_applies_99 ?_
    refine lv_iload_n hx hb dX11_applies_102 rfl (lv_at hl 2 rfl) ?_
    refine lv_aload_n hx hb dX11_applies_103 rfl (lv_at hl 0 rfl) ?_
    refine gf_X11_44 hB hR.o rfl dX11_applies_104 ?_
    refine lv_aload_n hx hb dX11_applies_107 rfl (lv_at hl 0 rfl) ?_
    refine gf_X11_93 hB hR.o rfl dX11_applies_108 ?_
    refine lv_iconst (v := nI 1) hx hb dX11_applies_111 (by decide) ?_
    refine mn_isub hB dX11_applies_112 (by omega) ?_
    refine lv_iload_n hx hb dX11_applies_113 rfl (lv_at hl 2 rfl) ?_
    refine lv_aload_n hx hb dX11_applies_114 rfl (lv_at hl 0 rfl) ?_
    refine gf_X11_93 hB hR.o rfl dX11_applies_115 ?_
    refine mn_irem hB dX11_applies_118 (by omega) (by omega) (by omega) ?_
    refine mn_isub hB dX11_applies_119 (by have := Nat.mod_lt i9 hh1; omega) ?_
    refine lv_aload_n hx hb dX11_applies_120 rfl (lv_at hl 0 rfl) ?_
    refine gf_X11_90 hB hR.o rfl dX11_applies_121 ?_
    refine mn_imul hB dX11_applies_124 ?_
    refine lv_iload_n hx hb dX11_applies_125 rfl (lv_at hl 2 rfl) ?_
    refine lv_aload_n hx hb dX11_applies_126 rfl (lv_at hl 0 rfl) ?_
    refine gf_X11_93 hB hR.o rfl dX11_applies_127 ?_
    refine mn_idiv hB dX11_applies_130 (by omega) (by omega) (by omega) ?_
    refine mn_iadd hB dX11_applies_131 ?_
    refine mh_top (y := .int (nI (turI w0 h0 i9))) (rfl) ?_
    refine mn_iald hB hR.a_zbk (by have := turI_lt (w := w0) (h := h0) (k := i9) (by omega); omega) (by omega) dX11_applies_132 ?_
    refine mn_iast hB hR.a_zot (by first | exact Or.inl rfl | (simp only [ftA]; omega) | (simp [ftA]; omega)) hS (by omega) (by omega) dX11_applies_133 (fun H locs hwr => ?_)
    obtain ⟨hR, hS⟩ := hR.w_zot hwr
    refine lv_iinc (v := nI (i9 + 1)) (lv' := [(2, .int (nI (i9 + 1))), (0, .ref r), (1, .int (nI 94))]) hx hb dX11_applies_134 hl (k := 2) rfl (nI_1 _) (by decide) rfl (fun ls hl => ?_)
    refine lv_goto (tgt := 85) hx hb dX11_applies_137 (by decide) ?_
    refine ih85 (i9 + 1) _ _ _ ⟨(by omega), (by rw [← lowOf_up]; exact hR), hS, lv_sub hl [1, 2, 0] rfl⟩ (by dsimp only; omega)

def rm_c_X11_applies_d : Room := { frames := 1, cells := 0, slots := 0, locals := 23 }
set_option maxRecDepth 100000 in
set_option maxHeartbeats 400000 in
theorem c_X11_applies_d (l : Launch) (g : GG) (H0 : Heap) (r : Nat) (zq : Nat → Int32) (zsp : Nat → Int32) (zrm : Nat → Int32) (zst : Int32) (zsl : Nat → Int32) (zsv : Nat → Int32) (ztx : Nat → Int32) (zln : Int32) (zth : Int32) (zsg : Nat → Int32) (zbg : Nat → Int32) (zwd : Nat → Int32) (zhg : Nat → Int32) (zin : Nat → Int32) (zop : Int32) (zbe : Int32) (zbk : Nat → Int32) (zot : Nat → Int32) (zer : Int32) (zen : Int32) (zpo : Nat → Int32) (zpi : Int32) (zgr : Int32) (zsh : Nat → Int32) (zsn : Int32) (w0 : Nat) (h0 : Nat) (cb : Nat → Nat) (d0 : Nat) (hR : ModAt g r zq zsp zrm zst zsl zsv ztx zln zth zsg zbg zwd zhg zin zop zbe (nI w0) (nI h0) zbk zot zer zen zpo zpi zgr zsh zsn H0) (hw1 : 0 < w0) (hw2 : w0 ≤ 16) (hh1 : 0 < h0) (hh2 : h0 ≤ 16) (hbk : ∀ k, k < w0 * h0 → zbk k = nI (cb k) ∧ cb k < 6) (hd1 : 2 ≤ d0) (hd9 : d0 ≤ 9) (hd16 : d0 * w0 ≤ 16) : Ct l yX11_applies cX11_applies 5 (some .boolean) rm_c_X11_applies_d g [.ref r, .int (nI (48 + d0))] H0 (ftA (fun q => r ≤ q ∧ q < r + 16) H0.size) (fun v H1 => v = some (.int (bI true)) ∧ ∃ (bk2 : Nat → Int32), ∃ (ot2 : Nat → Int32), ModAt g r zq zsp zrm zst zsl zsv ztx zln zth zsg zbg zwd zhg zin zop zbe (nI (d0 * w0)) (nI h0) bk2 ot2 zer zen zpo zpi zgr zsh zsn H1 ∧ (∀ k, k < (d0 * w0) * h0 → bk2 k = nI (cb (copI w0 (d0 * w0) k)) ∧ cb (copI w0 (d0 * w0) k) < 6)) := by
  refine Ct.of (by decide) (fun _ h => Or.inr h) (Nat.le_of_ble_eq_true rfl) ?_
  intro p e s m below meth c ls hB hin hS hH hl
  have hx := hB.x
  have hb := hB.b
  have hl : lv_has ls 5 [(0, .ref r), (1, .int (nI (48 + d0)))] := hl
  have hwh := sz256 hw2 hh2
  have hdw : 0 < d0 * w0 := Nat.mul_pos (by omega) hw1
  have hdh := sz256 hd16 hh2
  refine lv_iload_n hx hb dX11_applies_0 rfl (lv_at hl 1 rfl) ?_
  refine lv_bipush (v := nI 60) hx hb dX11_applies_1 (by decide) ?_
  refine mn_icmp_ne (tgt := 77) hB dX11_applies_3 (by decide) (by omega) (by omega) (fun h_3 => ?_) (fun h => by exfalso; omega)
  refine lv_iload_n hx hb dX11_applies_77 rfl (lv_at hl 1 rfl) ?_
  refine lv_bipush (v := nI 94) hx hb dX11_applies_78 (by decide) ?_
  refine mn_icmp_ne (tgt := 154) hB dX11_applies_80 (by decide) (by omega) (by omega) (fun h_80 => ?_) (fun h => by exfalso; omega)
  refine lv_iload_n hx hb dX11_applies_154 rfl (lv_at hl 1 rfl) ?_
  refine lv_bipush (v := nI 48) hx hb dX11_applies_155 (by decide) ?_
  refine mn_isub hB dX11_applies_157 (by omega) ?_
  refine mh_top (y := .int (nI d0)) (by rw [Nat.add_sub_cancel_left]) ?_
  refine lv_istore_n (lv' := [(2, .int (nI d0)), (0, .ref r), (1, .int (nI (48 + d0)))]) hx hb dX11_applies_158 rfl hl (by decide) rfl (fun ls hl => ?_)
  refine lv_iload_n hx hb dX11_applies_159 rfl (lv_at hl 0 rfl) ?_
  refine lv_aload_n hx hb dX11_applies_160 rfl (lv_at hl 1 rfl) ?_
  refine gf_X11_90 hB hR.o rfl dX11_applies_161 ?_
  refine mn_imul hB dX11_applies_164 ?_
  refine lv_bipush (v := nI 16) hx hb dX11_applies_165 (by decide) ?_
  refine mn_icmp_le (tgt := 172) hB dX11_applies_167 (by decide) (by omega) (by omega) (fun h_167 => ?_) (fun h => by exfalso; omega)
  refine lv_iload_n hx hb dX11_applies_172 rfl (lv_at hl 0 rfl) ?_
  refine lv_aload_n hx hb dX11_applies_173 rfl (lv_at hl 1 rfl) ?_
  refine gf_X11_90 hB hR.o rfl dX11_applies_174 ?_
  refine mn_imul hB dX11_applies_177 ?_
  refine lv_istore_n (lv' := [(3, .int (nI (d0 * w0))), (2, .int (nI d0)), (0, .ref r), (1, .int (nI (48 + d0)))]) hx hb dX11_applies_178 rfl hl (by decide) rfl (fun ls hl => ?_)
  refine lv_iconst (v := nI 0) hx hb dX11_applies_179 (by decide) ?_
  refine lv_istore (lv' := [(4, .int (nI 0)), (3, .int (nI (d0 * w0))), (2, .int (nI d0)), (0, .ref r), (1, .int (nI (48 + d0)))]) hx hb dX11_applies_180 hl (by decide) rfl (fun ls hl => ?_)
  refine mh_loop (σ := Nat) (fun xx9 H locs ls => match xx9 with | i9 => i9 ≤ d0 * w0 * h0 ∧ ModAt g r zq zsp zrm zst zsl zsv ztx zln zth zsg zbg zwd zhg zin zop zbe (nI w0) (nI h0) zbk (lowOf (fun j9 => zbk (copI w0 (d0 * w0) j9)) zot i9) zer zen zpo zpi zgr zsh zsn H ∧ va_S (ftA (fun q => r ≤ q ∧ q < r + 16) H0.size) H0 H locs ∧ lv_has ls 5 [(0, .ref r), (1, .int (nI (48 + d0))), (2, .int (nI d0)), (3, .int (nI (d0 * w0))), (4, .int (nI i9))]) (fun xx9 => match xx9 with | i9 => d0 * w0 * h0 - i9) ?_ 0 ⟨(by omega), (by rw [lowOf_0]; exact hR), hS, lv_sub hl [3, 4, 2, 1, 0] rfl⟩
  rintro i9 H locs ls ⟨hi9, hR, hS, hl⟩ ih
  have ih182 := ih
  refine lv_iload hx hb dX11_applies_182 (lv_at hl 4 rfl) ?_
  refine lv_iload_n hx hb dX11_applies_184 rfl (lv_at hl 3 rfl) ?_
  refine lv_aload_n hx hb dX11_applies_185 rfl (lv_at hl 0 rfl) ?_
  refine gf_X11_93 hB hR.o rfl dX11_applies_186 ?_
  refine mn_imul hB dX11_applies_189 ?_
  refine mn_icmp_ge (tgt := 230) hB dX11_applies_190 (by decide) (by omega) (by omega) (fun h_190 => ?_) (fun h_190 => ?_)
  · skip
    have hin9 : i9 = d0 * w0 * h0 := by omega
    subst hin9
    refine lv_aload_n hx hb dX11_applies_230 rfl (lv_at hl 0 rfl) ?_
    refine lv_iload_n hx hb dX11_applies_231 rfl (lv_at hl 3 rfl) ?_
    refine lv_aload_n hx hb dX11_applies_232 rfl (lv_at hl 0 rfl) ?_
    refine gf_X11_93 hB hR.o rfl dX11_applies_233 ?_
    refine cl_X11_96 (As := [.int (nI (d0 * w0)), .int (nI h0)]) (rest := []) hB (c_X11_fromOther l g H r zq zsp zrm zst zsl zsv ztx zln zth zsg zbg zwd zhg zin zop zbe (nI w0) (nI h0) zbk (lowOf (fun j9 => zbk (copI w0 (d0 * w0) j9)) zot (d0 * w0 * h0)) zer zen zpo zpi zgr zsh zsn (d0 * w0) h0 hR (by omega)) hR.o rfl hl.1 (Nat.le_of_ble_eq_true rfl) dX11_applies_236 ⟨Nat.le_of_ble_eq_true rfl, Nat.le_of_ble_eq_true rfl⟩ ⟨Nat.le_of_ble_eq_true rfl, Nat.le_of_ble_eq_true rfl⟩ hS (by have hz9 := hS.1; rintro q (h | h) <;> first | exact Or.inr (by omega) | exact h.elim | exact Or.inl h | (simp only [ftA] at h ⊢; omega)) (fun v H1 locs hpo hfr hS => ?_)
    obtain ⟨rfl, hR⟩ := hpo
    generalize H1 = H at hfr hS hR ⊢
    refine W.widen (k := 0) (n := 0) (Nat.le_of_ble_eq_true rfl) (Nat.le_of_ble_eq_true rfl) ?_
    refine lv_iconst (v := nI 1) hx hb dX11_applies_239 (by decide) ?_
    refine mh_top (y := .int (bI true)) (rfl) ?_
    refine mh_zret hB ⟨Nat.le_of_ble_eq_true rfl, Nat.le_of_ble_eq_true rfl⟩ hS dX11_applies_240 (by first | rfl | decide | (split <;> rfl)) ⟨?_, (lowOf (lowOf (fun j9 => zbk (copI w0 (d0 * w0) j9)) zot (d0 * w0 * h0)) zbk ((d0 * w0) * h0)), (lowOf (fun j9 => zbk (copI w0 (d0 * w0) j9)) zot (d0 * w0 * h0)), ?_, ?_⟩
    · rfl
    · exact hR
    · intro k hk
      have h9 := hbk _ (copI_lt (d := d0) hw1 (by omega) hk)
      exact ⟨by rw [lowOf_all _ _ hk, lowOf_all _ _ hk]; exact h9.1, h9.2⟩
  · skip
    refine lv_aload_n hx hb dX11_applies_193 rfl (lv_at hl 0 rfl) ?_
    refine gf_X11_47 hB hR.o rfl dX11_applies_194 ?_
    refine lv_iload hx hb dX11_applies_197 (lv_at hl 4 rfl) ?_
    refine lv_aload_n hx hb dX11_applies_199 rfl (lv_at hl 0 rfl) ?_
    refine gf_X11_44 hB hR.o rfl dX11_applies_200 ?_
    refine lv_iload hx hb dX11_applies_203 (lv_at hl 4 rfl) ?_
    refine lv_iload_n hx hb dX11_applies_205 rfl (lv_at hl 3 rfl) ?_
    refine mn_idiv hB dX11_applies_206 (by omega) (by omega) (by omega) ?_
    refine lv_aload_n hx hb dX11_applies_207 rfl (lv_at hl 0 rfl) ?_
    refine gf_X11_90 hB hR.o rfl dX11_applies_208 ?_
    refine mn_imul hB dX11_applies_211 ?_
    refine lv_iload hx hb dX11_applies_212 (lv_at hl 4 rfl) ?_
    refine lv_iload_n hx hb dX11_applies_214 rfl (lv_at hl 3 rfl) ?_
    refine mn_irem hB dX11_applies_215 (by omega) (by omega) (by omega) ?_
    refine lv_aload_n hx hb dX11_applies_216 rfl (lv_at hl 0 rfl) ?_
    refine gf_X11_90 hB hR.o rfl dX11_applies_217 ?_
    refine mn_irem hB dX11_applies_220 (by have := Nat.mod_lt i9 hdw; omega) (by have := Nat.mod_lt i9 hdw; omega) (by have := Nat.mod_lt i9 hdw; omega) ?_
    refine mn_iadd hB dX11_applies_221 ?_
    refine mh_top (y := .int (nI (copI w0 (d0 * w0) i9))) (rfl) ?_
    refine mn_iald hB hR.a_zbk (by have := copI_lt (w := w0) (h := h0) (d := d0) (k := i9) hw1 (by omega) (by omega); omega) (by omega) dX11_applies_222 ?_
    refine mn_iast hB hR.a_zot (by first | exact Or.inl rfl | (simp only [ftA]; omega) | (simp [ftA]; omega)) hS (by omega) (by omega) dX11_applies_223 (fun H locs hwr => ?_)
    obtain ⟨hR, hS⟩ := hR.w_zot hwr
    refine lv_iinc (v := nI (i9 + 1)) (lv' := [(4, .int (nI (i9 + 1))), (0, .ref r), (1, .int (nI (48 + d0))), (2, .int (nI d0)), (3, .int (nI (d0 * w0)))]) hx hb dX11_applies_224 hl (k := 4) rfl (nI_1 _) (by decide) rfl (fun ls hl => ?_)
    refine lv_goto (tgt := 182) hx hb dX11_applies_227 (by decide) ?_
    refine ih182 (i9 + 1) _ _ _ ⟨(by omega), (by rw [← lowOf_up]; exact hR), hS, lv_sub hl [1, 2, 3, 4, 0] rfl⟩ (by dsimp only; omega)

def rm_c_X11_applies_d0 : Room := { frames := 0, cells := 0, slots := 0, locals := 0 }
set_option maxRecDepth 100000 in
set_option maxHeartbeats 400000 in
theorem c_X11_applies_d0 (l : Launch) (g : GG) (H0 : Heap) (r : Nat) (zq : Nat → Int32) (zsp : Nat → Int32) (zrm : Nat → Int32) (zst : Int32) (zsl : Nat → Int32) (zsv : Nat → Int32) (ztx : Nat → Int32) (zln : Int32) (zth : Int32) (zsg : Nat → Int32) (zbg : Nat → Int32) (zwd : Nat → Int32) (zhg : Nat → Int32) (zin : Nat → Int32) (zop : Int32) (zbe : Int32) (zbk : Nat → Int32) (zot : Nat → Int32) (zer : Int32) (zen : Int32) (zpo : Nat → Int32) (zpi : Int32) (zgr : Int32) (zsh : Nat → Int32) (zsn : Int32) (w0 : Nat) (h0 : Nat) (d0 : Nat) (hR : ModAt g r zq zsp zrm zst zsl zsv ztx zln zth zsg zbg zwd zhg zin zop zbe (nI w0) (nI h0) zbk zot zer zen zpo zpi zgr zsh zsn H0) (hw2 : w0 ≤ 16) (hd1 : 2 ≤ d0) (hd9 : d0 ≤ 9) (hd16 : 16 < d0 * w0) : Ct l yX11_applies cX11_applies 5 (some .boolean) rm_c_X11_applies_d0 g [.ref r, .int (nI (48 + d0))] H0 (ftA (fun _ => False) H0.size) (fun v H1 => v = some (.int (bI false)) ∧ H0 = H1) := by
  refine Ct.of (by decide) (fun _ h => Or.inr h) (Nat.le_of_ble_eq_true rfl) ?_
  intro p e s m below meth c ls hB hin hS hH hl
  have hx := hB.x
  have hb := hB.b
  have hl : lv_has ls 5 [(0, .ref r), (1, .int (nI (48 + d0)))] := hl
  refine lv_iload_n hx hb dX11_applies_0 rfl (lv_at hl 1 rfl) ?_
  refine lv_bipush (v := nI 60) hx hb dX11_applies_1 (by decide) ?_
  refine mn_icmp_ne (tgt := 77) hB dX11_applies_3 (by decide) (by omega) (by omega) (fun h_3 => ?_) (fun h => by exfalso; omega)
  refine lv_iload_n hx hb dX11_applies_77 rfl (lv_at hl 1 rfl) ?_
  refine lv_bipush (v := nI 94) hx hb dX11_applies_78 (by decide) ?_
  refine mn_icmp_ne (tgt := 154) hB dX11_applies_80 (by decide) (by omega) (by omega) (fun h_80 => ?_) (fun h => by exfalso; omega)
  refine lv_iload_n hx hb dX11_applies_154 rfl (lv_at hl 1 rfl) ?_
  refine lv_bipush (v := nI 48) hx hb dX11_applies_155 (by decide) ?_
  refine mn_isub hB dX11_applies_157 (by omega) ?_
  refine mh_top (y := .int (nI d0)) (by rw [Nat.add_sub_cancel_left]) ?_
  refine lv_istore_n (lv' := [(2, .int (nI d0)), (0, .ref r), (1, .int (nI (48 + d0)))]) hx hb dX11_applies_158 rfl hl (by decide) rfl (fun ls hl => ?_)
  refine lv_iload_n hx hb dX11_applies_159 rfl (lv_at hl 0 rfl) ?_
  refine lv_aload_n hx hb dX11_applies_160 rfl (lv_at hl 1 rfl) ?_
  refine gf_X11_90 hB hR.o rfl dX11_applies_161 ?_
  refine mn_imul hB dX11_applies_164 ?_
  refine lv_bipush (v := nI 16) hx hb dX11_applies_165 (by decide) ?_
  refine mn_icmp_le (tgt := 172) hB dX11_applies_167 (by decide) (by have := Nat.mul_le_mul hd9 hw2; omega) (by omega) (fun h => by exfalso; omega) (fun h_167 => ?_)
  refine lv_iconst (v := nI 0) hx hb dX11_applies_170 (by decide) ?_
  refine mh_top (y := .int (bI false)) (rfl) ?_
  refine mh_zret hB ⟨Nat.le_of_ble_eq_true rfl, Nat.le_of_ble_eq_true rfl⟩ hS dX11_applies_171 (by first | rfl | decide | (split <;> rfl)) ⟨?_, rfl⟩
  · rfl

def rm_c_X11_isAfter : Room := { frames := 3, cells := 0, slots := 0, locals := 66 }
set_option maxRecDepth 100000 in
set_option maxHeartbeats 400000 in
theorem c_X11_isAfter (l : Launch) (g : GG) (H0 : Heap) (r : Nat) (zq : Nat → Int32) (zsp : Nat → Int32) (zrm : Nat → Int32) (zst : Int32) (zsl : Nat → Int32) (zsv : Nat → Int32) (ztx : Nat → Int32) (zln : Int32) (zth : Int32) (zsg : Nat → Int32) (zbg : Nat → Int32) (zwd : Nat → Int32) (zhg : Nat → Int32) (zin : Nat → Int32) (zop : Int32) (zbe : Int32) (zwi : Int32) (zhi : Int32) (zbk : Nat → Int32) (zot : Nat → Int32) (zer : Int32) (zen : Int32) (zpo : Nat → Int32) (zpi : Int32) (zgr : Int32) (zsh : Nat → Int32) (zsn : Int32) (f : Nat) (g0 : Nat) (mi0 : Bool) (n0 : Nat) (hR : ModAt g r zq zsp zrm zst zsl zsv ztx zln zth zsg zbg zwd zhg zin zop zbe zwi zhi zbk zot zer zen zpo zpi zgr zsh zsn H0) (hW : WF zq) (hf : f < 3) (hg : g0 < 3) (hs0 : 0 < szF zq f) (hn : n0 < 4) : Ct l yX11_isAfter cX11_isAfter 6 (some .boolean) rm_c_X11_isAfter g [.ref r, .int (nI f), .int (nI g0), .int (bI mi0), .int (nI n0)] H0 (ftA (fun q => r ≤ q ∧ q < r + 16) H0.size) (fun v H1 => v = some (.int (bI (aftB zq f g0 mi0 n0))) ∧ ∃ (wi2 : Int32), ∃ (hi2 : Int32), ∃ (bk2 : Nat → Int32), ∃ (ot2 : Nat → Int32), ModAt g r zq zsp zrm zst zsl zsv ztx zln zth zsg zbg zwd zhg zin zop zbe wi2 hi2 bk2 ot2 zer zen zpo zpi zgr zsh zsn H1) := by
  refine Ct.of (by decide) (fun _ h => Or.inr h) (Nat.le_of_ble_eq_true rfl) ?_
  intro p e s m below meth c ls hB hin hS hH hl
  have hx := hB.x
  have hb := hB.b
  have hl : lv_has ls 6 [(0, .ref r), (1, .int (nI f)), (2, .int (nI g0)), (3, .int (bI mi0)), (4, .int (nI n0))] := hl
  have hF := hW.fr hf
  have hsz := WF.sz hF
  obtain ⟨hw1, hh1⟩ := WF.szw hF hs0
  have hw2 := hF.w16
  have hh2 := hF.h16
  refine lv_aload_n hx hb dX11_isAfter_0 rfl (lv_at hl 0 rfl) ?_
  refine lv_iload_n hx hb dX11_isAfter_1 rfl (lv_at hl 1 rfl) ?_
  refine cl_X11_190 (As := [.int (nI f)]) (rest := []) hB (c_X11_takes l g H0 r zq zsp zrm zst zsl zsv ztx zln zth zsg zbg zwd zhg zin zop zbe zwi zhi zbk zot zer zen zpo zpi zgr zsh zsn f hR (by omega) (hF)) hR.o rfl hl.1 (Nat.le_of_ble_eq_true rfl) dX11_isAfter_2 ⟨Nat.le_of_ble_eq_true rfl, Nat.le_of_ble_eq_true rfl⟩ ⟨Nat.le_of_ble_eq_true rfl, Nat.le_of_ble_eq_true rfl⟩ hS (by have hz9 := hS.1; rintro q (h | h) <;> first | exact Or.inr (by omega) | exact h.elim | exact Or.inl h | (simp only [ftA] at h ⊢; omega)) (fun v H1 locs hpo hfr hS => ?_)
  obtain ⟨rfl, hR⟩ := hpo
  generalize H1 = H at hfr hS hR ⊢
  refine W.widen (k := 0) (n := 0) (Nat.le_of_ble_eq_true rfl) (Nat.le_of_ble_eq_true rfl) ?_
  have hc0 : ∀ k, k < wdF zq f * htF zq f → lowOf (fun j9 => nI (clF zq f j9)) zbk (szF zq f) k = nI (clF zq f k) ∧ clF zq f k < 6 := fun k hk => ⟨by rw [lowOf_all _ _ (show k < szF zq f from hk)], hF.c6 (by have : wdF zq f * htF zq f ≤ 256 := hsz; omega)⟩
  refine lv_iload_n hx hb dX11_isAfter_5 rfl (lv_at hl 3 rfl) ?_
  refine mb_if_eq (tgt := 16) hB dX11_isAfter_6 (by decide) (fun h_6 => ?_) (fun h_6 => ?_)
  · skip
    have hc2 : ∀ k, k < wdF zq f * htF zq f → (lowOf (fun j9 => nI (clF zq f j9)) zbk (szF zq f)) k = nI (afC mi0 (wdF zq f) (clF zq f) k) ∧ afC mi0 (wdF zq f) (clF zq f) k < 6 := by rw [h_6]; first | exact hc1 | exact hc0
    refine lv_iconst (v := nI 0) hx hb dX11_isAfter_16 (by decide) ?_
    refine lv_istore (lv' := [(5, .int (nI 0)), (0, .ref r), (1, .int (nI f)), (2, .int (nI g0)), (3, .int (bI mi0)), (4, .int (nI n0))]) hx hb dX11_isAfter_17 hl (by decide) rfl (fun ls hl => ?_)
    refine mh_loop (σ := Nat × (Nat → Int32) × (Nat → Int32)) (fun xx9 H locs ls => match xx9 with | (k9, bk9, ot9) => k9 ≤ n0 ∧ (∀ k, k < (rtW (wdF zq f) (htF zq f) k9) * (rtW (htF zq f) (wdF zq f) k9) → bk9 k = nI (rtC (wdF zq f) (htF zq f) (afC mi0 (wdF zq f) (clF zq f)) k9 k) ∧ rtC (wdF zq f) (htF zq f) (afC mi0 (wdF zq f) (clF zq f)) k9 k < 6) ∧ ModAt g r zq zsp zrm zst zsl zsv ztx zln zth zsg zbg zwd zhg zin zop zbe (nI (rtW (wdF zq f) (htF zq f) k9)) (nI (rtW (htF zq f) (wdF zq f) k9)) bk9 ot9 zer zen zpo zpi zgr zsh zsn H ∧ va_S (ftA (fun q => r ≤ q ∧ q < r + 16) H0.size) H0 H locs ∧ lv_has ls 6 [(0, .ref r), (1, .int (nI f)), (2, .int (nI g0)), (3, .int (bI mi0)), (4, .int (nI n0)), (5, .int (nI k9))]) (fun xx9 => match xx9 with | (k9, bk9, ot9) => n0 - k9) ?_ (0, lowOf (fun j9 => nI (clF zq f j9)) zbk (szF zq f), zot) ⟨(by omega), (hc2), hR, hS, lv_sub hl [1, 2, 3, 4, 5, 0] rfl⟩
    rintro ⟨k9, bk9, ot9⟩ H locs ls ⟨hk9, hc3, hR, hS, hl⟩ ih
    have ih19 := ih
    have hrw := rtW_in (n := k9) ⟨hw1, hw2⟩ ⟨hh1, hh2⟩
    have hrh := rtW_in (n := k9) ⟨hh1, hh2⟩ ⟨hw1, hw2⟩
    refine lv_iload hx hb dX11_isAfter_19 (lv_at hl 5 rfl) ?_
    refine lv_iload hx hb dX11_isAfter_21 (lv_at hl 4 rfl) ?_
    refine mn_icmp_ge (tgt := 39) hB dX11_isAfter_23 (by decide) (by omega) (by omega) (fun h_23 => ?_) (fun h_23 => ?_)
    · skip
      have hin9 : n0 = k9 := by omega
      subst hin9
      refine lv_aload_n hx hb dX11_isAfter_39 rfl (lv_at hl 0 rfl) ?_
      refine lv_iload_n hx hb dX11_isAfter_40 rfl (lv_at hl 2 rfl) ?_
      refine cl_X11_193 (As := [.int (nI g0)]) (rest := []) hB (c_X11_isBlock l g H r zq zsp zrm zst zsl zsv ztx zln zth zsg zbg zwd zhg zin zop zbe bk9 ot9 zer zen zpo zpi zgr zsh zsn (rtW (wdF zq f) (htF zq f) n0) (rtW (htF zq f) (wdF zq f) n0) (rtC (wdF zq f) (htF zq f) (afC mi0 (wdF zq f) (clF zq f)) n0) g0 hR (by omega) (by omega) (hc3) (by omega) (hW.fr hg)) hR.o rfl hl.1 (Nat.le_of_ble_eq_true rfl) dX11_isAfter_41 ⟨Nat.le_of_ble_eq_true rfl, Nat.le_of_ble_eq_true rfl⟩ ⟨Nat.le_of_ble_eq_true rfl, Nat.le_of_ble_eq_true rfl⟩ hS (by have hz9 := hS.1; rintro q (h | h) <;> first | exact Or.inr (by omega) | exact h.elim | exact Or.inl h | (simp only [ftA] at h ⊢; omega)) (fun v H1 locs hpo hfr hS => ?_)
      obtain ⟨rfl, rfl⟩ := hpo
      refine W.widen (k := 0) (n := 0) (Nat.le_of_ble_eq_true rfl) (Nat.le_of_ble_eq_true rfl) ?_
      refine mh_top (y := .int (bI (aftB zq f g0 mi0 n0))) (rfl) ?_
      refine mh_zret hB ⟨Nat.le_of_ble_eq_true rfl, Nat.le_of_ble_eq_true rfl⟩ hS dX11_isAfter_44 (by cases aftB zq f g0 mi0 n0 <;> rfl) ⟨?_, (nI (rtW (wdF zq f) (htF zq f) n0)), (nI (rtW (htF zq f) (wdF zq f) n0)), bk9, ot9, ?_⟩
      · rfl
      · exact hR
    · skip
      refine lv_aload_n hx hb dX11_isAfter_26 rfl (lv_at hl 0 rfl) ?_
      refine lv_bipush (v := nI 94) hx hb dX11_isAfter_27 (by decide) ?_
      refine cl_X11_110 (As := [.int (nI 94)]) (rest := []) hB (c_X11_applies_t l g H r zq zsp zrm zst zsl zsv ztx zln zth zsg zbg zwd zhg zin zop zbe bk9 ot9 zer zen zpo zpi zgr zsh zsn (rtW (wdF zq f) (htF zq f) k9) (rtW (htF zq f) (wdF zq f) k9) (rtC (wdF zq f) (htF zq f) (afC mi0 (wdF zq f) (clF zq f)) k9) hR (by omega) (by omega) (by omega) (by omega) (hc3)) hR.o rfl hl.1 (Nat.le_of_ble_eq_true rfl) dX11_isAfter_29 ⟨Nat.le_of_ble_eq_true rfl, Nat.le_of_ble_eq_true rfl⟩ ⟨Nat.le_of_ble_eq_true rfl, Nat.le_of_ble_eq_true rfl⟩ hS (by have hz9 := hS.1; rintro q (h | h) <;> first | exact Or.inr (by omega) | exact h.elim | exact Or.inl h | (simp only [ftA] at h ⊢; omega)) (fun v H1 locs hpo hfr hS => ?_)
      obtain ⟨rfl, bk2_1, ot2_2, hR, hc5⟩ := hpo
      generalize H1 = H at hfr hS hR hc5 ⊢
      refine W.widen (k := 0) (n := 0) (Nat.le_of_ble_eq_true rfl) (Nat.le_of_ble_eq_true rfl) ?_
      have hc4 : ∀ k, k < rtW (wdF zq f) (htF zq f) (k9 + 1) * rtW (htF zq f) (wdF zq f) (k9 + 1) → _ := fun k hk => hc5 k (by rw [rtW_s, rtW_s] at hk; exact hk)
      refine lv_pop hx hb dX11_isAfter_32 rfl ?_
      refine lv_iinc (v := nI (k9 + 1)) (lv' := [(5, .int (nI (k9 + 1))), (0, .ref r), (1, .int (nI f)), (2, .int (nI g0)), (3, .int (bI mi0)), (4, .int (nI n0))]) hx hb dX11_isAfter_33 hl (k := 5) rfl (nI_1 _) (by decide) rfl (fun ls hl => ?_)
      refine lv_goto (tgt := 19) hx hb dX11_isAfter_36 (by decide) ?_
      refine ih19 (k9 + 1, bk2_1, ot2_2) _ _ _ ⟨(by omega), (hc4), (by rw [rtW_s, rtW_s]; exact hR), hS, lv_sub hl [1, 2, 3, 4, 5, 0] rfl⟩ (by dsimp only; omega)
  · skip
    refine lv_aload_n hx hb dX11_isAfter_9 rfl (lv_at hl 0 rfl) ?_
    refine lv_bipush (v := nI 60) hx hb dX11_isAfter_10 (by decide) ?_
    refine cl_X11_110 (As := [.int (nI 60)]) (rest := []) hB (c_X11_applies_m l g H r zq zsp zrm zst zsl zsv ztx zln zth zsg zbg zwd zhg zin zop zbe (lowOf (fun j9 => nI (clF zq f j9)) zbk (szF zq f)) zot zer zen zpo zpi zgr zsh zsn (wdF zq f) (htF zq f) (clF zq f) hR (by omega) (by omega) (by omega) (by omega) (hc0)) hR.o rfl hl.1 (Nat.le_of_ble_eq_true rfl) dX11_isAfter_12 ⟨Nat.le_of_ble_eq_true rfl, Nat.le_of_ble_eq_true rfl⟩ ⟨Nat.le_of_ble_eq_true rfl, Nat.le_of_ble_eq_true rfl⟩ hS (by have hz9 := hS.1; rintro q (h | h) <;> first | exact Or.inr (by omega) | exact h.elim | exact Or.inl h | (simp only [ftA] at h ⊢; omega)) (fun v H1 locs hpo hfr hS => ?_)
    obtain ⟨rfl, bk2_3, ot2_4, hR, hc1⟩ := hpo
    generalize H1 = H at hfr hS hR hc1 ⊢
    refine W.widen (k := 0) (n := 0) (Nat.le_of_ble_eq_true rfl) (Nat.le_of_ble_eq_true rfl) ?_
    refine lv_pop hx hb dX11_isAfter_15 rfl ?_
    have hc2 : ∀ k, k < wdF zq f * htF zq f → bk2_3 k = nI (afC mi0 (wdF zq f) (clF zq f) k) ∧ afC mi0 (wdF zq f) (clF zq f) k < 6 := by rw [h_6]; first | exact hc1 | exact hc0
    refine lv_iconst (v := nI 0) hx hb dX11_isAfter_16 (by decide) ?_
    refine lv_istore (lv' := [(5, .int (nI 0)), (0, .ref r), (1, .int (nI f)), (2, .int (nI g0)), (3, .int (bI mi0)), (4, .int (nI n0))]) hx hb dX11_isAfter_17 hl (by decide) rfl (fun ls hl => ?_)
    refine mh_loop (σ := Nat × (Nat → Int32) × (Nat → Int32)) (fun xx9 H locs ls => match xx9 with | (k9, bk9, ot9) => k9 ≤ n0 ∧ (∀ k, k < (rtW (wdF zq f) (htF zq f) k9) * (rtW (htF zq f) (wdF zq f) k9) → bk9 k = nI (rtC (wdF zq f) (htF zq f) (afC mi0 (wdF zq f) (clF zq f)) k9 k) ∧ rtC (wdF zq f) (htF zq f) (afC mi0 (wdF zq f) (clF zq f)) k9 k < 6) ∧ ModAt g r zq zsp zrm zst zsl zsv ztx zln zth zsg zbg zwd zhg zin zop zbe (nI (rtW (wdF zq f) (htF zq f) k9)) (nI (rtW (htF zq f) (wdF zq f) k9)) bk9 ot9 zer zen zpo zpi zgr zsh zsn H ∧ va_S (ftA (fun q => r ≤ q ∧ q < r + 16) H0.size) H0 H locs ∧ lv_has ls 6 [(0, .ref r), (1, .int (nI f)), (2, .int (nI g0)), (3, .int (bI mi0)), (4, .int (nI n0)), (5, .int (nI k9))]) (fun xx9 => match xx9 with | (k9, bk9, ot9) => n0 - k9) ?_ (0, bk2_3, ot2_4) ⟨(by omega), (hc2), hR, hS, lv_sub hl [1, 2, 3, 4, 5, 0] rfl⟩
    rintro ⟨k9, bk9, ot9⟩ H locs ls ⟨hk9, hc3, hR, hS, hl⟩ ih
    have ih19 := ih
    have hrw := rtW_in (n := k9) ⟨hw1, hw2⟩ ⟨hh1, hh2⟩
    have hrh := rtW_in (n := k9) ⟨hh1, hh2⟩ ⟨hw1, hw2⟩
    refine lv_iload hx hb dX11_isAfter_19 (lv_at hl 5 rfl) ?_
    refine lv_iload hx hb dX11_isAfter_21 (lv_at hl 4 rfl) ?_
    refine mn_icmp_ge (tgt := 39) hB dX11_isAfter_23 (by decide) (by omega) (by omega) (fun h_23 => ?_) (fun h_23 => ?_)
    · skip
      have hin9 : n0 = k9 := by omega
      subst hin9
      refine lv_aload_n hx hb dX11_isAfter_39 rfl (lv_at hl 0 rfl) ?_
      refine lv_iload_n hx hb dX11_isAfter_40 rfl (lv_at hl 2 rfl) ?_
      refine cl_X11_193 (As := [.int (nI g0)]) (rest := []) hB (c_X11_isBlock l g H r zq zsp zrm zst zsl zsv ztx zln zth zsg zbg zwd zhg zin zop zbe bk9 ot9 zer zen zpo zpi zgr zsh zsn (rtW (wdF zq f) (htF zq f) n0) (rtW (htF zq f) (wdF zq f) n0) (rtC (wdF zq f) (htF zq f) (afC mi0 (wdF zq f) (clF zq f)) n0) g0 hR (by omega) (by omega) (hc3) (by omega) (hW.fr hg)) hR.o rfl hl.1 (Nat.le_of_ble_eq_true rfl) dX11_isAfter_41 ⟨Nat.le_of_ble_eq_true rfl, Nat.le_of_ble_eq_true rfl⟩ ⟨Nat.le_of_ble_eq_true rfl, Nat.le_of_ble_eq_true rfl⟩ hS (by have hz9 := hS.1; rintro q (h | h) <;> first | exact Or.inr (by omega) | exact h.elim | exact Or.inl h | (simp only [ftA] at h ⊢; omega)) (fun v H1 locs hpo hfr hS => ?_)
      obtain ⟨rfl, rfl⟩ := hpo
      refine W.widen (k := 0) (n := 0) (Nat.le_of_ble_eq_true rfl) (Nat.le_of_ble_eq_true rfl) ?_
      refine mh_top (y := .int (bI (aftB zq f g0 mi0 n0))) (rfl) ?_
      refine mh_zret hB ⟨Nat.le_of_ble_eq_true rfl, Nat.le_of_ble_eq_true rfl⟩ hS dX11_isAfter_44 (by cases aftB zq f g0 mi0 n0 <;> rfl) ⟨?_, (nI (rtW (wdF zq f) (htF zq f) n0)), (nI (rtW (htF zq f) (wdF zq f) n0)), bk9, ot9, ?_⟩
      · rfl
      · exact hR
    · skip
      refine lv_aload_n hx hb dX11_isAfter_26 rfl (lv_at hl 0 rfl) ?_
      refine lv_bipush (v := nI 94) hx hb dX11_isAfter_27 (by decide) ?_
      refine cl_X11_110 (As := [.int (nI 94)]) (rest := []) hB (c_X11_applies_t l g H r zq zsp zrm zst zsl zsv ztx zln zth zsg zbg zwd zhg zin zop zbe bk9 ot9 zer zen zpo zpi zgr zsh zsn (rtW (wdF zq f) (htF zq f) k9) (rtW (htF zq f) (wdF zq f) k9) (rtC (wdF zq f) (htF zq f) (afC mi0 (wdF zq f) (clF zq f)) k9) hR (by omega) (by omega) (by omega) (by omega) (hc3)) hR.o rfl hl.1 (Nat.le_of_ble_eq_true rfl) dX11_isAfter_29 ⟨Nat.le_of_ble_eq_true rfl, Nat.le_of_ble_eq_true rfl⟩ ⟨Nat.le_of_ble_eq_true rfl, Nat.le_of_ble_eq_true rfl⟩ hS (by have hz9 := hS.1; rintro q (h | h) <;> first | exact Or.inr (by omega) | exact h.elim | exact Or.inl h | (simp only [ftA] at h ⊢; omega)) (fun v H1 locs hpo hfr hS => ?_)
      obtain ⟨rfl, bk2_5, ot2_6, hR, hc5⟩ := hpo
      generalize H1 = H at hfr hS hR hc5 ⊢
      refine W.widen (k := 0) (n := 0) (Nat.le_of_ble_eq_true rfl) (Nat.le_of_ble_eq_true rfl) ?_
      have hc4 : ∀ k, k < rtW (wdF zq f) (htF zq f) (k9 + 1) * rtW (htF zq f) (wdF zq f) (k9 + 1) → _ := fun k hk => hc5 k (by rw [rtW_s, rtW_s] at hk; exact hk)
      refine lv_pop hx hb dX11_isAfter_32 rfl ?_
      refine lv_iinc (v := nI (k9 + 1)) (lv' := [(5, .int (nI (k9 + 1))), (0, .ref r), (1, .int (nI f)), (2, .int (nI g0)), (3, .int (bI mi0)), (4, .int (nI n0))]) hx hb dX11_isAfter_33 hl (k := 5) rfl (nI_1 _) (by decide) rfl (fun ls hl => ?_)
      refine lv_goto (tgt := 19) hx hb dX11_isAfter_36 (by decide) ?_
      refine ih19 (k9 + 1, bk2_5, ot2_6) _ _ _ ⟨(by omega), (hc4), (by rw [rtW_s, rtW_s]; exact hR), hS, lv_sub hl [1, 2, 3, 4, 5, 0] rfl⟩ (by dsimp only; omega)
