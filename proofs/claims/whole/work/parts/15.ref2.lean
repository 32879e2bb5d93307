def rm_c_X11_gives : Room := { frames := 0, cells := 0, slots := 0, locals := 0 }
set_option maxRecDepth 100000 in
set_option maxHeartbeats 400000 in
theorem c_X11_gives (l : Launch) (g : GG) (H0 : Heap) (r : Nat) (zq : Nat → Int32) (zsp : Nat → Int32) (zrm : Nat → Int32) (zst : Int32) (zsl : Nat → Int32) (zsv : Nat → Int32) (ztx : Nat → Int32) (zln : Int32) (zth : Int32) (zsg : Nat → Int32) (zbg : Nat → Int32) (zwd : Nat → Int32) (zhg : Nat → Int32) (zin : Nat → Int32) (zop : Int32) (zbe : Int32) (zwi : Int32) (zhi : Int32) (zbk : Nat → Int32) (zot : Nat → Int32) (zer : Int32) (zen : Int32) (zpo : Nat → Int32) (zpi : Int32) (zgr : Int32) (zsh : Nat → Int32) (zsn : Int32) (k : Nat) (c0 : Nat) (x : Int32) (hR : ModAt g r zq zsp zrm zst zsl zsv ztx zln zth zsg zbg zwd zhg zin zop zbe zwi zhi zbk zot zer zen zpo zpi zgr zsh zsn H0) (hk : k < 5) (hc : c0 < 6) : Ct l yX11_gives cX11_gives 4 (some .int) rm_c_X11_gives g [.ref r, .int (nI k), .int (nI c0), .int x] H0 (ftA (fun q => r ≤ q ∧ q < r + 16) H0.size) (fun v H1 => v = some (.int (givQ zq k c0 x (50 + c0))) ∧ ModAt g r (givQ zq k c0 x) zsp zrm zst zsl zsv ztx zln zth zsg zbg zwd zhg zin zop zbe zwi zhi zbk zot zer zen zpo zpi zgr zsh zsn H1) := by
  refine Ct.of (by decide) (fun _ h => Or.inr h) (Nat.le_of_ble_eq_true rfl) ?_
  intro p e s m below meth c ls hB hin hS hH hl
  have hx := hB.x
  have hb := hB.b
  have hl : lv_has ls 4 [(0, .ref r), (1, .int (nI k)), (2, .int (nI c0)), (3, .int x)] := hl
  refine lv_aload_n hx hb dX11_gives_0 rfl (lv_at hl 0 rfl) ?_
  refine gf_X11_7 hB hR.o rfl dX11_gives_1 ?_
  refine lv_bipush (v := nI 15) hx hb dX11_gives_4 (by decide) ?_
  refine lv_bipush (v := nI 6) hx hb dX11_gives_6 (by decide) ?_
  refine lv_iload_n hx hb dX11_gives_8 rfl (lv_at hl 1 rfl) ?_
  refine mn_imul hB dX11_gives_9 ?_
  refine mn_iadd hB dX11_gives_10 ?_
  refine lv_iload_n hx hb dX11_gives_11 rfl (lv_at hl 2 rfl) ?_
  refine mn_iadd hB dX11_gives_12 ?_
  refine lv_dup2_11 hx hb dX11_gives_13 rfl rfl ?_
  refine mn_iald hB hR.a_zq (by omega) (by omega) dX11_gives_14 ?_
  refine lv_iload_n hx hb dX11_gives_15 rfl (lv_at hl 3 rfl) ?_
  refine lv_iadd hx hb dX11_gives_16 ?_
  refine mn_iast hB hR.a_zq (by first | exact Or.inl rfl | (simp only [ftA]; omega) | (simp [ftA]; omega)) hS (by omega) (by omega) dX11_gives_17 (fun H locs hwr => ?_)
  obtain ⟨hR, hS⟩ := hR.w_zq hwr
  refine lv_aload_n hx hb dX11_gives_18 rfl (lv_at hl 0 rfl) ?_
  refine gf_X11_7 hB hR.o rfl dX11_gives_19 ?_
  refine lv_bipush (v := nI 50) hx hb dX11_gives_22 (by decide) ?_
  refine lv_iload_n hx hb dX11_gives_24 rfl (lv_at hl 2 rfl) ?_
  refine mn_iadd hB dX11_gives_25 ?_
  refine lv_dup2_11 hx hb dX11_gives_26 rfl rfl ?_
  refine mn_iald hB hR.a_zq (by omega) (by omega) dX11_gives_27 ?_
  refine lv_iload_n hx hb dX11_gives_28 rfl (lv_at hl 3 rfl) ?_
  refine lv_iadd hx hb dX11_gives_29 ?_
  refine mn_iast hB hR.a_zq (by first | exact Or.inl rfl | (simp only [ftA]; omega) | (simp [ftA]; omega)) hS (by omega) (by omega) dX11_gives_30 (fun H locs hwr => ?_)
  obtain ⟨hR, hS⟩ := hR.w_zq hwr
  refine lv_aload_n hx hb dX11_gives_31 rfl (lv_at hl 0 rfl) ?_
  refine gf_X11_7 hB hR.o rfl dX11_gives_32 ?_
  refine lv_bipush (v := nI 50) hx hb dX11_gives_35 (by decide) ?_
  refine lv_iload_n hx hb dX11_gives_37 rfl (lv_at hl 2 rfl) ?_
  refine mn_iadd hB dX11_gives_38 ?_
  refine mn_iald hB hR.a_zq (by omega) (by omega) dX11_gives_39 ?_
  refine mh_iret hB ⟨Nat.le_of_ble_eq_true rfl, Nat.le_of_ble_eq_true rfl⟩ hS dX11_gives_40 ⟨?_, ?_⟩
  · rfl
  · exact hR

def rm_c_X11_canSew : Room := { frames := 2, cells := 0, slots := 0, locals := 42 }
set_option maxRecDepth 100000 in
set_option maxHeartbeats 400000 in
theorem c_X11_canSew (l : Launch) (g : GG) (H0 : Heap) (r : Nat) (zq : Nat → Int32) (zsp : Nat → Int32) (zrm : Nat → Int32) (zst : Int32) (zsl : Nat → Int32) (zsv : Nat → Int32) (ztx : Nat → Int32) (zln : Int32) (zth : Int32) (zsg : Nat → Int32) (zbg : Nat → Int32) (zwd : Nat → Int32) (zhg : Nat → Int32) (zin : Nat → Int32) (zop : Int32) (zbe : Int32) (zwi : Int32) (zhi : Int32) (zbk : Nat → Int32) (zot : Nat → Int32) (zer : Int32) (zen : Int32) (zpo : Nat → Int32) (zpi : Int32) (zgr : Int32) (zsh : Nat → Int32) (zsn : Int32) (f : Nat) (hR : ModAt g r zq zsp zrm zst zsl zsv ztx zln zth zsg zbg zwd zhg zin zop zbe zwi zhi zbk zot zer zen zpo zpi zgr zsh zsn H0) (hf : f < 3) (hW : WF zq) : Ct l yX11_canSew cX11_canSew 2 (some .boolean) rm_c_X11_canSew g [.ref r, .int (nI f)] H0 (ftA (fun _ => False) H0.size) (fun v H1 => v = some (.int (bI (decide (0 < szF zq f ∧ 0 < nmQ zq)))) ∧ H0 = H1) := by
  refine Ct.of (by decide) (fun _ h => Or.inr h) (Nat.le_of_ble_eq_true rfl) ?_
  intro p e s m below meth c ls hB hin hS hH hl
  have hx := hB.x
  have hb := hB.b
  have hl : lv_has ls 2 [(0, .ref r), (1, .int (nI f))] := hl
  have hF := hW.fr hf
  have hsz := WF.sz hF
  have hnm := hW.2.2.1
  refine lv_aload_n hx hb dX11_canSew_0 rfl (lv_at hl 0 rfl) ?_
  refine lv_iload_n hx hb dX11_canSew_1 rfl (lv_at hl 1 rfl) ?_
  refine cl_X11_75 (As := [.int (nI f)]) (rest := []) hB (c_X11_patches l g H0 r zq zsp zrm zst zsl zsv ztx zln zth zsg zbg zwd zhg zin zop zbe zwi zhi zbk zot zer zen zpo zpi zgr zsh zsn f hR (by omega) (by omega)) hR.o rfl hl.1 (Nat.le_of_ble_eq_true rfl) dX11_canSew_2 ⟨Nat.le_of_ble_eq_true rfl, Nat.le_of_ble_eq_true rfl⟩ ⟨Nat.le_of_ble_eq_true rfl, Nat.le_of_ble_eq_true rfl⟩ hS (by have hz9 := hS.1; rintro q (h | h) <;> first | exact Or.inr (by omega) | exact h.elim | exact Or.inl h | (simp only [ftA] at h ⊢; omega)) (fun v H1 locs hpo hfr hS => ?_)
  obtain ⟨rfl, rfl⟩ := hpo
  refine W.widen (k := 0) (n := 0) (Nat.le_of_ble_eq_true rfl) (Nat.le_of_ble_eq_true rfl) ?_
  refine mn_if_le (tgt := 21) hB dX11_canSew_5 (by decide) (by omega) (fun h_5 => ?_) (fun h_5 => ?_)
  · skip
    refine lv_iconst (v := nI 0) hx hb dX11_canSew_21 (by decide) ?_
    refine mh_zret hB ⟨Nat.le_of_ble_eq_true rfl, Nat.le_of_ble_eq_true rfl⟩ hS dX11_canSew_22 (by first | rfl | decide | (split <;> rfl)) ⟨?_, rfl⟩
    · first | (rw [show decide (0 < szF zq f ∧ 0 < nmQ zq) = true from by (simp only [decide_eq_true_eq]; omega)]; rfl) | (rw [show decide (0 < szF zq f ∧ 0 < nmQ zq) = false from by (simp only [decide_eq_false_iff_not]; omega)]; rfl)
  · skip
    refine lv_aload_n hx hb dX11_canSew_8 rfl (lv_at hl 0 rfl) ?_
    refine gf_X11_7 hB hR.o rfl dX11_canSew_9 ?_
    refine lv_iconst (v := nI 0) hx hb dX11_canSew_12 (by decide) ?_
    refine mn_iald hB hR.a_zq (by omega) (by omega) dX11_canSew_13 ?_
    refine mh_top (y := .int (nI (nmQ zq))) (by rw [hW.1]) ?_
    refine mn_if_le (tgt := 21) hB dX11_canSew_14 (by decide) (by omega) (fun h_14 => ?_) (fun h_14 => ?_)
    · skip
      refine lv_iconst (v := nI 0) hx hb dX11_canSew_21 (by decide) ?_
      refine mh_zret hB ⟨Nat.le_of_ble_eq_true rfl, Nat.le_of_ble_eq_true rfl⟩ hS dX11_canSew_22 (by first | rfl | decide | (split <;> rfl)) ⟨?_, rfl⟩
      · first | (rw [show decide (0 < szF zq f ∧ 0 < nmQ zq) = true from by (simp only [decide_eq_true_eq]; omega)]; rfl) | (rw [show decide (0 < szF zq f ∧ 0 < nmQ zq) = false from by (simp only [decide_eq_false_iff_not]; omega)]; rfl)
    · skip
      refine lv_iconst (v := nI 1) hx hb dX11_canSew_17 (by decide) ?_
      refine lv_goto (tgt := 22) hx hb dX11_canSew_18 (by decide) ?_
      refine mh_zret hB ⟨Nat.le_of_ble_eq_true rfl, Nat.le_of_ble_eq_true rfl⟩ hS dX11_canSew_22 (by first | rfl | decide | (split <;> rfl)) ⟨?_, rfl⟩
      · first | (rw [show decide (0 < szF zq f ∧ 0 < nmQ zq) = true from by (simp only [decide_eq_true_eq]; omega)]; rfl) | (rw [show decide (0 < szF zq f ∧ 0 < nmQ zq) = false from by (simp only [decide_eq_false_iff_not]; omega)]; rfl)

def rm_c_X11_canRecolour : Room := { frames := 2, cells := 0, slots := 0, locals := 42 }
set_option maxRecDepth 100000 in
set_option maxHeartbeats 400000 in
theorem c_X11_canRecolour (l : Launch) (g : GG) (H0 : Heap) (r : Nat) (zq : Nat → Int32) (zsp : Nat → Int32) (zrm : Nat → Int32) (zst : Int32) (zsl : Nat → Int32) (zsv : Nat → Int32) (ztx : Nat → Int32) (zln : Int32) (zth : Int32) (zsg : Nat → Int32) (zbg : Nat → Int32) (zwd : Nat → Int32) (zhg : Nat → Int32) (zin : Nat → Int32) (zop : Int32) (zbe : Int32) (zwi : Int32) (zhi : Int32) (zbk : Nat → Int32) (zot : Nat → Int32) (zer : Int32) (zen : Int32) (zpo : Nat → Int32) (zpi : Int32) (zgr : Int32) (zsh : Nat → Int32) (zsn : Int32) (f : Nat) (hR : ModAt g r zq zsp zrm zst zsl zsv ztx zln zth zsg zbg zwd zhg zin zop zbe zwi zhi zbk zot zer zen zpo zpi zgr zsh zsn H0) (hf : f < 3) (hF : WFf zq f) : Ct l yX11_canRecolour cX11_canRecolour 2 (some .boolean) rm_c_X11_canRecolour g [.ref r, .int (nI f)] H0 (ftA (fun _ => False) H0.size) (fun v H1 => v = some (.int (bI (decide (0 < szF zq f ∧ swF zq f = 0)))) ∧ H0 = H1) := by
  refine Ct.of (by decide) (fun _ h => Or.inr h) (Nat.le_of_ble_eq_true rfl) ?_
  intro p e s m below meth c ls hB hin hS hH hl
  have hx := hB.x
  have hb := hB.b
  have hl : lv_has ls 2 [(0, .ref r), (1, .int (nI f))] := hl
  have hsz := WF.sz hF
  have hsw := WF.sw hF
  refine lv_aload_n hx hb dX11_canRecolour_0 rfl (lv_at hl 0 rfl) ?_
  refine lv_iload_n hx hb dX11_canRecolour_1 rfl (lv_at hl 1 rfl) ?_
  refine cl_X11_75 (As := [.int (nI f)]) (rest := []) hB (c_X11_patches l g H0 r zq zsp zrm zst zsl zsv ztx zln zth zsg zbg zwd zhg zin zop zbe zwi zhi zbk zot zer zen zpo zpi zgr zsh zsn f hR (by omega) (by omega)) hR.o rfl hl.1 (Nat.le_of_ble_eq_true rfl) dX11_canRecolour_2 ⟨Nat.le_of_ble_eq_true rfl, Nat.le_of_ble_eq_true rfl⟩ ⟨Nat.le_of_ble_eq_true rfl, Nat.le_of_ble_eq_true rfl⟩ hS (by have hz9 := hS.1; rintro q (h | h) <;> first | exact Or.inr (by omega) | exact h.elim | exact Or.inl h | (simp only [ftA] at h ⊢; omega)) (fun v H1 locs hpo hfr hS => ?_)
  obtain ⟨rfl, rfl⟩ := hpo
  refine W.widen (k := 0) (n := 0) (Nat.le_of_ble_eq_true rfl) (Nat.le_of_ble_eq_true rfl) ?_
  refine mn_if_le (tgt := 25) hB dX11_canRecolour_5 (by decide) (by omega) (fun h_5 => ?_) (fun h_5 => ?_)
  · skip
    refine lv_iconst (v := nI 0) hx hb dX11_canRecolour_25 (by decide) ?_
    refine mh_zret hB ⟨Nat.le_of_ble_eq_true rfl, Nat.le_of_ble_eq_true rfl⟩ hS dX11_canRecolour_26 (by first | rfl | decide | (split <;> rfl)) ⟨?_, rfl⟩
    · first | (rw [show decide (0 < szF zq f ∧ swF zq f = 0) = true from by (simp only [decide_eq_true_eq]; omega)]; rfl) | (rw [show decide (0 < szF zq f ∧ swF zq f = 0) = false from by (simp only [decide_eq_false_iff_not]; omega)]; rfl)
  · skip
    refine lv_aload_n hx hb dX11_canRecolour_8 rfl (lv_at hl 0 rfl) ?_
    refine gf_X11_7 hB hR.o rfl dX11_canRecolour_9 ?_
    refine lv_iload_n hx hb dX11_canRecolour_12 rfl (lv_at hl 1 rfl) ?_
    refine lv_iconst (v := nI 2) hx hb dX11_canRecolour_13 (by decide) ?_
    refine cl_X11_71 (As := [.int (nI f), .int (nI 2)]) (rest := [.ref (r + 1)]) hB (c_X11_at l g H0 f 2) rfl hl.1 (Nat.le_of_ble_eq_true rfl) dX11_canRecolour_14 ⟨Nat.le_of_ble_eq_true rfl, Nat.le_of_ble_eq_true rfl⟩ ⟨Nat.le_of_ble_eq_true rfl, Nat.le_of_ble_eq_true rfl⟩ hS (by have hz9 := hS.1; rintro q (h | h) <;> first | exact Or.inr (by omega) | exact h.elim | exact Or.inl h | (simp only [ftA] at h ⊢; omega)) (fun v H1 locs hpo hfr hS => ?_)
    obtain ⟨rfl, rfl⟩ := hpo
    refine W.widen (k := 0) (n := 0) (Nat.le_of_ble_eq_true rfl) (Nat.le_of_ble_eq_true rfl) ?_
    refine mn_iald hB hR.a_zq (by omega) (by omega) dX11_canRecolour_17 ?_
    refine mh_top (y := .int (nI (swF zq f))) (by rw [hF.s]) ?_
    refine mn_if_ne (tgt := 25) hB dX11_canRecolour_18 (by decide) (by omega) (fun h_18 => ?_) (fun h_18 => ?_)
    · skip
      refine lv_iconst (v := nI 0) hx hb dX11_canRecolour_25 (by decide) ?_
      refine mh_zret hB ⟨Nat.le_of_ble_eq_true rfl, Nat.le_of_ble_eq_true rfl⟩ hS dX11_canRecolour_26 (by first | rfl | decide | (split <;> rfl)) ⟨?_, rfl⟩
      · first | (rw [show decide (0 < szF zq f ∧ swF zq f = 0) = true from by (simp only [decide_eq_true_eq]; omega)]; rfl) | (rw [show decide (0 < szF zq f ∧ swF zq f = 0) = false from by (simp only [decide_eq_false_iff_not]; omega)]; rfl)
    · skip
      refine lv_iconst (v := nI 1) hx hb dX11_canRecolour_21 (by decide) ?_
      refine lv_goto (tgt := 26) hx hb dX11_canRecolour_22 (by decide) ?_
      refine mh_zret hB ⟨Nat.le_of_ble_eq_true rfl, Nat.le_of_ble_eq_true rfl⟩ hS dX11_canRecolour_26 (by first | rfl | decide | (split <;> rfl)) ⟨?_, rfl⟩
      · first | (rw [show decide (0 < szF zq f ∧ swF zq f = 0) = true from by (simp only [decide_eq_true_eq]; omega)]; rfl) | (rw [show decide (0 < szF zq f ∧ swF zq f = 0) = false from by (simp only [decide_eq_false_iff_not]; omega)]; rfl)

def rm_c_X11_empties : Room := { frames := 1, cells := 0, slots := 0, locals := 21 }
set_option maxRecDepth 100000 in
set_option maxHeartbeats 400000 in
theorem c_X11_empties (l : Launch) (g : GG) (H0 : Heap) (r : Nat) (zq : Nat → Int32) (zsp : Nat → Int32) (zrm : Nat → Int32) (zst : Int32) (zsl : Nat → Int32) (zsv : Nat → Int32) (ztx : Nat → Int32) (zln : Int32) (zth : Int32) (zsg : Nat → Int32) (zbg : Nat → Int32) (zwd : Nat → Int32) (zhg : Nat → Int32) (zin : Nat → Int32) (zop : Int32) (zbe : Int32) (zwi : Int32) (zhi : Int32) (zbk : Nat → Int32) (zot : Nat → Int32) (zer : Int32) (zen : Int32) (zpo : Nat → Int32) (zpi : Int32) (zgr : Int32) (zsh : Nat → Int32) (zsn : Int32) (f : Nat) (hR : ModAt g r zq zsp zrm zst zsl zsv ztx zln zth zsg zbg zwd zhg zin zop zbe zwi zhi zbk zot zer zen zpo zpi zgr zsh zsn H0) (hf : f < 3) : Ct l yX11_empties cX11_empties 3 none rm_c_X11_empties g [.ref r, .int (nI f)] H0 (ftA (fun q => r ≤ q ∧ q < r + 16) H0.size) (fun v H1 => v = none ∧ ModAt g r (empQ zq f 264) zsp zrm zst zsl zsv ztx zln zth zsg zbg zwd zhg zin zop zbe zwi zhi zbk zot zer zen zpo zpi zgr zsh zsn H1) := by
  refine Ct.of (by decide) (fun _ h => Or.inr h) (Nat.le_of_ble_eq_true rfl) ?_
  intro p e s m below meth c ls hB hin hS hH hl
  have hx := hB.x
  have hb := hB.b
  have hl : lv_has ls 3 [(0, .ref r), (1, .int (nI f))] := hl
  refine lv_iconst (v := nI 0) hx hb dX11_empties_0 (by decide) ?_
  refine lv_istore_n (lv' := [(2, .int (nI 0)), (0, .ref r), (1, .int (nI f))]) hx hb dX11_empties_1 rfl hl (by decide) rfl (fun ls hl => ?_)
  refine mh_loop (σ := Nat) (fun xx9 H locs ls => match xx9 with | i => i ≤ 264 ∧ ModAt g r (empQ zq f i) zsp zrm zst zsl zsv ztx zln zth zsg zbg zwd zhg zin zop zbe zwi zhi zbk zot zer zen zpo zpi zgr zsh zsn H ∧ va_S (ftA (fun q => r ≤ q ∧ q < r + 16) H0.size) H0 H locs ∧ lv_has ls 3 [(0, .ref r), (1, .int (nI f)), (2, .int (nI i))]) (fun xx9 => match xx9 with | i => 264 - i) ?_ 0 ⟨(by omega), (by rw [empQ_0]; exact hR), hS, lv_sub hl [1, 2, 0] rfl⟩
  rintro i H locs ls ⟨hi, hR, hS, hl⟩ ih
  have ih2 := ih
  refine lv_iload_n hx hb dX11_empties_2 rfl (lv_at hl 2 rfl) ?_
  refine lv_sipush (v := nI 264) hx hb dX11_empties_3 (by decide +kernel) ?_
  refine mn_icmp_ge (tgt := 26) hB dX11_empties_6 (by decide) (by omega) (by omega) (fun h_6 => ?_) (fun h_6 => ?_)
  · skip
    have hin : i = 264 := by omega
    subst hin
    refine mh_vret hB ⟨Nat.le_of_ble_eq_true rfl, Nat.le_of_ble_eq_true rfl⟩ hS dX11_empties_26 ⟨?_, ?_⟩
    · rfl
    · exact hR
  · skip
    refine lv_aload_n hx hb dX11_empties_9 rfl (lv_at hl 0 rfl) ?_
    refine gf_X11_7 hB hR.o rfl dX11_empties_10 ?_
    refine lv_iload_n hx hb dX11_empties_13 rfl (lv_at hl 1 rfl) ?_
    refine lv_iload_n hx hb dX11_empties_14 rfl (lv_at hl 2 rfl) ?_
    refine cl_X11_71 (As := [.int (nI f), .int (nI i)]) (rest := [.ref (r + 1)]) hB (c_X11_at l g H f i) rfl hl.1 (Nat.le_of_ble_eq_true rfl) dX11_empties_15 ⟨Nat.le_of_ble_eq_true rfl, Nat.le_of_ble_eq_true rfl⟩ ⟨Nat.le_of_ble_eq_true rfl, Nat.le_of_ble_eq_true rfl⟩ hS (by have hz9 := hS.1; rintro q (h | h) <;> first | exact Or.inr (by omega) | exact h.elim | exact Or.inl h | (simp only [ftA] at h ⊢; omega)) (fun v H1 locs hpo hfr hS => ?_)
    obtain ⟨rfl, rfl⟩ := hpo
    refine W.widen (k := 0) (n := 0) (Nat.le_of_ble_eq_true rfl) (Nat.le_of_ble_eq_true rfl) ?_
    refine lv_iconst (v := nI 0) hx hb dX11_empties_18 (by decide) ?_
    refine mn_iast hB hR.a_zq (by first | exact Or.inl rfl | (simp only [ftA]; omega) | (simp [ftA]; omega)) hS (by omega) (by omega) dX11_empties_19 (fun H locs hwr => ?_)
    obtain ⟨hR, hS⟩ := hR.w_zq hwr
    refine lv_iinc (v := nI (i + 1)) (lv' := [(2, .int (nI (i + 1))), (0, .ref r), (1, .int (nI f))]) hx hb dX11_empties_20 hl (k := 2) rfl (nI_1 _) (by decide) rfl (fun ls hl => ?_)
    refine lv_goto (tgt := 2) hx hb dX11_empties_23 (by decide) ?_
    refine ih2 (i + 1) _ _ _ ⟨(by omega), (by rw [← empQ_up]; exact hR), hS, lv_sub hl [1, 2, 0] rfl⟩ (by dsimp only; omega)

def rm_c_X11_sews : Room := { frames := 2, cells := 0, slots := 0, locals := 43 }
set_option maxRecDepth 100000 in
set_option maxHeartbeats 400000 in
theorem c_X11_sews (l : Launch) (g : GG) (H0 : Heap) (r : Nat) (zq : Nat → Int32) (zsp : Nat → Int32) (zrm : Nat → Int32) (zst : Int32) (zsl : Nat → Int32) (zsv : Nat → Int32) (ztx : Nat → Int32) (zln : Int32) (zth : Int32) (zsg : Nat → Int32) (zbg : Nat → Int32) (zwd : Nat → Int32) (zhg : Nat → Int32) (zin : Nat → Int32) (zop : Int32) (zbe : Int32) (zwi : Int32) (zhi : Int32) (zbk : Nat → Int32) (zot : Nat → Int32) (zer : Int32) (zen : Int32) (zpo : Nat → Int32) (zpi : Int32) (zgr : Int32) (zsh : Nat → Int32) (zsn : Int32) (f : Nat) (n : Nat) (hR : ModAt g r zq zsp zrm zst zsl zsv ztx zln zth zsg zbg zwd zhg zin zop zbe zwi zhi zbk zot zer zen zpo zpi zgr zsh zsn H0) (hf : f < 3) (hW : WF zq) (hn : n < 100) (h0 : 0 < nmQ zq) : Ct l yX11_sews cX11_sews 7 (some .int) rm_c_X11_sews g [.ref r, .int (nI f), .int (nI n)] H0 (ftA (fun q => r ≤ q ∧ q < r + 16) H0.size) (fun v H1 => v = some (.int (nI (sewN f (tnQ zq) n zq))) ∧ ModAt g r (sewE f n zq) zsp zrm zst zsl zsv ztx zln zth zsg zbg zwd zhg zin zop zbe zwi zhi zbk zot zer zen zpo zpi zgr zsh zsn H1) := by
  refine Ct.of (by decide) (fun _ h => Or.inr h) (Nat.le_of_ble_eq_true rfl) ?_
  intro p e s m below meth c ls hB hin hS hH hl
  have hx := hB.x
  have hb := hB.b
  have hl : lv_has ls 7 [(0, .ref r), (1, .int (nI f)), (2, .int (nI n))] := hl
  have hnm := hW.2.2.1
  have htn : tnQ zq < nmQ zq := by rcases hW.2.2.2.1 with z | z <;> omega
  refine lv_aload_n hx hb dX11_sews_0 rfl (lv_at hl 0 rfl) ?_
  refine gf_X11_7 hB hR.o rfl dX11_sews_1 ?_
  refine lv_iconst (v := nI 1) hx hb dX11_sews_4 (by decide) ?_
  refine mn_iald hB hR.a_zq (by omega) (by omega) dX11_sews_5 ?_
  refine mh_top (y := .int (nI (tnQ zq))) (by rw [hW.2.1]) ?_
  refine lv_istore_n (lv' := [(3, .int (nI (tnQ zq))), (0, .ref r), (1, .int (nI f)), (2, .int (nI n))]) hx hb dX11_sews_6 rfl hl (by decide) rfl (fun ls hl => ?_)
  refine lv_iconst (v := nI 0) hx hb dX11_sews_7 (by decide) ?_
  refine lv_istore (lv' := [(4, .int (nI 0)), (3, .int (nI (tnQ zq))), (0, .ref r), (1, .int (nI f)), (2, .int (nI n))]) hx hb dX11_sews_8 hl (by decide) rfl (fun ls hl => ?_)
  refine lv_iconst (v := nI 1) hx hb dX11_sews_10 (by decide) ?_
  refine mh_top (y := .int (bI true)) (rfl) ?_
  refine lv_istore (lv' := [(5, .int (bI true)), (4, .int (nI 0)), (3, .int (nI (tnQ zq))), (0, .ref r), (1, .int (nI f)), (2, .int (nI n))]) hx hb dX11_sews_11 hl (by decide) rfl (fun ls hl => ?_)
  refine mh_loop (σ := Nat × (Nat → Int32) × Bool) (fun xx9 H locs ls => match xx9 with | (i, qi, go) => i ≤ n ∧ WF qi ∧ (if go = true then sewQ f (tnQ zq) (n - i) qi else qi) = sewQ f (tnQ zq) n zq ∧ i + (if go = true then sewN f (tnQ zq) (n - i) qi else 0) = sewN f (tnQ zq) n zq ∧ nmQ qi = nmQ zq ∧ ModAt g r qi zsp zrm zst zsl zsv ztx zln zth zsg zbg zwd zhg zin zop zbe zwi zhi zbk zot zer zen zpo zpi zgr zsh zsn H ∧ va_S (ftA (fun q => r ≤ q ∧ q < r + 16) H0.size) H0 H locs ∧ lv_has ls 7 [(0, .ref r), (1, .int (nI f)), (2, .int (nI n)), (3, .int (nI (tnQ zq))), (4, .int (nI i)), (5, .int (bI go))]) (fun xx9 => match xx9 with | (i, qi, go) => (n - i) * 2 + (if go = true then 1 else 0)) ?_ (0, zq, true) ⟨(by omega), (hW), (rfl), (by simp), (rfl), hR, hS, lv_sub hl [3, 4, 5, 2, 1, 0] rfl⟩
  rintro ⟨i, qi, go⟩ H locs ls ⟨hi, hWi, hsq, hsn, hm0, hR, hS, hl⟩ ih
  have ih13 := ih
  have hFi := hWi.fr hf
  have hszi := WF.sz hFi
  have hswi := WF.sw hFi
  have hci := hFi.c6 (k := swF qi f)
  have hbl := hFi.ble (m := tnQ zq) (by omega)
  refine lv_iload hx hb dX11_sews_13 (lv_at hl 5 rfl) ?_
  refine mb_if_eq (tgt := 146) hB dX11_sews_15 (by decide) (fun hgo => ?_) (fun hgo => ?_)
  · skip
    have hfin : qi = sewQ f (tnQ zq) n zq ∧ i = sewN f (tnQ zq) n zq := by
      first
      | (subst hgo; exact ⟨by simpa using hsq, by simpa using hsn⟩)
      | (have hin : n - i = 0 := by omega
         rw [hgo, if_pos rfl, hin] at hsq hsn; exact ⟨hsq, hsn⟩)
      | (have hk : sewOk qi f = false := by simp only [sewOk, Bool.and_eq_false_iff, decide_eq_false_iff_not]; exact Or.inl (by omega)
         rw [hgo, if_pos rfl, sewQ_f hk] at hsq; rw [hgo, if_pos rfl, sewN_f hk] at hsn; exact ⟨hsq, hsn⟩)
    refine lv_aload_n hx hb dX11_sews_146 rfl (lv_at hl 0 rfl) ?_
    refine gf_X11_7 hB hR.o rfl dX11_sews_147 ?_
    refine lv_iconst (v := nI 1) hx hb dX11_sews_150 (by decide) ?_
    refine lv_iload_n hx hb dX11_sews_151 rfl (lv_at hl 3 rfl) ?_
    refine lv_iconst (v := nI 1) hx hb dX11_sews_152 (by decide) ?_
    refine mn_iadd hB dX11_sews_153 ?_
    refine lv_aload_n hx hb dX11_sews_154 rfl (lv_at hl 0 rfl) ?_
    refine gf_X11_7 hB hR.o rfl dX11_sews_155 ?_
    refine lv_iconst (v := nI 0) hx hb dX11_sews_158 (by decide) ?_
    refine mn_iald hB hR.a_zq (by omega) (by omega) dX11_sews_159 ?_
    refine mh_top (y := .int (nI (nmQ zq))) (by rw [hWi.1, hm0]) ?_
    refine mn_irem hB dX11_sews_160 (by omega) (by omega) (by omega) ?_
    refine mn_iast hB hR.a_zq (by first | exact Or.inl rfl | (simp only [ftA]; omega) | (simp [ftA]; omega)) hS (by omega) (by omega) dX11_sews_161 (fun H locs hwr => ?_)
    obtain ⟨hR, hS⟩ := hR.w_zq hwr
    refine lv_iload hx hb dX11_sews_162 (lv_at hl 4 rfl) ?_
    refine mh_iret hB ⟨Nat.le_of_ble_eq_true rfl, Nat.le_of_ble_eq_true rfl⟩ hS dX11_sews_164 ⟨?_, ?_⟩
    · rw [hfin.2]
    · rw [hfin.1] at hR; exact hR
  · skip
    refine lv_iload hx hb dX11_sews_18 (lv_at hl 4 rfl) ?_
    refine lv_iload_n hx hb dX11_sews_20 rfl (lv_at hl 2 rfl) ?_
    refine mn_icmp_ge (tgt := 146) hB dX11_sews_21 (by decide) (by omega) (by omega) (fun h_21 => ?_) (fun h_21 => ?_)
    · skip
      have hfin : qi = sewQ f (tnQ zq) n zq ∧ i = sewN f (tnQ zq) n zq := by
        first
        | (subst hgo; exact ⟨by simpa using hsq, by simpa using hsn⟩)
        | (have hin : n - i = 0 := by omega
           rw [hgo, if_pos rfl, hin] at hsq hsn; exact ⟨hsq, hsn⟩)
        | (have hk : sewOk qi f = false := by simp only [sewOk, Bool.and_eq_false_iff, decide_eq_false_iff_not]; exact Or.inl (by omega)
           rw [hgo, if_pos rfl, sewQ_f hk] at hsq; rw [hgo, if_pos rfl, sewN_f hk] at hsn; exact ⟨hsq, hsn⟩)
      refine lv_aload_n hx hb dX11_sews_146 rfl (lv_at hl 0 rfl) ?_
      refine gf_X11_7 hB hR.o rfl dX11_sews_147 ?_
      refine lv_iconst (v := nI 1) hx hb dX11_sews_150 (by decide) ?_
      refine lv_iload_n hx hb dX11_sews_151 rfl (lv_at hl 3 rfl) ?_
      refine lv_iconst (v := nI 1) hx hb dX11_sews_152 (by decide) ?_
      refine mn_iadd hB dX11_sews_153 ?_
      refine lv_aload_n hx hb dX11_sews_154 rfl (lv_at hl 0 rfl) ?_
      refine gf_X11_7 hB hR.o rfl dX11_sews_155 ?_
      refine lv_iconst (v := nI 0) hx hb dX11_sews_158 (by decide) ?_
      refine mn_iald hB hR.a_zq (by omega) (by omega) dX11_sews_159 ?_
      refine mh_top (y := .int (nI (nmQ zq))) (by rw [hWi.1, hm0]) ?_
      refine mn_irem hB dX11_sews_160 (by omega) (by omega) (by omega) ?_
      refine mn_iast hB hR.a_zq (by first | exact Or.inl rfl | (simp only [ftA]; omega) | (simp [ftA]; omega)) hS (by omega) (by omega) dX11_sews_161 (fun H locs hwr => ?_)
      obtain ⟨hR, hS⟩ := hR.w_zq hwr
      refine lv_iload hx hb dX11_sews_162 (lv_at hl 4 rfl) ?_
      refine mh_iret hB ⟨Nat.le_of_ble_eq_true rfl, Nat.le_of_ble_eq_true rfl⟩ hS dX11_sews_164 ⟨?_, ?_⟩
      · rw [hfin.2]
      · rw [hfin.1] at hR; exact hR
    · skip
      refine lv_aload_n hx hb dX11_sews_24 rfl (lv_at hl 0 rfl) ?_
      refine gf_X11_7 hB hR.o rfl dX11_sews_25 ?_
      refine lv_iload_n hx hb dX11_sews_28 rfl (lv_at hl 1 rfl) ?_
      refine lv_iconst (v := nI 2) hx hb dX11_sews_29 (by decide) ?_
      refine cl_X11_71 (As := [.int (nI f), .int (nI 2)]) (rest := [.ref (r + 1)]) hB (c_X11_at l g H f 2) rfl hl.1 (Nat.le_of_ble_eq_true rfl) dX11_sews_30 ⟨Nat.le_of_ble_eq_true rfl, Nat.le_of_ble_eq_true rfl⟩ ⟨Nat.le_of_ble_eq_true rfl, Nat.le_of_ble_eq_true rfl⟩ hS (by have hz9 := hS.1; rintro q (h | h) <;> first | exact Or.inr (by omega) | exact h.elim | exact Or.inl h | (simp only [ftA] at h ⊢; omega)) (fun v H1 locs hpo hfr hS => ?_)
      obtain ⟨rfl, rfl⟩ := hpo
      refine W.widen (k := 0) (n := 0) (Nat.le_of_ble_eq_true rfl) (Nat.le_of_ble_eq_true rfl) ?_
      refine mn_iald hB hR.a_zq (by omega) (by omega) dX11_sews_33 ?_
      refine mh_top (y := .int (nI (swF qi f))) (by rw [hFi.s]) ?_
      refine lv_aload_n hx hb dX11_sews_34 rfl (lv_at hl 0 rfl) ?_
      refine lv_iload_n hx hb dX11_sews_35 rfl (lv_at hl 1 rfl) ?_
      refine cl_X11_75 (As := [.int (nI f)]) (rest := [.int (nI (swF qi f))]) hB (c_X11_patches l g H r qi zsp zrm zst zsl zsv ztx zln zth zsg zbg zwd zhg zin zop zbe zwi zhi zbk zot zer zen zpo zpi zgr zsh zsn f hR (by omega) (by omega)) hR.o rfl hl.1 (Nat.le_of_ble_eq_true rfl) dX11_sews_36 ⟨Nat.le_of_ble_eq_true rfl, Nat.le_of_ble_eq_true rfl⟩ ⟨Nat.le_of_ble_eq_true rfl, Nat.le_of_ble_eq_true rfl⟩ hS (by have hz9 := hS.1; rintro q (h | h) <;> first | exact Or.inr (by omega) | exact h.elim | exact Or.inl h | (simp only [ftA] at h ⊢; omega)) (fun v H1 locs hpo hfr hS => ?_)
      obtain ⟨rfl, rfl⟩ := hpo
      refine W.widen (k := 0) (n := 0) (Nat.le_of_ble_eq_true rfl) (Nat.le_of_ble_eq_true rfl) ?_
      refine mn_icmp_ge (tgt := 146) hB dX11_sews_39 (by decide) (by omega) (by omega) (fun h_39 => ?_) (fun h_39 => ?_)
      · skip
        have hfin : qi = sewQ f (tnQ zq) n zq ∧ i = sewN f (tnQ zq) n zq := by
          first
          | (subst hgo; exact ⟨by simpa using hsq, by simpa using hsn⟩)
          | (have hin : n - i = 0 := by omega
             rw [hgo, if_pos rfl, hin] at hsq hsn; exact ⟨hsq, hsn⟩)
          | (have hk : sewOk qi f = false := by simp only [sewOk, Bool.and_eq_false_iff, decide_eq_false_iff_not]; exact Or.inl (by omega)
             rw [hgo, if_pos rfl, sewQ_f hk] at hsq; rw [hgo, if_pos rfl, sewN_f hk] at hsn; exact ⟨hsq, hsn⟩)
        refine lv_aload_n hx hb dX11_sews_146 rfl (lv_at hl 0 rfl) ?_
        refine gf_X11_7 hB hR.o rfl dX11_sews_147 ?_
        refine lv_iconst (v := nI 1) hx hb dX11_sews_150 (by decide) ?_
        refine lv_iload_n hx hb dX11_sews_151 rfl (lv_at hl 3 rfl) ?_
        refine lv_iconst (v := nI 1) hx hb dX11_sews_152 (by decide) ?_
        refine mn_iadd hB dX11_sews_153 ?_
        refine lv_aload_n hx hb dX11_sews_154 rfl (lv_at hl 0 rfl) ?_
        refine gf_X11_7 hB hR.o rfl dX11_sews_155 ?_
        refine lv_iconst (v := nI 0) hx hb dX11_sews_158 (by decide) ?_
        refine mn_iald hB hR.a_zq (by omega) (by omega) dX11_sews_159 ?_
        refine mh_top (y := .int (nI (nmQ zq))) (by rw [hWi.1, hm0]) ?_
        refine mn_irem hB dX11_sews_160 (by omega) (by omega) (by omega) ?_
        refine mn_iast hB hR.a_zq (by first | exact Or.inl rfl | (simp only [ftA]; omega) | (simp [ftA]; omega)) hS (by omega) (by omega) dX11_sews_161 (fun H locs hwr => ?_)
        obtain ⟨hR, hS⟩ := hR.w_zq hwr
        refine lv_iload hx hb dX11_sews_162 (lv_at hl 4 rfl) ?_
        refine mh_iret hB ⟨Nat.le_of_ble_eq_true rfl, Nat.le_of_ble_eq_true rfl⟩ hS dX11_sews_164 ⟨?_, ?_⟩
        · rw [hfin.2]
        · rw [hfin.1] at hR; exact hR
      · skip
        refine lv_aload_n hx hb dX11_sews_42 rfl (lv_at hl 0 rfl) ?_
        refine lv_iload_n hx hb dX11_sews_43 rfl (lv_at hl 1 rfl) ?_
        refine lv_aload_n hx hb dX11_sews_44 rfl (lv_at hl 0 rfl) ?_
        refine gf_X11_7 hB hR.o rfl dX11_sews_45 ?_
        refine lv_iload_n hx hb dX11_sews_48 rfl (lv_at hl 1 rfl) ?_
        refine lv_iconst (v := nI 2) hx hb dX11_sews_49 (by decide) ?_
        refine cl_X11_71 (As := [.int (nI f), .int (nI 2)]) (rest := [.ref (r + 1), .int (nI f), .ref r]) hB (c_X11_at l g H f 2) rfl hl.1 (Nat.le_of_ble_eq_true rfl) dX11_sews_50 ⟨Nat.le_of_ble_eq_true rfl, Nat.le_of_ble_eq_true rfl⟩ ⟨Nat.le_of_ble_eq_true rfl, Nat.le_of_ble_eq_true rfl⟩ hS (by have hz9 := hS.1; rintro q (h | h) <;> first | exact Or.inr (by omega) | exact h.elim | exact Or.inl h | (simp only [ftA] at h ⊢; omega)) (fun v H1 locs hpo hfr hS => ?_)
        obtain ⟨rfl, rfl⟩ := hpo
        refine W.widen (k := 0) (n := 0) (Nat.le_of_ble_eq_true rfl) (Nat.le_of_ble_eq_true rfl) ?_
        refine mn_iald hB hR.a_zq (by omega) (by omega) dX11_sews_53 ?_
        refine mh_top (y := .int (nI (swF qi f))) (by rw [hFi.s]) ?_
        refine cl_X11_150 (As := [.int (nI f), .int (nI (swF qi f))]) (rest := []) hB (c_X11_colourAt l g H r qi zsp zrm zst zsl zsv ztx zln zth zsg zbg zwd zhg zin zop zbe zwi zhi zbk zot zer zen zpo zpi zgr zsh zsn f (swF qi f) hR (by omega) (by omega) (by omega)) hR.o rfl hl.1 (Nat.le_of_ble_eq_true rfl) dX11_sews_54 ⟨Nat.le_of_ble_eq_true rfl, Nat.le_of_ble_eq_true rfl⟩ ⟨Nat.le_of_ble_eq_true rfl, Nat.le_of_ble_eq_true rfl⟩ hS (by have hz9 := hS.1; rintro q (h | h) <;> first | exact Or.inr (by omega) | exact h.elim | exact Or.inl h | (simp only [ftA] at h ⊢; omega)) (fun v H1 locs hpo hfr hS => ?_)
        obtain ⟨rfl, rfl⟩ := hpo
        refine W.widen (k := 0) (n := 0) (Nat.le_of_ble_eq_true rfl) (Nat.le_of_ble_eq_true rfl) ?_
        refine mh_top (y := .int (nI (clF qi f (swF qi f)))) (rfl) ?_
        refine lv_istore (lv' := [(6, .int (nI (clF qi f (swF qi f)))), (0, .ref r), (1, .int (nI f)), (2, .int (nI n)), (3, .int (nI (tnQ zq))), (4, .int (nI i)), (5, .int (bI go))]) hx hb dX11_sews_57 hl (by decide) rfl (fun ls hl => ?_)
        refine lv_aload_n hx hb dX11_sews_59 rfl (lv_at hl 1 rfl) ?_
        refine gf_X11_7 hB hR.o rfl dX11_sews_60 ?_
        refine lv_bipush (v := nI 50) hx hb dX11_sews_63 (by decide) ?_
        refine lv_iload hx hb dX11_sews_65 (lv_at hl 0 rfl) ?_
        have hci := hci (by omega)
        refine mn_iadd hB dX11_sews_67 ?_
        refine mn_iald hB hR.a_zq (by omega) (by omega) dX11_sews_68 ?_
        refine lv_if_le (tgt := 76) hx hb dX11_sews_69 (by decide) (fun h_69 => ?_) (fun h_69 => ?_)
        · skip
          refine lv_iconst (v := nI 0) hx hb dX11_sews_76 (by decide) ?_
          refine mh_top (y := .int (bI false)) (rfl) ?_
          refine lv_istore (lv' := [(5, .int (bI false)), (6, .int (nI (clF qi f (swF qi f)))), (0, .ref r), (1, .int (nI f)), (2, .int (nI n)), (3, .int (nI (tnQ zq))), (4, .int (nI i))]) hx hb dX11_sews_77 hl (by decide) rfl (fun ls hl => ?_)
          refine lv_iload hx hb dX11_sews_79 (lv_at hl 0 rfl) ?_
          refine mb_if_eq (tgt := 143) hB dX11_sews_81 (by decide) (fun h_81 => ?_) (fun h => by cases h)
          refine lv_goto (tgt := 13) hx hb dX11_sews_143 (by decide) ?_
          have hk : sewOk qi f = false := by simp only [sewOk, Bool.and_eq_false_iff, decide_eq_false_iff_not]; exact Or.inr (fun z => z h_69)
          refine ih13 (i, qi, false) _ _ _ ⟨(by omega), (by first | exact hWi | exact sew1_WF hf (by omega) hWi (by omega)), ?_, ?_, (by first | exact hm0 | exact (sew1_nm hf (by omega) hWi (by omega)).1.trans hm0), hR, hS, lv_sub hl [2, 3, 4, 5, 6, 0] rfl⟩ (by dsimp only; simp only [hgo, Bool.false_eq_true, if_true, if_false, reduceIte]; omega)
          · rw [hgo, if_pos rfl, sewQ_f hk] at hsq; exact hsq
          · rw [hgo, if_pos rfl, sewN_f hk] at hsn; exact hsn
        · skip
          refine lv_iconst (v := nI 1) hx hb dX11_sews_72 (by decide) ?_
          refine mh_top (y := .int (bI true)) (rfl) ?_
          refine lv_goto (tgt := 77) hx hb dX11_sews_73 (by decide) ?_
          refine lv_istore (lv' := [(5, .int (bI true)), (6, .int (nI (clF qi f (swF qi f)))), (0, .ref r), (1, .int (nI f)), (2, .int (nI n)), (3, .int (nI (tnQ zq))), (4, .int (nI i))]) hx hb dX11_sews_77 hl (by decide) rfl (fun ls hl => ?_)
          refine lv_iload hx hb dX11_sews_79 (lv_at hl 0 rfl) ?_
          refine mb_if_eq (tgt := 143) hB dX11_sews_81 (by decide) (fun h => by cases h) (fun h_81 => ?_)
          refine lv_aload_n hx hb dX11_sews_84 rfl (lv_at hl 2 rfl) ?_
          refine gf_X11_7 hB hR.o rfl dX11_sews_85 ?_
          refine lv_bipush (v := nI 50) hx hb dX11_sews_88 (by decide) ?_
          refine lv_iload hx hb dX11_sews_90 (lv_at hl 1 rfl) ?_
          refine mn_iadd hB dX11_sews_92 ?_
          refine lv_dup2_11 hx hb dX11_sews_93 rfl rfl ?_
          refine mn_iald hB hR.a_zq (by omega) (by omega) dX11_sews_94 ?_
          refine lv_iconst (v := nI 1) hx hb dX11_sews_95 (by decide) ?_
          refine lv_isub hx hb dX11_sews_96 ?_
          refine mn_iast hB hR.a_zq (by first | exact Or.inl rfl | (simp only [ftA]; omega) | (simp [ftA]; omega)) hS (by omega) (by omega) dX11_sews_97 (fun H locs hwr => ?_)
          obtain ⟨hR, hS⟩ := hR.w_zq hwr
          refine lv_aload_n hx hb dX11_sews_98 rfl (lv_at hl 2 rfl) ?_
          refine gf_X11_7 hB hR.o rfl dX11_sews_99 ?_
          refine lv_iload_n hx hb dX11_sews_102 rfl (lv_at hl 3 rfl) ?_
          refine lv_iconst (v := nI 2) hx hb dX11_sews_103 (by decide) ?_
          refine cl_X11_71 (As := [.int (nI f), .int (nI 2)]) (rest := [.ref (r + 1)]) hB (c_X11_at l g H f 2) rfl hl.1 (Nat.le_of_ble_eq_true rfl) dX11_sews_104 ⟨Nat.le_of_ble_eq_true rfl, Nat.le_of_ble_eq_true rfl⟩ ⟨Nat.le_of_ble_eq_true rfl, Nat.le_of_ble_eq_true rfl⟩ hS (by have hz9 := hS.1; rintro q (h | h) <;> first | exact Or.inr (by omega) | exact h.elim | exact Or.inl h | (simp only [ftA] at h ⊢; omega)) (fun v H1 locs hpo hfr hS => ?_)
          obtain ⟨rfl, rfl⟩ := hpo
          refine W.widen (k := 0) (n := 0) (Nat.le_of_ble_eq_true rfl) (Nat.le_of_ble_eq_true rfl) ?_
          refine lv_dup2_11 hx hb dX11_sews_107 rfl rfl ?_
          refine mn_iald hB hR.a_zq (by omega) (by omega) dX11_sews_108 ?_
          refine mh_top (y := .int (nI (swF qi f))) (by rw [upd_n (by omega), hFi.s]) ?_
          refine lv_iconst (v := nI 1) hx hb dX11_sews_109 (by decide) ?_
          refine mn_iadd hB dX11_sews_110 ?_
          refine mn_iast hB hR.a_zq (by first | exact Or.inl rfl | (simp only [ftA]; omega) | (simp [ftA]; omega)) hS (by omega) (by omega) dX11_sews_111 (fun H locs hwr => ?_)
          obtain ⟨hR, hS⟩ := hR.w_zq hwr
          refine lv_aload_n hx hb dX11_sews_112 rfl (lv_at hl 2 rfl) ?_
          refine gf_X11_7 hB hR.o rfl dX11_sews_113 ?_
          refine lv_iload_n hx hb dX11_sews_116 rfl (lv_at hl 3 rfl) ?_
          refine lv_iconst (v := nI 3) hx hb dX11_sews_117 (by decide) ?_
          refine lv_iload_n hx hb dX11_sews_118 rfl (lv_at hl 5 rfl) ?_
          refine mn_iadd hB dX11_sews_119 ?_
          refine cl_X11_71 (As := [.int (nI f), .int (nI (3 + (tnQ zq)))]) (rest := [.ref (r + 1)]) hB (c_X11_at l g H f (3 + (tnQ zq))) rfl hl.1 (Nat.le_of_ble_eq_true rfl) dX11_sews_120 ⟨Nat.le_of_ble_eq_true rfl, Nat.le_of_ble_eq_true rfl⟩ ⟨Nat.le_of_ble_eq_true rfl, Nat.le_of_ble_eq_true rfl⟩ hS (by have hz9 := hS.1; rintro q (h | h) <;> first | exact Or.inr (by omega) | exact h.elim | exact Or.inl h | (simp only [ftA] at h ⊢; omega)) (fun v H1 locs hpo hfr hS => ?_)
          obtain ⟨rfl, rfl⟩ := hpo
          refine W.widen (k := 0) (n := 0) (Nat.le_of_ble_eq_true rfl) (Nat.le_of_ble_eq_true rfl) ?_
          refine lv_dup2_11 hx hb dX11_sews_123 rfl rfl ?_
          refine mn_iald hB hR.a_zq (by omega) (by omega) dX11_sews_124 ?_
          refine mh_top (y := .int (nI (byF qi f (tnQ zq)))) (by rw [upd_n (by omega), upd_n (by omega), hFi.by_ (by omega)]) ?_
          refine lv_iconst (v := nI 1) hx hb dX11_sews_125 (by decide) ?_
          refine mn_iadd hB dX11_sews_126 ?_
          refine mn_iast hB hR.a_zq (by first | exact Or.inl rfl | (simp only [ftA]; omega) | (simp [ftA]; omega)) hS (by omega) (by omega) dX11_sews_127 (fun H locs hwr => ?_)
          obtain ⟨hR, hS⟩ := hR.w_zq hwr
          refine lv_aload_n hx hb dX11_sews_128 rfl (lv_at hl 2 rfl) ?_
          refine gf_X11_7 hB hR.o rfl dX11_sews_129 ?_
          refine lv_iconst (v := nI 5) hx hb dX11_sews_132 (by decide) ?_
          refine lv_iload_n hx hb dX11_sews_133 rfl (lv_at hl 5 rfl) ?_
          refine mn_iadd hB dX11_sews_134 ?_
          refine lv_dup2_11 hx hb dX11_sews_135 rfl rfl ?_
          refine mn_iald hB hR.a_zq (by omega) (by omega) dX11_sews_136 ?_
          refine lv_iconst (v := nI 1) hx hb dX11_sews_137 (by decide) ?_
          refine lv_iadd hx hb dX11_sews_138 ?_
          refine mn_iast hB hR.a_zq (by first | exact Or.inl rfl | (simp only [ftA]; omega) | (simp [ftA]; omega)) hS (by omega) (by omega) dX11_sews_139 (fun H locs hwr => ?_)
          obtain ⟨hR, hS⟩ := hR.w_zq hwr
          refine lv_iinc (v := nI (i + 1)) (lv' := [(4, .int (nI (i + 1))), (5, .int (bI true)), (6, .int (nI (clF qi f (swF qi f)))), (0, .ref r), (1, .int (nI f)), (2, .int (nI n)), (3, .int (nI (tnQ zq)))]) hx hb dX11_sews_140 hl (k := 6) rfl (nI_1 _) (by decide) rfl (fun ls hl => ?_)
          refine lv_goto (tgt := 13) hx hb dX11_sews_143 (by decide) ?_
          have hk : sewOk qi f = true := by simp only [sewOk, Bool.and_eq_true, decide_eq_true_eq]; exact ⟨by omega, h_69⟩
          refine ih13 (i + 1, sew1 qi f (tnQ zq), true) _ _ _ ⟨(by omega), (by first | exact hWi | exact sew1_WF hf (by omega) hWi (by omega)), ?_, ?_, (by first | exact hm0 | exact (sew1_nm hf (by omega) hWi (by omega)).1.trans hm0), hR, hS, lv_sub hl [3, 4, 5, 6, 0, 1] rfl⟩ (by dsimp only; simp only [hgo, Bool.false_eq_true, if_true, if_false, reduceIte]; omega)
          · rw [hgo, if_pos rfl, sewQ_t hk (by omega)] at hsq; rw [if_pos rfl]; exact hsq
          · rw [hgo, if_pos rfl, sewN_t hk (by omega)] at hsn; rw [if_pos rfl]; omega
