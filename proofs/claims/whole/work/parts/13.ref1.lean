def rm_c_X11_in : Room := { frames := 0, cells := 0, slots := 0, locals := 0 }
set_option maxRecDepth 100000 in
set_option maxHeartbeats 400000 in
theorem c_X11_in (l : Launch) (g : GG) (H0 : Heap) (x : Int64) (lo : Int64) (hi : Int64) : Ct l yX11_in cX11_in 6 (some .boolean) rm_c_X11_in g [.long x, .long lo, .long hi] H0 (ftA (fun _ => False) H0.size) (fun v H1 => v = some (.int (bI (inL x lo hi))) ∧ H0 = H1) := by
  refine Ct.of (by decide) (fun _ h => Or.inr h) (Nat.le_of_ble_eq_true rfl) ?_
  intro p e s m below meth c ls hB hin hS hH hl
  have hx := hB.x
  have hb := hB.b
  have hl : lv_has ls 6 [(0, .long x), (2, .long lo), (4, .long hi)] := hl
  refine lv_lload_n hx hb dX11_in_0 rfl (lv_at hl 0 rfl) ?_
  refine lv_lload_n hx hb dX11_in_1 rfl (lv_at hl 1 rfl) ?_
  refine W.lcmp hx hb dX11_in_2 ?_
  refine ml_if_lt (tgt := 17) hB dX11_in_3 (by decide) (fun h_3 => ?_) (fun h_3 => ?_)
  · skip
    refine lv_iconst (v := nI 0) hx hb dX11_in_17 (by decide) ?_
    refine mh_zret hB ⟨Nat.le_of_ble_eq_true rfl, Nat.le_of_ble_eq_true rfl⟩ hS dX11_in_18 (by first | rfl | decide | (split <;> rfl)) ⟨?_, rfl⟩
    · first | (rw [show inL x lo hi = true from by (simp only [inL, decide_eq_true_eq]; omega)]; rfl) | (rw [show inL x lo hi = false from by (simp only [inL, decide_eq_false_iff_not]; omega)]; rfl)
  · skip
    refine lv_lload_n hx hb dX11_in_6 rfl (lv_at hl 0 rfl) ?_
    refine lv_lload hx hb dX11_in_7 (lv_at hl 2 rfl) ?_
    refine W.lcmp hx hb dX11_in_9 ?_
    refine ml_if_gt (tgt := 17) hB dX11_in_10 (by decide) (fun h_10 => ?_) (fun h_10 => ?_)
    · skip
      refine lv_iconst (v := nI 0) hx hb dX11_in_17 (by decide) ?_
      refine mh_zret hB ⟨Nat.le_of_ble_eq_true rfl, Nat.le_of_ble_eq_true rfl⟩ hS dX11_in_18 (by first | rfl | decide | (split <;> rfl)) ⟨?_, rfl⟩
      · first | (rw [show inL x lo hi = true from by (simp only [inL, decide_eq_true_eq]; omega)]; rfl) | (rw [show inL x lo hi = false from by (simp only [inL, decide_eq_false_iff_not]; omega)]; rfl)
    · skip
      refine lv_iconst (v := nI 1) hx hb dX11_in_13 (by decide) ?_
      refine lv_goto (tgt := 18) hx hb dX11_in_14 (by decide) ?_
      refine mh_zret hB ⟨Nat.le_of_ble_eq_true rfl, Nat.le_of_ble_eq_true rfl⟩ hS dX11_in_18 (by first | rfl | decide | (split <;> rfl)) ⟨?_, rfl⟩
      · first | (rw [show inL x lo hi = true from by (simp only [inL, decide_eq_true_eq]; omega)]; rfl) | (rw [show inL x lo hi = false from by (simp only [inL, decide_eq_false_iff_not]; omega)]; rfl)

def rm_c_X11_isColour : Room := { frames := 1, cells := 0, slots := 0, locals := 25 }
set_option maxRecDepth 100000 in
set_option maxHeartbeats 400000 in
theorem c_X11_isColour (l : Launch) (g : GG) (H0 : Heap) (x : Int32) : Ct l yX11_isColour cX11_isColour 1 (some .boolean) rm_c_X11_isColour g [.int x] H0 (ftA (fun _ => False) H0.size) (fun v H1 => v = some (.int (bI (isIx x 6))) ∧ H0 = H1) := by
  refine Ct.of (by decide) (fun _ h => Or.inr h) (Nat.le_of_ble_eq_true rfl) ?_
  intro p e s m below meth c ls hB hin hS hH hl
  have hx := hB.x
  have hb := hB.b
  have hl : lv_has ls 1 [(0, .int x)] := hl
  refine lv_iload_n hx hb dX11_isColour_0 rfl (lv_at hl 0 rfl) ?_
  refine lv_i2l (v := (x).toInt64) hx hb dX11_isColour_1 rfl ?_
  refine lv_lconst (v := 0) hx hb dX11_isColour_2 (by decide) ?_
  refine lv_ldc2 (v := (5)) hx hb hB.ow (hB.K.2 _ kw_1143 _) dX11_isColour_3 ?_
  refine cl_X11_63 (As := [.long ((x).toInt64), .long 0, .long (5)]) (rest := []) hB (c_X11_in l g H0 ((x).toInt64) 0 (5)) rfl hl.1 (Nat.le_of_ble_eq_true rfl) dX11_isColour_6 ⟨Nat.le_of_ble_eq_true rfl, Nat.le_of_ble_eq_true rfl⟩ ⟨Nat.le_of_ble_eq_true rfl, Nat.le_of_ble_eq_true rfl⟩ hS (by have hz9 := hS.1; rintro q (h | h) <;> first | exact Or.inr (by omega) | exact h.elim | exact Or.inl h | (simp only [ftA] at h ⊢; omega)) (fun v H1 locs hpo hfr hS => ?_)
  obtain ⟨rfl, rfl⟩ := hpo
  refine W.widen (k := 0) (n := 0) (Nat.le_of_ble_eq_true rfl) (Nat.le_of_ble_eq_true rfl) ?_
  refine mh_top (y := .int (bI (isIx x 6))) (by rw [inL_ix x 6 _ (by decide)]) ?_
  refine mh_zret hB ⟨Nat.le_of_ble_eq_true rfl, Nat.le_of_ble_eq_true rfl⟩ hS dX11_isColour_9 (by cases isIx x 6 <;> rfl) ⟨?_, rfl⟩
  · rfl

def rm_c_X11_isFrame : Room := { frames := 1, cells := 0, slots := 0, locals := 25 }
set_option maxRecDepth 100000 in
set_option maxHeartbeats 400000 in
theorem c_X11_isFrame (l : Launch) (g : GG) (H0 : Heap) (x : Int32) : Ct l yX11_isFrame cX11_isFrame 1 (some .boolean) rm_c_X11_isFrame g [.int x] H0 (ftA (fun _ => False) H0.size) (fun v H1 => v = some (.int (bI (isIx x 3))) ∧ H0 = H1) := by
  refine Ct.of (by decide) (fun _ h => Or.inr h) (Nat.le_of_ble_eq_true rfl) ?_
  intro p e s m below meth c ls hB hin hS hH hl
  have hx := hB.x
  have hb := hB.b
  have hl : lv_has ls 1 [(0, .int x)] := hl
  refine lv_iload_n hx hb dX11_isFrame_0 rfl (lv_at hl 0 rfl) ?_
  refine lv_i2l (v := (x).toInt64) hx hb dX11_isFrame_1 rfl ?_
  refine lv_lconst (v := 0) hx hb dX11_isFrame_2 (by decide) ?_
  refine lv_ldc2 (v := (2)) hx hb hB.ow (hB.K.2 _ kw_1164 _) dX11_isFrame_3 ?_
  refine cl_X11_63 (As := [.long ((x).toInt64), .long 0, .long (2)]) (rest := []) hB (c_X11_in l g H0 ((x).toInt64) 0 (2)) rfl hl.1 (Nat.le_of_ble_eq_true rfl) dX11_isFrame_6 ⟨Nat.le_of_ble_eq_true rfl, Nat.le_of_ble_eq_true rfl⟩ ⟨Nat.le_of_ble_eq_true rfl, Nat.le_of_ble_eq_true rfl⟩ hS (by have hz9 := hS.1; rintro q (h | h) <;> first | exact Or.inr (by omega) | exact h.elim | exact Or.inl h | (simp only [ftA] at h ⊢; omega)) (fun v H1 locs hpo hfr hS => ?_)
  obtain ⟨rfl, rfl⟩ := hpo
  refine W.widen (k := 0) (n := 0) (Nat.le_of_ble_eq_true rfl) (Nat.le_of_ble_eq_true rfl) ?_
  refine mh_top (y := .int (bI (isIx x 3))) (by rw [inL_ix x 3 _ (by decide)]) ?_
  refine mh_zret hB ⟨Nat.le_of_ble_eq_true rfl, Nat.le_of_ble_eq_true rfl⟩ hS dX11_isFrame_9 (by cases isIx x 3 <;> rfl) ⟨?_, rfl⟩
  · rfl

def rm_c_X11_at : Room := { frames := 0, cells := 0, slots := 0, locals := 0 }
set_option maxRecDepth 100000 in
set_option maxHeartbeats 400000 in
theorem c_X11_at (l : Launch) (g : GG) (H0 : Heap) (f : Nat) (k : Nat) : Ct l yX11_at cX11_at 2 (some .int) rm_c_X11_at g [.int (nI f), .int (nI k)] H0 (ftA (fun _ => False) H0.size) (fun v H1 => v = some (.int (nI (74 + 264 * f + k))) ∧ H0 = H1) := by
  refine Ct.of (by decide) (fun _ h => Or.inr h) (Nat.le_of_ble_eq_true rfl) ?_
  intro p e s m below meth c ls hB hin hS hH hl
  have hx := hB.x
  have hb := hB.b
  have hl : lv_has ls 2 [(0, .int (nI f)), (1, .int (nI k))] := hl
  refine lv_bipush (v := nI 74) hx hb dX11_at_0 (by decide) ?_
  refine lv_sipush (v := nI 264) hx hb dX11_at_2 (by decide +kernel) ?_
  refine lv_iload_n hx hb dX11_at_5 rfl (lv_at hl 0 rfl) ?_
  refine mn_imul hB dX11_at_6 ?_
  refine mn_iadd hB dX11_at_7 ?_
  refine lv_iload_n hx hb dX11_at_8 rfl (lv_at hl 1 rfl) ?_
  refine mn_iadd hB dX11_at_9 ?_
  refine mh_iret hB ⟨Nat.le_of_ble_eq_true rfl, Nat.le_of_ble_eq_true rfl⟩ hS dX11_at_10 ⟨?_, rfl⟩
  · rfl

def rm_c_X11_thrown : Room := { frames := 0, cells := 0, slots := 0, locals := 0 }
set_option maxRecDepth 100000 in
set_option maxHeartbeats 400000 in
theorem c_X11_thrown (l : Launch) (g : GG) (H0 : Heap) (r : Nat) (zq : Nat → Int32) (zsp : Nat → Int32) (zrm : Nat → Int32) (zst : Int32) (zsl : Nat → Int32) (zsv : Nat → Int32) (ztx : Nat → Int32) (zln : Int32) (zth : Int32) (zsg : Nat → Int32) (zbg : Nat → Int32) (zwd : Nat → Int32) (zhg : Nat → Int32) (zin : Nat → Int32) (zop : Int32) (zbe : Int32) (zwi : Int32) (zhi : Int32) (zbk : Nat → Int32) (zot : Nat → Int32) (zer : Int32) (zen : Int32) (zpo : Nat → Int32) (zpi : Int32) (zgr : Int32) (zsh : Nat → Int32) (zsn : Int32) (hR : ModAt g r zq zsp zrm zst zsl zsv ztx zln zth zsg zbg zwd zhg zin zop zbe zwi zhi zbk zot zer zen zpo zpi zgr zsh zsn H0) : Ct l yX11_thrown cX11_thrown 1 (some .int) rm_c_X11_thrown g [.ref r] H0 (ftA (fun _ => False) H0.size) (fun v H1 => v = some (.int zth) ∧ H0 = H1) := by
  refine Ct.of (by decide) (fun _ h => Or.inr h) (Nat.le_of_ble_eq_true rfl) ?_
  intro p e s m below meth c ls hB hin hS hH hl
  have hx := hB.x
  have hb := hB.b
  have hl : lv_has ls 1 [(0, .ref r)] := hl
  refine lv_aload_n hx hb dX11_thrown_0 rfl (lv_at hl 0 rfl) ?_
  refine gf_X11_56 hB hR.o rfl dX11_thrown_1 ?_
  refine mh_iret hB ⟨Nat.le_of_ble_eq_true rfl, Nat.le_of_ble_eq_true rfl⟩ hS dX11_thrown_4 ⟨?_, rfl⟩
  · rfl

def rm_c_X11_fails : Room := { frames := 0, cells := 0, slots := 0, locals := 0 }
set_option maxRecDepth 100000 in
set_option maxHeartbeats 400000 in
theorem c_X11_fails (l : Launch) (g : GG) (H0 : Heap) (r : Nat) (zq : Nat → Int32) (zsp : Nat → Int32) (zrm : Nat → Int32) (zst : Int32) (zsl : Nat → Int32) (zsv : Nat → Int32) (ztx : Nat → Int32) (zln : Int32) (zth : Int32) (zsg : Nat → Int32) (zbg : Nat → Int32) (zwd : Nat → Int32) (zhg : Nat → Int32) (zin : Nat → Int32) (zop : Int32) (zbe : Int32) (zwi : Int32) (zhi : Int32) (zbk : Nat → Int32) (zot : Nat → Int32) (zer : Int32) (zen : Int32) (zpo : Nat → Int32) (zpi : Int32) (zgr : Int32) (zsh : Nat → Int32) (zsn : Int32) (x : Int32) (hR : ModAt g r zq zsp zrm zst zsl zsv ztx zln zth zsg zbg zwd zhg zin zop zbe zwi zhi zbk zot zer zen zpo zpi zgr zsh zsn H0) : Ct l yX11_fails cX11_fails 2 (some .int) rm_c_X11_fails g [.ref r, .int x] H0 (ftA (fun q => r ≤ q ∧ q < r + 16) H0.size) (fun v H1 => v = some (.int (nI 0)) ∧ ModAt g r zq zsp zrm zst zsl zsv ztx zln x zsg zbg zwd zhg zin zop zbe zwi zhi zbk zot zer zen zpo zpi zgr zsh zsn H1) := by
  refine Ct.of (by decide) (fun _ h => Or.inr h) (Nat.le_of_ble_eq_true rfl) ?_
  intro p e s m below meth c ls hB hin hS hH hl
  have hx := hB.x
  have hb := hB.b
  have hl : lv_has ls 2 [(0, .ref r), (1, .int x)] := hl
  refine lv_aload_n hx hb dX11_fails_0 rfl (lv_at hl 0 rfl) ?_
  refine lv_iload_n hx hb dX11_fails_1 rfl (lv_at hl 1 rfl) ?_
  refine pf_X11_56 hB hR.o (by first | exact Or.inl rfl | (simp only [ftA]; omega) | (simp [ftA]; omega)) hS rfl rfl (Nat.le_of_ble_eq_true rfl) dX11_fails_2 (fun H locs hwr => ?_)
  obtain ⟨hR, hS⟩ := hR.w_zth hwr
  refine lv_iconst (v := nI 0) hx hb dX11_fails_5 (by decide) ?_
  refine mh_iret hB ⟨Nat.le_of_ble_eq_true rfl, Nat.le_of_ble_eq_true rfl⟩ hS dX11_fails_6 ⟨?_, ?_⟩
  · rfl
  · exact hR

def rm_c_X11_isMember : Room := { frames := 1, cells := 0, slots := 0, locals := 25 }
set_option maxRecDepth 100000 in
set_option maxHeartbeats 400000 in
theorem c_X11_isMember (l : Launch) (g : GG) (H0 : Heap) (r : Nat) (zq : Nat → Int32) (zsp : Nat → Int32) (zrm : Nat → Int32) (zst : Int32) (zsl : Nat → Int32) (zsv : Nat → Int32) (ztx : Nat → Int32) (zln : Int32) (zth : Int32) (zsg : Nat → Int32) (zbg : Nat → Int32) (zwd : Nat → Int32) (zhg : Nat → Int32) (zin : Nat → Int32) (zop : Int32) (zbe : Int32) (zwi : Int32) (zhi : Int32) (zbk : Nat → Int32) (zot : Nat → Int32) (zer : Int32) (zen : Int32) (zpo : Nat → Int32) (zpi : Int32) (zgr : Int32) (zsh : Nat → Int32) (zsn : Int32) (x : Int32) (hR : ModAt g r zq zsp zrm zst zsl zsv ztx zln zth zsg zbg zwd zhg zin zop zbe zwi zhi zbk zot zer zen zpo zpi zgr zsh zsn H0) (hW : WF zq) : Ct l yX11_isMember cX11_isMember 2 (some .boolean) rm_c_X11_isMember g [.ref r, .int x] H0 (ftA (fun _ => False) H0.size) (fun v H1 => v = some (.int (bI (isIx x (nmQ zq)))) ∧ H0 = H1) := by
  refine Ct.of (by decide) (fun _ h => Or.inr h) (Nat.le_of_ble_eq_true rfl) ?_
  intro p e s m below meth c ls hB hin hS hH hl
  have hx := hB.x
  have hb := hB.b
  have hl : lv_has ls 2 [(0, .ref r), (1, .int x)] := hl
  refine lv_iload_n hx hb dX11_isMember_0 rfl (lv_at hl 1 rfl) ?_
  refine lv_i2l (v := (x).toInt64) hx hb dX11_isMember_1 rfl ?_
  refine lv_lconst (v := 0) hx hb dX11_isMember_2 (by decide) ?_
  refine lv_aload_n hx hb dX11_isMember_3 rfl (lv_at hl 0 rfl) ?_
  refine gf_X11_7 hB hR.o rfl dX11_isMember_4 ?_
  refine lv_iconst (v := nI 0) hx hb dX11_isMember_7 (by decide) ?_
  refine mn_iald hB hR.a_zq (by omega) (by omega) dX11_isMember_8 ?_
  refine lv_iconst (v := nI 1) hx hb dX11_isMember_9 (by decide) ?_
  refine lv_isub hx hb dX11_isMember_10 ?_
  refine lv_i2l (v := ((zq 0) - (nI 1)).toInt64) hx hb dX11_isMember_11 rfl ?_
  refine cl_X11_63 (As := [.long ((x).toInt64), .long 0, .long (((zq 0) - (nI 1)).toInt64)]) (rest := []) hB (c_X11_in l g H0 ((x).toInt64) 0 (((zq 0) - (nI 1)).toInt64)) rfl hl.1 (Nat.le_of_ble_eq_true rfl) dX11_isMember_12 ⟨Nat.le_of_ble_eq_true rfl, Nat.le_of_ble_eq_true rfl⟩ ⟨Nat.le_of_ble_eq_true rfl, Nat.le_of_ble_eq_true rfl⟩ hS (by have hz9 := hS.1; rintro q (h | h) <;> first | exact Or.inr (by omega) | exact h.elim | exact Or.inl h | (simp only [ftA] at h ⊢; omega)) (fun v H1 locs hpo hfr hS => ?_)
  obtain ⟨rfl, rfl⟩ := hpo
  refine W.widen (k := 0) (n := 0) (Nat.le_of_ble_eq_true rfl) (Nat.le_of_ble_eq_true rfl) ?_
  refine mh_top (y := .int (bI (isIx x (nmQ zq)))) (by rw [inL_ix x (nmQ zq) _ (by rw [i32_l, hW.1]; exact pk_sub_toInt (by have := hW.2.2.1; omega) (by omega))]) ?_
  refine mh_zret hB ⟨Nat.le_of_ble_eq_true rfl, Nat.le_of_ble_eq_true rfl⟩ hS dX11_isMember_15 (by cases isIx x (nmQ zq) <;> rfl) ⟨?_, rfl⟩
  · rfl

def rm_c_X11_patches : Room := { frames := 1, cells := 0, slots := 0, locals := 21 }
set_option maxRecDepth 100000 in
set_option maxHeartbeats 400000 in
theorem c_X11_patches (l : Launch) (g : GG) (H0 : Heap) (r : Nat) (zq : Nat → Int32) (zsp : Nat → Int32) (zrm : Nat → Int32) (zst : Int32) (zsl : Nat → Int32) (zsv : Nat → Int32) (ztx : Nat → Int32) (zln : Int32) (zth : Int32) (zsg : Nat → Int32) (zbg : Nat → Int32) (zwd : Nat → Int32) (zhg : Nat → Int32) (zin : Nat → Int32) (zop : Int32) (zbe : Int32) (zwi : Int32) (zhi : Int32) (zbk : Nat → Int32) (zot : Nat → Int32) (zer : Int32) (zen : Int32) (zpo : Nat → Int32) (zpi : Int32) (zgr : Int32) (zsh : Nat → Int32) (zsn : Int32) (f : Nat) (hR : ModAt g r zq zsp zrm zst zsl zsv ztx zln zth zsg zbg zwd zhg zin zop zbe zwi zhi zbk zot zer zen zpo zpi zgr zsh zsn H0) (hf : f < 3) (hF : WFf zq f) : Ct l yX11_patches cX11_patches 2 (some .int) rm_c_X11_patches g [.ref r, .int (nI f)] H0 (ftA (fun _ => False) H0.size) (fun v H1 => v = some (.int (nI (szF zq f))) ∧ H0 = H1) := by
  refine Ct.of (by decide) (fun _ h => Or.inr h) (Nat.le_of_ble_eq_true rfl) ?_
  intro p e s m below meth c ls hB hin hS hH hl
  have hx := hB.x
  have hb := hB.b
  have hl : lv_has ls 2 [(0, .ref r), (1, .int (nI f))] := hl
  refine lv_aload_n hx hb dX11_patches_0 rfl (lv_at hl 0 rfl) ?_
  refine gf_X11_7 hB hR.o rfl dX11_patches_1 ?_
  refine lv_iload_n hx hb dX11_patches_4 rfl (lv_at hl 1 rfl) ?_
  refine lv_iconst (v := nI 0) hx hb dX11_patches_5 (by decide) ?_
  refine cl_X11_71 (As := [.int (nI f), .int (nI 0)]) (rest := [.ref (r + 1)]) hB (c_X11_at l g H0 f 0) rfl hl.1 (Nat.le_of_ble_eq_true rfl) dX11_patches_6 ⟨Nat.le_of_ble_eq_true rfl, Nat.le_of_ble_eq_true rfl⟩ ⟨Nat.le_of_ble_eq_true rfl, Nat.le_of_ble_eq_true rfl⟩ hS (by have hz9 := hS.1; rintro q (h | h) <;> first | exact Or.inr (by omega) | exact h.elim | exact Or.inl h | (simp only [ftA] at h ⊢; omega)) (fun v H1 locs hpo hfr hS => ?_)
  obtain ⟨rfl, rfl⟩ := hpo
  refine W.widen (k := 0) (n := 0) (Nat.le_of_ble_eq_true rfl) (Nat.le_of_ble_eq_true rfl) ?_
  refine mn_iald hB hR.a_zq (by omega) (by omega) dX11_patches_9 ?_
  refine mh_top (y := .int (nI (wdF zq f))) (by rw [hF.w]) ?_
  refine lv_aload_n hx hb dX11_patches_10 rfl (lv_at hl 0 rfl) ?_
  refine gf_X11_7 hB hR.o rfl dX11_patches_11 ?_
  refine lv_iload_n hx hb dX11_patches_14 rfl (lv_at hl 1 rfl) ?_
  refine lv_iconst (v := nI 1) hx hb dX11_patches_15 (by decide) ?_
  refine cl_X11_71 (As := [.int (nI f), .int (nI 1)]) (rest := [.ref (r + 1), .int (nI (wdF zq f))]) hB (c_X11_at l g H0 f 1) rfl hl.1 (Nat.le_of_ble_eq_true rfl) dX11_patches_16 ⟨Nat.le_of_ble_eq_true rfl, Nat.le_of_ble_eq_true rfl⟩ ⟨Nat.le_of_ble_eq_true rfl, Nat.le_of_ble_eq_true rfl⟩ hS (by have hz9 := hS.1; rintro q (h | h) <;> first | exact Or.inr (by omega) | exact h.elim | exact Or.inl h | (simp only [ftA] at h ⊢; omega)) (fun v H1 locs hpo hfr hS => ?_)
  obtain ⟨rfl, rfl⟩ := hpo
  refine W.widen (k := 0) (n := 0) (Nat.le_of_ble_eq_true rfl) (Nat.le_of_ble_eq_true rfl) ?_
  refine mn_iald hB hR.a_zq (by omega) (by omega) dX11_patches_19 ?_
  refine mh_top (y := .int (nI (htF zq f))) (by rw [hF.h]) ?_
  refine mn_imul hB dX11_patches_20 ?_
  refine mh_iret hB ⟨Nat.le_of_ble_eq_true rfl, Nat.le_of_ble_eq_true rfl⟩ hS dX11_patches_21 ⟨?_, rfl⟩
  · rfl

def rm_c_X11_colourAt : Room := { frames := 1, cells := 0, slots := 0, locals := 21 }
set_option maxRecDepth 100000 in
set_option maxHeartbeats 400000 in
theorem c_X11_colourAt (l : Launch) (g : GG) (H0 : Heap) (r : Nat) (zq : Nat → Int32) (zsp : Nat → Int32) (zrm : Nat → Int32) (zst : Int32) (zsl : Nat → Int32) (zsv : Nat → Int32) (ztx : Nat → Int32) (zln : Int32) (zth : Int32) (zsg : Nat → Int32) (zbg : Nat → Int32) (zwd : Nat → Int32) (zhg : Nat → Int32) (zin : Nat → Int32) (zop : Int32) (zbe : Int32) (zwi : Int32) (zhi : Int32) (zbk : Nat → Int32) (zot : Nat → Int32) (zer : Int32) (zen : Int32) (zpo : Nat → Int32) (zpi : Int32) (zgr : Int32) (zsh : Nat → Int32) (zsn : Int32) (f : Nat) (k : Nat) (hR : ModAt g r zq zsp zrm zst zsl zsv ztx zln zth zsg zbg zwd zhg zin zop zbe zwi zhi zbk zot zer zen zpo zpi zgr zsh zsn H0) (hf : f < 3) (hF : WFf zq f) (hk : k < 256) : Ct l yX11_colourAt cX11_colourAt 3 (some .int) rm_c_X11_colourAt g [.ref r, .int (nI f), .int (nI k)] H0 (ftA (fun _ => False) H0.size) (fun v H1 => v = some (.int (nI (clF zq f k))) ∧ H0 = H1) := by
  refine Ct.of (by decide) (fun _ h => Or.inr h) (Nat.le_of_ble_eq_true rfl) ?_
  intro p e s m below meth c ls hB hin hS hH hl
  have hx := hB.x
  have hb := hB.b
  have hl : lv_has ls 3 [(0, .ref r), (1, .int (nI f)), (2, .int (nI k))] := hl
  refine lv_aload_n hx hb dX11_colourAt_0 rfl (lv_at hl 0 rfl) ?_
  refine gf_X11_7 hB hR.o rfl dX11_colourAt_1 ?_
  refine lv_iload_n hx hb dX11_colourAt_4 rfl (lv_at hl 1 rfl) ?_
  refine lv_bipush (v := nI 8) hx hb dX11_colourAt_5 (by decide) ?_
  refine lv_iload_n hx hb dX11_colourAt_7 rfl (lv_at hl 2 rfl) ?_
  refine mn_iadd hB dX11_colourAt_8 ?_
  refine cl_X11_71 (As := [.int (nI f), .int (nI (8 + k))]) (rest := [.ref (r + 1)]) hB (c_X11_at l g H0 f (8 + k)) rfl hl.1 (Nat.le_of_ble_eq_true rfl) dX11_colourAt_9 ⟨Nat.le_of_ble_eq_true rfl, Nat.le_of_ble_eq_true rfl⟩ ⟨Nat.le_of_ble_eq_true rfl, Nat.le_of_ble_eq_true rfl⟩ hS (by have hz9 := hS.1; rintro q (h | h) <;> first | exact Or.inr (by omega) | exact h.elim | exact Or.inl h | (simp only [ftA] at h ⊢; omega)) (fun v H1 locs hpo hfr hS => ?_)
  obtain ⟨rfl, rfl⟩ := hpo
  refine W.widen (k := 0) (n := 0) (Nat.le_of_ble_eq_true rfl) (Nat.le_of_ble_eq_true rfl) ?_
  refine mn_iald hB hR.a_zq (by omega) (by omega) dX11_colourAt_12 ?_
  refine mh_top (y := .int (nI (clF zq f k))) (by rw [hF.col hk]) ?_
  refine mh_iret hB ⟨Nat.le_of_ble_eq_true rfl, Nat.le_of_ble_eq_true rfl⟩ hS dX11_colourAt_13 ⟨?_, rfl⟩
  · rfl

def rm_c_X11_isFinished : Room := { frames := 2, cells := 0, slots := 0, locals := 42 }
set_option maxRecDepth 100000 in
set_option maxHeartbeats 400000 in
theorem c_X11_isFinished (l : Launch) (g : GG) (H0 : Heap) (r : Nat) (zq : Nat → Int32) (zsp : Nat → Int32) (zrm : Nat → Int32) (zst : Int32) (zsl : Nat → Int32) (zsv : Nat → Int32) (ztx : Nat → Int32) (zln : Int32) (zth : Int32) (zsg : Nat → Int32) (zbg : Nat → Int32) (zwd : Nat → Int32) (zhg : Nat → Int32) (zin : Nat → Int32) (zop : Int32) (zbe : Int32) (zwi : Int32) (zhi : Int32) (zbk : Nat → Int32) (zot : Nat → Int32) (zer : Int32) (zen : Int32) (zpo : Nat → Int32) (zpi : Int32) (zgr : Int32) (zsh : Nat → Int32) (zsn : Int32) (f : Nat) (hR : ModAt g r zq zsp zrm zst zsl zsv ztx zln zth zsg zbg zwd zhg zin zop zbe zwi zhi zbk zot zer zen zpo zpi zgr zsh zsn H0) (hf : f < 3) (hF : WFf zq f) : Ct l yX11_isFinished cX11_isFinished 2 (some .boolean) rm_c_X11_isFinished g [.ref r, .int (nI f)] H0 (ftA (fun _ => False) H0.size) (fun v H1 => v = some (.int (bI (decide (0 < szF zq f ∧ swF zq f = szF zq f)))) ∧ H0 = H1) := by
  refine Ct.of (by decide) (fun _ h => Or.inr h) (Nat.le_of_ble_eq_true rfl) ?_
  intro p e s m below meth c ls hB hin hS hH hl
  have hx := hB.x
  have hb := hB.b
  have hl : lv_has ls 2 [(0, .ref r), (1, .int (nI f))] := hl
  have hsz := WF.sz hF
  have hsw := hF.sle
  refine lv_aload_n hx hb dX11_isFinished_0 rfl (lv_at hl 0 rfl) ?_
  refine lv_iload_n hx hb dX11_isFinished_1 rfl (lv_at hl 1 rfl) ?_
  refine cl_X11_75 (As := [.int (nI f)]) (rest := []) hB (c_X11_patches l g H0 r zq zsp zrm zst zsl zsv ztx zln zth zsg zbg zwd zhg zin zop zbe zwi zhi zbk zot zer zen zpo zpi zgr zsh zsn f hR (by omega) (by omega)) hR.o rfl hl.1 (Nat.le_of_ble_eq_true rfl) dX11_isFinished_2 ⟨Nat.le_of_ble_eq_true rfl, Nat.le_of_ble_eq_true rfl⟩ ⟨Nat.le_of_ble_eq_true rfl, Nat.le_of_ble_eq_true rfl⟩ hS (by have hz9 := hS.1; rintro q (h | h) <;> first | exact Or.inr (by omega) | exact h.elim | exact Or.inl h | (simp only [ftA] at h ⊢; omega)) (fun v H1 locs hpo hfr hS => ?_)
  obtain ⟨rfl, rfl⟩ := hpo
  refine W.widen (k := 0) (n := 0) (Nat.le_of_ble_eq_true rfl) (Nat.le_of_ble_eq_true rfl) ?_
  refine mn_if_le (tgt := 30) hB dX11_isFinished_5 (by decide) (by omega) (fun h_5 => ?_) (fun h_5 => ?_)
  · skip
    refine lv_iconst (v := nI 0) hx hb dX11_isFinished_30 (by decide) ?_
    refine mh_zret hB ⟨Nat.le_of_ble_eq_true rfl, Nat.le_of_ble_eq_true rfl⟩ hS dX11_isFinished_31 (by first | rfl | decide | (split <;> rfl)) ⟨?_, rfl⟩
    · first | (rw [show decide (0 < szF zq f ∧ swF zq f = szF zq f) = true from by (simp only [decide_eq_true_eq]; omega)]; rfl) | (rw [show decide (0 < szF zq f ∧ swF zq f = szF zq f) = false from by (simp only [decide_eq_false_iff_not]; omega)]; rfl)
  · skip
    refine lv_aload_n hx hb dX11_isFinished_8 rfl (lv_at hl 0 rfl) ?_
    refine gf_X11_7 hB hR.o rfl dX11_isFinished_9 ?_
    refine lv_iload_n hx hb dX11_isFinished_12 rfl (lv_at hl 1 rfl) ?_
    refine lv_iconst (v := nI 2) hx hb dX11_isFinished_13 (by decide) ?_
    refine cl_X11_71 (As := [.int (nI f), .int (nI 2)]) (rest := [.ref (r + 1)]) hB (c_X11_at l g H0 f 2) rfl hl.1 (Nat.le_of_ble_eq_true rfl) dX11_isFinished_14 ⟨Nat.le_of_ble_eq_true rfl, Nat.le_of_ble_eq_true rfl⟩ ⟨Nat.le_of_ble_eq_true rfl, Nat.le_of_ble_eq_true rfl⟩ hS (by have hz9 := hS.1; rintro q (h | h) <;> first | exact Or.inr (by omega) | exact h.elim | exact Or.inl h | (simp only [ftA] at h ⊢; omega)) (fun v H1 locs hpo hfr hS => ?_)
    obtain ⟨rfl, rfl⟩ := hpo
    refine W.widen (k := 0) (n := 0) (Nat.le_of_ble_eq_true rfl) (Nat.le_of_ble_eq_true rfl) ?_
    refine mn_iald hB hR.a_zq (by omega) (by omega) dX11_isFinished_17 ?_
    refine mh_top (y := .int (nI (swF zq f))) (by rw [hF.s]) ?_
    refine lv_aload_n hx hb dX11_isFinished_18 rfl (lv_at hl 0 rfl) ?_
    refine lv_iload_n hx hb dX11_isFinished_19 rfl (lv_at hl 1 rfl) ?_
    refine cl_X11_75 (As := [.int (nI f)]) (rest := [.int (nI (swF zq f))]) hB (c_X11_patches l g H0 r zq zsp zrm zst zsl zsv ztx zln zth zsg zbg zwd zhg zin zop zbe zwi zhi zbk zot zer zen zpo zpi zgr zsh zsn f hR (by omega) (by omega)) hR.o rfl hl.1 (Nat.le_of_ble_eq_true rfl) dX11_isFinished_20 ⟨Nat.le_of_ble_eq_true rfl, Nat.le_of_ble_eq_true rfl⟩ ⟨Nat.le_of_ble_eq_true rfl, Nat.le_of_ble_eq_true rfl⟩ hS (by have hz9 := hS.1; rintro q (h | h) <;> first | exact Or.inr (by omega) | exact h.elim | exact Or.inl h | (simp only [ftA] at h ⊢; omega)) (fun v H1 locs hpo hfr hS => ?_)
    obtain ⟨rfl, rfl⟩ := hpo
    refine W.widen (k := 0) (n := 0) (Nat.le_of_ble_eq_true rfl) (Nat.le_of_ble_eq_true rfl) ?_
    refine mn_icmp_ne (tgt := 30) hB dX11_isFinished_23 (by decide) (by have : szF zq f = wdF zq f * htF zq f := rfl; omega) (by omega) (fun h_23 => ?_) (fun h_23 => ?_)
    · skip
      refine lv_iconst (v := nI 0) hx hb dX11_isFinished_30 (by decide) ?_
      refine mh_zret hB ⟨Nat.le_of_ble_eq_true rfl, Nat.le_of_ble_eq_true rfl⟩ hS dX11_isFinished_31 (by first | rfl | decide | (split <;> rfl)) ⟨?_, rfl⟩
      · first | (rw [show decide (0 < szF zq f ∧ swF zq f = szF zq f) = true from by (simp only [decide_eq_true_eq]; omega)]; rfl) | (rw [show decide (0 < szF zq f ∧ swF zq f = szF zq f) = false from by (simp only [decide_eq_false_iff_not]; omega)]; rfl)
    · skip
      refine lv_iconst (v := nI 1) hx hb dX11_isFinished_26 (by decide) ?_
      refine lv_goto (tgt := 31) hx hb dX11_isFinished_27 (by decide) ?_
      refine mh_zret hB ⟨Nat.le_of_ble_eq_true rfl, Nat.le_of_ble_eq_true rfl⟩ hS dX11_isFinished_31 (by first | rfl | decide | (split <;> rfl)) ⟨?_, rfl⟩
      · first | (rw [show decide (0 < szF zq f ∧ swF zq f = szF zq f) = true from by (simp only [decide_eq_true_eq]; omega)]; rfl) | (rw [show decide (0 < szF zq f ∧ swF zq f = szF zq f) = false from by (simp only [decide_eq_false_iff_not]; omega)]; rfl)

def rm_c_X11_keep : Room := { frames := 0, cells := 0, slots := 0, locals := 0 }
set_option maxRecDepth 100000 in
set_option maxHeartbeats 400000 in
theorem c_X11_keep (l : Launch) (g : GG) (H0 : Heap) (r : Nat) (zq : Nat → Int32) (zsp : Nat → Int32) (zrm : Nat → Int32) (zst : Int32) (zsl : Nat → Int32) (zsv : Nat → Int32) (ztx : Nat → Int32) (zln : Int32) (zth : Int32) (zsg : Nat → Int32) (zbg : Nat → Int32) (zwd : Nat → Int32) (zhg : Nat → Int32) (zin : Nat → Int32) (zop : Int32) (zbe : Int32) (zwi : Int32) (zhi : Int32) (zbk : Nat → Int32) (zot : Nat → Int32) (zer : Int32) (zen : Int32) (zpo : Nat → Int32) (zpi : Int32) (zgr : Int32) (zsh : Nat → Int32) (zsn : Int32) (hR : ModAt g r zq zsp zrm zst zsl zsv ztx zln zth zsg zbg zwd zhg zin zop zbe zwi zhi zbk zot zer zen zpo zpi zgr zsh zsn H0) : Ct l yX11_keep cX11_keep 2 none rm_c_X11_keep g [.ref r] H0 (ftA (fun q => r ≤ q ∧ q < r + 16) H0.size) (fun v H1 => v = none ∧ ModAt g r zq zq zrm zst zsl zsv ztx zln zth zsg zbg zwd zhg zin zop zbe zwi zhi zbk zot zer zen zpo zpi zgr zsh zsn H1) := by
  refine Ct.of (by decide) (fun _ h => Or.inr h) (Nat.le_of_ble_eq_true rfl) ?_
  intro p e s m below meth c ls hB hin hS hH hl
  have hx := hB.x
  have hb := hB.b
  have hl : lv_has ls 2 [(0, .ref r)] := hl
  refine lv_iconst (v := nI 0) hx hb dX11_keep_0 (by decide) ?_
  refine lv_istore_n (lv' := [(1, .int (nI 0)), (0, .ref r)]) hx hb dX11_keep_1 rfl hl (by decide) rfl (fun ls hl => ?_)
  refine mh_loop (σ := Nat) (fun xx9 H locs ls => match xx9 with | i => i ≤ 866 ∧ ModAt g r zq (lowOf zq zsp i) zrm zst zsl zsv ztx zln zth zsg zbg zwd zhg zin zop zbe zwi zhi zbk zot zer zen zpo zpi zgr zsh zsn H ∧ va_S (ftA (fun q => r ≤ q ∧ q < r + 16) H0.size) H0 H locs ∧ lv_has ls 2 [(0, .ref r), (1, .int (nI i))]) (fun xx9 => match xx9 with | i => 866 - i) ?_ 0 ⟨(by omega), (by rw [lowOf_0]; exact hR), hS, lv_sub hl [1, 0] rfl⟩
  rintro i H locs ls ⟨hi, hR, hS, hl⟩ ih
  have ih2 := ih
  refine lv_iload_n hx hb dX11_keep_2 rfl (lv_at hl 1 rfl) ?_
  refine lv_sipush (v := nI 866) hx hb dX11_keep_3 (by decide +kernel) ?_
  refine mn_icmp_ge (tgt := 27) hB dX11_keep_6 (by decide) (by omega) (by omega) (fun h_6 => ?_) (fun h_6 => ?_)
  · skip
    have hin : i = 866 := by omega
    subst hin
    refine mh_vret hB ⟨Nat.le_of_ble_eq_true rfl, Nat.le_of_ble_eq_true rfl⟩ hS dX11_keep_27 ⟨?_, ?_⟩
    · rfl
    · exact hR.eq_zsp (fun j hj => lowOf_all _ _ hj)
  · skip
    refine lv_aload_n hx hb dX11_keep_9 rfl (lv_at hl 0 rfl) ?_
    refine gf_X11_13 hB hR.o rfl dX11_keep_10 ?_
    refine lv_iload_n hx hb dX11_keep_13 rfl (lv_at hl 1 rfl) ?_
    refine lv_aload_n hx hb dX11_keep_14 rfl (lv_at hl 0 rfl) ?_
    refine gf_X11_7 hB hR.o rfl dX11_keep_15 ?_
    refine lv_iload_n hx hb dX11_keep_18 rfl (lv_at hl 1 rfl) ?_
    refine mn_iald hB hR.a_zq (by omega) (by omega) dX11_keep_19 ?_
    refine mn_iast hB hR.a_zsp (by first | exact Or.inl rfl | (simp only [ftA]; omega) | (simp [ftA]; omega)) hS (by omega) (by omega) dX11_keep_20 (fun H locs hwr => ?_)
    obtain ⟨hR, hS⟩ := hR.w_zsp hwr
    refine lv_iinc (v := nI (i + 1)) (lv' := [(1, .int (nI (i + 1))), (0, .ref r)]) hx hb dX11_keep_21 hl (k := 1) rfl (nI_1 _) (by decide) rfl (fun ls hl => ?_)
    refine lv_goto (tgt := 2) hx hb dX11_keep_24 (by decide) ?_
    refine ih2 (i + 1) _ _ _ ⟨(by omega), (by rw [← lowOf_up]; exact hR), hS, lv_sub hl [1, 0] rfl⟩ (by dsimp only; omega)

def rm_c_X11_bringBack : Room := { frames := 0, cells := 0, slots := 0, locals := 0 }
set_option maxRecDepth 100000 in
set_option maxHeartbeats 400000 in
theorem c_X11_bringBack (l : Launch) (g : GG) (H0 : Heap) (r : Nat) (zq : Nat → Int32) (zsp : Nat → Int32) (zrm : Nat → Int32) (zst : Int32) (zsl : Nat → Int32) (zsv : Nat → Int32) (ztx : Nat → Int32) (zln : Int32) (zth : Int32) (zsg : Nat → Int32) (zbg : Nat → Int32) (zwd : Nat → Int32) (zhg : Nat → Int32) (zin : Nat → Int32) (zop : Int32) (zbe : Int32) (zwi : Int32) (zhi : Int32) (zbk : Nat → Int32) (zot : Nat → Int32) (zer : Int32) (zen : Int32) (zpo : Nat → Int32) (zpi : Int32) (zgr : Int32) (zsh : Nat → Int32) (zsn : Int32) (hR : ModAt g r zq zsp zrm zst zsl zsv ztx zln zth zsg zbg zwd zhg zin zop zbe zwi zhi zbk zot zer zen zpo zpi zgr zsh zsn H0) : Ct l yX11_bringBack cX11_bringBack 2 none rm_c_X11_bringBack g [.ref r] H0 (ftA (fun q => r ≤ q ∧ q < r + 16) H0.size) (fun v H1 => v = none ∧ ModAt g r zsp zsp zrm zst zsl zsv ztx zln zth zsg zbg zwd zhg zin zop zbe zwi zhi zbk zot zer zen zpo zpi zgr zsh zsn H1) := by
  refine Ct.of (by decide) (fun _ h => Or.inr h) (Nat.le_of_ble_eq_true rfl) ?_
  intro p e s m below meth c ls hB hin hS hH hl
  have hx := hB.x
  have hb := hB.b
  have hl : lv_has ls 2 [(0, .ref r)] := hl
  refine lv_iconst (v := nI 0) hx hb dX11_bringBack_0 (by decide) ?_
  refine lv_istore_n (lv' := [(1, .int (nI 0)), (0, .ref r)]) hx hb dX11_bringBack_1 rfl hl (by decide) rfl (fun ls hl => ?_)
  refine mh_loop (σ := Nat) (fun xx9 H locs ls => match xx9 with | i => i ≤ 866 ∧ ModAt g r (lowOf zsp zq i) zsp zrm zst zsl zsv ztx zln zth zsg zbg zwd zhg zin zop zbe zwi zhi zbk zot zer zen zpo zpi zgr zsh zsn H ∧ va_S (ftA (fun q => r ≤ q ∧ q < r + 16) H0.size) H0 H locs ∧ lv_has ls 2 [(0, .ref r), (1, .int (nI i))]) (fun xx9 => match xx9 with | i => 866 - i) ?_ 0 ⟨(by omega), (by rw [lowOf_0]; exact hR), hS, lv_sub hl [1, 0] rfl⟩
  rintro i H locs ls ⟨hi, hR, hS, hl⟩ ih
  have ih2 := ih
  refine lv_iload_n hx hb dX11_bringBack_2 rfl (lv_at hl 1 rfl) ?_
  refine lv_sipush (v := nI 866) hx hb dX11_bringBack_3 (by decide +kernel) ?_
  refine mn_icmp_ge (tgt := 27) hB dX11_bringBack_6 (by decide) (by omega) (by omega) (fun h_6 => ?_) (fun h_6 => ?_)
  · skip
    have hin : i = 866 := by omega
    subst hin
    refine mh_vret hB ⟨Nat.le_of_ble_eq_true rfl, Nat.le_of_ble_eq_true rfl⟩ hS dX11_bringBack_27 ⟨?_, ?_⟩
    · rfl
    · exact hR.eq_zq (fun j hj => lowOf_all _ _ hj)
  · skip
    refine lv_aload_n hx hb dX11_bringBack_9 rfl (lv_at hl 0 rfl) ?_
    refine gf_X11_7 hB hR.o rfl dX11_bringBack_10 ?_
    refine lv_iload_n hx hb dX11_bringBack_13 rfl (lv_at hl 1 rfl) ?_
    refine lv_aload_n hx hb dX11_bringBack_14 rfl (lv_at hl 0 rfl) ?_
    refine gf_X11_13 hB hR.o rfl dX11_bringBack_15 ?_
    refine lv_iload_n hx hb dX11_bringBack_18 rfl (lv_at hl 1 rfl) ?_
    refine mn_iald hB hR.a_zsp (by omega) (by omega) dX11_bringBack_19 ?_
    refine mn_iast hB hR.a_zq (by first | exact Or.inl rfl | (simp only [ftA]; omega) | (simp [ftA]; omega)) hS (by omega) (by omega) dX11_bringBack_20 (fun H locs hwr => ?_)
    obtain ⟨hR, hS⟩ := hR.w_zq hwr
    refine lv_iinc (v := nI (i + 1)) (lv' := [(1, .int (nI (i + 1))), (0, .ref r)]) hx hb dX11_bringBack_21 hl (k := 1) rfl (nI_1 _) (by decide) rfl (fun ls hl => ?_)
    refine lv_goto (tgt := 2) hx hb dX11_bringBack_24 (by decide) ?_
    refine ih2 (i + 1) _ _ _ ⟨(by omega), (by rw [← lowOf_up]; exact hR), hS, lv_sub hl [1, 0] rfl⟩ (by dsimp only; omega)

def rm_c_X11_sum : Room := { frames := 0, cells := 0, slots := 0, locals := 0 }
set_option maxRecDepth 100000 in
set_option maxHeartbeats 400000 in
theorem c_X11_sum (l : Launch) (g : GG) (H0 : Heap) (r : Nat) (zq : Nat → Int32) (zsp : Nat → Int32) (zrm : Nat → Int32) (zst : Int32) (zsl : Nat → Int32) (zsv : Nat → Int32) (ztx : Nat → Int32) (zln : Int32) (zth : Int32) (zsg : Nat → Int32) (zbg : Nat → Int32) (zwd : Nat → Int32) (zhg : Nat → Int32) (zin : Nat → Int32) (zop : Int32) (zbe : Int32) (zwi : Int32) (zhi : Int32) (zbk : Nat → Int32) (zot : Nat → Int32) (zer : Int32) (zen : Int32) (zpo : Nat → Int32) (zpi : Int32) (zgr : Int32) (zsh : Nat → Int32) (zsn : Int32) (a : Nat) (n : Nat) (hR : ModAt g r zq zsp zrm zst zsl zsv ztx zln zth zsg zbg zwd zhg zin zop zbe zwi zhi zbk zot zer zen zpo zpi zgr zsh zsn H0) (han : a + n ≤ 866) : Ct l yX11_sum cX11_sum 5 (some .int) rm_c_X11_sum g [.ref r, .int (nI a), .int (nI n)] H0 (ftA (fun _ => False) H0.size) (fun v H1 => v = some (.int (bx_sum (fun j9 => zq (a + j9)) n)) ∧ H0 = H1) := by
  refine Ct.of (by decide) (fun _ h => Or.inr h) (Nat.le_of_ble_eq_true rfl) ?_
  intro p e s m below meth c ls hB hin hS hH hl
  have hx := hB.x
  have hb := hB.b
  have hl : lv_has ls 5 [(0, .ref r), (1, .int (nI a)), (2, .int (nI n))] := hl
  refine lv_iconst (v := nI 0) hx hb dX11_sum_0 (by decide) ?_
  refine lv_istore_n (lv' := [(3, .int (nI 0)), (0, .ref r), (1, .int (nI a)), (2, .int (nI n))]) hx hb dX11_sum_1 rfl hl (by decide) rfl (fun ls hl => ?_)
  refine lv_iconst (v := nI 0) hx hb dX11_sum_2 (by decide) ?_
  refine lv_istore (lv' := [(4, .int (nI 0)), (3, .int (nI 0)), (0, .ref r), (1, .int (nI a)), (2, .int (nI n))]) hx hb dX11_sum_3 hl (by decide) rfl (fun ls hl => ?_)
  refine mh_loopR (σ := Nat) (fun xx9 locs ls => match xx9 with | i => i ≤ n ∧ va_S (ftA (fun _ => False) H0.size) H0 H0 locs ∧ lv_has ls 5 [(0, .ref r), (1, .int (nI a)), (2, .int (nI n)), (3, .int (bx_sum (fun j9 => zq (a + j9)) i)), (4, .int (nI i))]) (fun xx9 => match xx9 with | i => n - i) ?_ 0 ⟨(by omega), hS, lv_sub hl [2, 3, 4, 1, 0] rfl⟩
  rintro i locs ls ⟨hi, hS, hl⟩ ih
  have ih5 := ih
  refine lv_iload hx hb dX11_sum_5 (lv_at hl 4 rfl) ?_
  refine lv_iload_n hx hb dX11_sum_7 rfl (lv_at hl 2 rfl) ?_
  refine mn_icmp_ge (tgt := 29) hB dX11_sum_8 (by decide) (by omega) (by omega) (fun h_8 => ?_) (fun h_8 => ?_)
  · skip
    have hin : i = n := by omega
    subst hin
    refine lv_iload_n hx hb dX11_sum_29 rfl (lv_at hl 3 rfl) ?_
    refine mh_iret hB ⟨Nat.le_of_ble_eq_true rfl, Nat.le_of_ble_eq_true rfl⟩ hS dX11_sum_30 ⟨?_, rfl⟩
    · rfl
  · skip
    refine lv_iload_n hx hb dX11_sum_11 rfl (lv_at hl 3 rfl) ?_
    refine lv_aload_n hx hb dX11_sum_12 rfl (lv_at hl 0 rfl) ?_
    refine gf_X11_7 hB hR.o rfl dX11_sum_13 ?_
    refine lv_iload_n hx hb dX11_sum_16 rfl (lv_at hl 1 rfl) ?_
    refine lv_iload hx hb dX11_sum_17 (lv_at hl 4 rfl) ?_
    refine mn_iadd hB dX11_sum_19 ?_
    refine mn_iald hB hR.a_zq (by omega) (by omega) dX11_sum_20 ?_
    refine lv_iadd hx hb dX11_sum_21 ?_
    refine mh_top (y := .int (bx_sum (fun j9 => zq (a + j9)) (i + 1))) (rfl) ?_
    refine lv_istore_n (lv' := [(3, .int (bx_sum (fun j9 => zq (a + j9)) (i + 1))), (0, .ref r), (1, .int (nI a)), (2, .int (nI n)), (4, .int (nI i))]) hx hb dX11_sum_22 rfl hl (by decide) rfl (fun ls hl => ?_)
    refine lv_iinc (v := nI (i + 1)) (lv' := [(4, .int (nI (i + 1))), (3, .int (bx_sum (fun j9 => zq (a + j9)) (i + 1))), (0, .ref r), (1, .int (nI a)), (2, .int (nI n))]) hx hb dX11_sum_23 hl (k := 4) rfl (nI_1 _) (by decide) rfl (fun ls hl => ?_)
    refine lv_goto (tgt := 5) hx hb dX11_sum_26 (by decide) ?_
    refine ih5 (i + 1) _ _ ⟨(by omega), hS, lv_sub hl [2, 3, 4, 1, 0] rfl⟩ (by dsimp only; omega)

def rm_c_X11_givenOf : Room := { frames := 0, cells := 0, slots := 0, locals := 0 }
set_option maxRecDepth 100000 in
set_option maxHeartbeats 400000 in
theorem c_X11_givenOf (l : Launch) (g : GG) (H0 : Heap) (r : Nat) (zq : Nat → Int32) (zsp : Nat → Int32) (zrm : Nat → Int32) (zst : Int32) (zsl : Nat → Int32) (zsv : Nat → Int32) (ztx : Nat → Int32) (zln : Int32) (zth : Int32) (zsg : Nat → Int32) (zbg : Nat → Int32) (zwd : Nat → Int32) (zhg : Nat → Int32) (zin : Nat → Int32) (zop : Int32) (zbe : Int32) (zwi : Int32) (zhi : Int32) (zbk : Nat → Int32) (zot : Nat → Int32) (zer : Int32) (zen : Int32) (zpo : Nat → Int32) (zpi : Int32) (zgr : Int32) (zsh : Nat → Int32) (zsn : Int32) (c0 : Nat) (hR : ModAt g r zq zsp zrm zst zsl zsv ztx zln zth zsg zbg zwd zhg zin zop zbe zwi zhi zbk zot zer zen zpo zpi zgr zsh zsn H0) (hc : c0 < 6) : Ct l yX11_givenOf cX11_givenOf 4 (some .int) rm_c_X11_givenOf g [.ref r, .int (nI c0)] H0 (ftA (fun _ => False) H0.size) (fun v H1 => v = some (.int (bx_sum (fun j9 => zq (15 + 6 * j9 + c0)) 5)) ∧ H0 = H1) := by
  refine Ct.of (by decide) (fun _ h => Or.inr h) (Nat.le_of_ble_eq_true rfl) ?_
  intro p e s m below meth c ls hB hin hS hH hl
  have hx := hB.x
  have hb := hB.b
  have hl : lv_has ls 4 [(0, .ref r), (1, .int (nI c0))] := hl
  refine lv_iconst (v := nI 0) hx hb dX11_givenOf_0 (by decide) ?_
  refine lv_istore_n (lv' := [(2, .int (nI 0)), (0, .ref r), (1, .int (nI c0))]) hx hb dX11_givenOf_1 rfl hl (by decide) rfl (fun ls hl => ?_)
  refine lv_iconst (v := nI 0) hx hb dX11_givenOf_2 (by decide) ?_
  refine lv_istore_n (lv' := [(3, .int (nI 0)), (2, .int (nI 0)), (0, .ref r), (1, .int (nI c0))]) hx hb dX11_givenOf_3 rfl hl (by decide) rfl (fun ls hl => ?_)
  refine mh_loopR (σ := Nat) (fun xx9 locs ls => match xx9 with | i => i ≤ 5 ∧ va_S (ftA (fun _ => False) H0.size) H0 H0 locs ∧ lv_has ls 4 [(0, .ref r), (1, .int (nI c0)), (2, .int (bx_sum (fun j9 => zq (15 + 6 * j9 + c0)) i)), (3, .int (nI i))]) (fun xx9 => match xx9 with | i => 5 - i) ?_ 0 ⟨(by omega), hS, lv_sub hl [2, 3, 1, 0] rfl⟩
  rintro i locs ls ⟨hi, hS, hl⟩ ih
  have ih4 := ih
  refine lv_iload_n hx hb dX11_givenOf_4 rfl (lv_at hl 3 rfl) ?_
  refine lv_iconst (v := nI 5) hx hb dX11_givenOf_5 (by decide) ?_
  refine mn_icmp_ge (tgt := 32) hB dX11_givenOf_6 (by decide) (by omega) (by omega) (fun h_6 => ?_) (fun h_6 => ?_)
  · skip
    have hin : i = 5 := by omega
    subst hin
    refine lv_iload_n hx hb dX11_givenOf_32 rfl (lv_at hl 2 rfl) ?_
    refine mh_iret hB ⟨Nat.le_of_ble_eq_true rfl, Nat.le_of_ble_eq_true rfl⟩ hS dX11_givenOf_33 ⟨?_, rfl⟩
    · rfl
  · skip
    refine lv_iload_n hx hb dX11_givenOf_9 rfl (lv_at hl 2 rfl) ?_
    refine lv_aload_n hx hb dX11_givenOf_10 rfl (lv_at hl 0 rfl) ?_
    refine gf_X11_7 hB hR.o rfl dX11_givenOf_11 ?_
    refine lv_bipush (v := nI 15) hx hb dX11_givenOf_14 (by decide) ?_
    refine lv_bipush (v := nI 6) hx hb dX11_givenOf_16 (by decide) ?_
    refine lv_iload_n hx hb dX11_givenOf_18 rfl (lv_at hl 3 rfl) ?_
    refine mn_imul hB dX11_givenOf_19 ?_
    refine mn_iadd hB dX11_givenOf_20 ?_
    refine lv_iload_n hx hb dX11_givenOf_21 rfl (lv_at hl 1 rfl) ?_
    refine mn_iadd hB dX11_givenOf_22 ?_
    refine mn_iald hB hR.a_zq (by omega) (by omega) dX11_givenOf_23 ?_
    refine lv_iadd hx hb dX11_givenOf_24 ?_
    refine mh_top (y := .int (bx_sum (fun j9 => zq (15 + 6 * j9 + c0)) (i + 1))) (rfl) ?_
    refine lv_istore_n (lv' := [(2, .int (bx_sum (fun j9 => zq (15 + 6 * j9 + c0)) (i + 1))), (0, .ref r), (1, .int (nI c0)), (3, .int (nI i))]) hx hb dX11_givenOf_25 rfl hl (by decide) rfl (fun ls hl => ?_)
    refine lv_iinc (v := nI (i + 1)) (lv' := [(3, .int (nI (i + 1))), (2, .int (bx_sum (fun j9 => zq (15 + 6 * j9 + c0)) (i + 1))), (0, .ref r), (1, .int (nI c0))]) hx hb dX11_givenOf_26 hl (k := 3) rfl (nI_1 _) (by decide) rfl (fun ls hl => ?_)
    refine lv_goto (tgt := 4) hx hb dX11_givenOf_29 (by decide) ?_
    refine ih4 (i + 1) _ _ ⟨(by omega), hS, lv_sub hl [2, 3, 1, 0] rfl⟩ (by dsimp only; omega)

def rm_c_X11_colourIn : Room := { frames := 2, cells := 0, slots := 0, locals := 43 }
set_option maxRecDepth 100000 in
set_option maxHeartbeats 400000 in
theorem c_X11_colourIn (l : Launch) (g : GG) (H0 : Heap) (r : Nat) (zq : Nat → Int32) (zsp : Nat → Int32) (zrm : Nat → Int32) (zst : Int32) (zsl : Nat → Int32) (zsv : Nat → Int32) (ztx : Nat → Int32) (zln : Int32) (zth : Int32) (zsg : Nat → Int32) (zbg : Nat → Int32) (zwd : Nat → Int32) (zhg : Nat → Int32) (zin : Nat → Int32) (zop : Int32) (zbe : Int32) (zwi : Int32) (zhi : Int32) (zbk : Nat → Int32) (zot : Nat → Int32) (zer : Int32) (zen : Int32) (zpo : Nat → Int32) (zpi : Int32) (zgr : Int32) (zsh : Nat → Int32) (zsn : Int32) (f : Nat) (c0 : Nat) (a : Nat) (b : Nat) (hR : ModAt g r zq zsp zrm zst zsl zsv ztx zln zth zsg zbg zwd zhg zin zop zbe zwi zhi zbk zot zer zen zpo zpi zgr zsh zsn H0) (hf : f < 3) (hF : WFf zq f) (hc : c0 < 6) (hab : a ≤ b) (hb9 : b ≤ 256) : Ct l yX11_colourIn cX11_colourIn 7 (some .int) rm_c_X11_colourIn g [.ref r, .int (nI f), .int (nI c0), .int (nI a), .int (nI b)] H0 (ftA (fun _ => False) H0.size) (fun v H1 => v = some (.int (nI (cntC zq f c0 a (b - a)))) ∧ H0 = H1) := by
  refine Ct.of (by decide) (fun _ h => Or.inr h) (Nat.le_of_ble_eq_true rfl) ?_
  intro p e s m below meth c ls hB hin hS hH hl
  have hx := hB.x
  have hb := hB.b
  have hl : lv_has ls 7 [(0, .ref r), (1, .int (nI f)), (2, .int (nI c0)), (3, .int (nI a)), (4, .int (nI b))] := hl
  refine lv_iconst (v := nI 0) hx hb dX11_colourIn_0 (by decide) ?_
  refine lv_istore (lv' := [(5, .int (nI 0)), (0, .ref r), (1, .int (nI f)), (2, .int (nI c0)), (3, .int (nI a)), (4, .int (nI b))]) hx hb dX11_colourIn_1 hl (by decide) rfl (fun ls hl => ?_)
  refine lv_iload_n hx hb dX11_colourIn_3 rfl (lv_at hl 4 rfl) ?_
  refine lv_istore (lv' := [(6, .int (nI a)), (5, .int (nI 0)), (0, .ref r), (1, .int (nI f)), (2, .int (nI c0)), (3, .int (nI a)), (4, .int (nI b))]) hx hb dX11_colourIn_4 hl (by decide) rfl (fun ls hl => ?_)
  refine mh_loopR (σ := Nat) (fun xx9 locs ls => match xx9 with | i => i ≤ b - a ∧ va_S (ftA (fun _ => False) H0.size) H0 H0 locs ∧ lv_has ls 7 [(0, .ref r), (1, .int (nI f)), (2, .int (nI c0)), (3, .int (nI a)), (4, .int (nI b)), (5, .int (nI (cntC zq f c0 a i))), (6, .int (nI (a + i)))]) (fun xx9 => match xx9 with | i => b - a - i) ?_ 0 ⟨(by omega), hS, lv_sub hl [2, 3, 4, 5, 6, 1, 0] rfl⟩
  rintro i locs ls ⟨hi, hS, hl⟩ ih
  have ih6 := ih
  refine lv_iload hx hb dX11_colourIn_6 (lv_at hl 6 rfl) ?_
  refine lv_iload hx hb dX11_colourIn_8 (lv_at hl 4 rfl) ?_
  refine mn_icmp_ge (tgt := 40) hB dX11_colourIn_10 (by decide) (by omega) (by omega) (fun h_10 => ?_) (fun h_10 => ?_)
  · skip
    have hin : i = b - a := by omega
    subst hin
    refine lv_iload hx hb dX11_colourIn_40 (lv_at hl 5 rfl) ?_
    refine mh_iret hB ⟨Nat.le_of_ble_eq_true rfl, Nat.le_of_ble_eq_true rfl⟩ hS dX11_colourIn_42 ⟨?_, rfl⟩
    · rfl
  · skip
    refine lv_iload hx hb dX11_colourIn_13 (lv_at hl 5 rfl) ?_
    refine lv_aload_n hx hb dX11_colourIn_15 rfl (lv_at hl 0 rfl) ?_
    refine lv_iload_n hx hb dX11_colourIn_16 rfl (lv_at hl 1 rfl) ?_
    refine lv_iload hx hb dX11_colourIn_17 (lv_at hl 6 rfl) ?_
    refine cl_X11_150 (As := [.int (nI f), .int (nI (a + i))]) (rest := [.int (nI (cntC zq f c0 a i))]) hB (c_X11_colourAt l g H0 r zq zsp zrm zst zsl zsv ztx zln zth zsg zbg zwd zhg zin zop zbe zwi zhi zbk zot zer zen zpo zpi zgr zsh zsn f (a + i) hR (by omega) (by omega) (by omega)) hR.o rfl hl.1 (Nat.le_of_ble_eq_true rfl) dX11_colourIn_19 ⟨Nat.le_of_ble_eq_true rfl, Nat.le_of_ble_eq_true rfl⟩ ⟨Nat.le_of_ble_eq_true rfl, Nat.le_of_ble_eq_true rfl⟩ hS (by have hz9 := hS.1; rintro q (h | h) <;> first | exact Or.inr (by omega) | exact h.elim | exact Or.inl h | (simp only [ftA] at h ⊢; omega)) (fun v H1 locs hpo hfr hS => ?_)
    obtain ⟨rfl, rfl⟩ := hpo
    refine W.widen (k := 0) (n := 0) (Nat.le_of_ble_eq_true rfl) (Nat.le_of_ble_eq_true rfl) ?_
    refine mh_top (y := .int (nI (clF zq f (a + i)))) (rfl) ?_
    refine lv_iload_n hx hb dX11_colourIn_22 rfl (lv_at hl 2 rfl) ?_
    refine mn_icmp_ne (tgt := 30) hB dX11_colourIn_23 (by decide) (by have := hF.c6 (k := a + i) (by omega); omega) (by omega) (fun h_23 => ?_) (fun h_23 => ?_)
    · skip
      refine lv_iconst (v := nI 0) hx hb dX11_colourIn_30 (by decide) ?_
      refine mn_iadd hB dX11_colourIn_31 ?_
      refine mh_top (y := .int (nI (cntC zq f c0 a (i + 1)))) (by simp [cntC, cntR, h_23]) ?_
      refine lv_istore (lv' := [(5, .int (nI (cntC zq f c0 a (i + 1)))), (0, .ref r), (1, .int (nI f)), (2, .int (nI c0)), (3, .int (nI a)), (4, .int (nI b)), (6, .int (nI (a + i)))]) hx hb dX11_colourIn_32 hl (by decide) rfl (fun ls hl => ?_)
      refine lv_iinc (v := nI (a + i + 1)) (lv' := [(6, .int (nI (a + i + 1))), (5, .int (nI (cntC zq f c0 a (i + 1)))), (0, .ref r), (1, .int (nI f)), (2, .int (nI c0)), (3, .int (nI a)), (4, .int (nI b))]) hx hb dX11_colourIn_34 hl (k := 6) rfl (nI_1 _) (by decide) rfl (fun ls hl => ?_)
      refine lv_goto (tgt := 6) hx hb dX11_colourIn_37 (by decide) ?_
      refine ih6 (i + 1) _ _ ⟨(by omega), hS, lv_sub hl [2, 3, 4, 5, 6, 1, 0] rfl⟩ (by dsimp only; omega)
    · skip
      refine lv_iconst (v := nI 1) hx hb dX11_colourIn_26 (by decide) ?_
      refine lv_goto (tgt := 31) hx hb dX11_colourIn_27 (by decide) ?_
      refine mn_iadd hB dX11_colourIn_31 ?_
      refine mh_top (y := .int (nI (cntC zq f c0 a (i + 1)))) (by simp [cntC, cntR, h_23]) ?_
      refine lv_istore (lv' := [(5, .int (nI (cntC zq f c0 a (i + 1)))), (0, .ref r), (1, .int (nI f)), (2, .int (nI c0)), (3, .int (nI a)), (4, .int (nI b)), (6, .int (nI (a + i)))]) hx hb dX11_colourIn_32 hl (by decide) rfl (fun ls hl => ?_)
      refine lv_iinc (v := nI (a + i + 1)) (lv' := [(6, .int (nI (a + i + 1))), (5, .int (nI (cntC zq f c0 a (i + 1)))), (0, .ref r), (1, .int (nI f)), (2, .int (nI c0)), (3, .int (nI a)), (4, .int (nI b))]) hx hb dX11_colourIn_34 hl (k := 6) rfl (nI_1 _) (by decide) rfl (fun ls hl => ?_)
      refine lv_goto (tgt := 6) hx hb dX11_colourIn_37 (by decide) ?_
      refine ih6 (i + 1) _ _ ⟨(by omega), hS, lv_sub hl [2, 3, 4, 5, 6, 1, 0] rfl⟩ (by dsimp only; omega)

def rm_c_X11_coloursOf : Room := { frames := 3, cells := 0, slots := 0, locals := 69 }
set_option maxRecDepth 100000 in
set_option maxHeartbeats 400000 in
theorem c_X11_coloursOf (l : Launch) (g : GG) (H0 : Heap) (r : Nat) (zq : Nat → Int32) (zsp : Nat → Int32) (zrm : Nat → Int32) (zst : Int32) (zsl : Nat → Int32) (zsv : Nat → Int32) (ztx : Nat → Int32) (zln : Int32) (zth : Int32) (zsg : Nat → Int32) (zbg : Nat → Int32) (zwd : Nat → Int32) (zhg : Nat → Int32) (zin : Nat → Int32) (zop : Int32) (zbe : Int32) (zwi : Int32) (zhi : Int32) (zbk : Nat → Int32) (zot : Nat → Int32) (zer : Int32) (zen : Int32) (zpo : Nat → Int32) (zpi : Int32) (zgr : Int32) (zsh : Nat → Int32) (zsn : Int32) (f : Nat) (hR : ModAt g r zq zsp zrm zst zsl zsv ztx zln zth zsg zbg zwd zhg zin zop zbe zwi zhi zbk zot zer zen zpo zpi zgr zsh zsn H0) (hf : f < 3) (hF : WFf zq f) : Ct l yX11_coloursOf cX11_coloursOf 4 (some .int) rm_c_X11_coloursOf g [.ref r, .int (nI f)] H0 (ftA (fun _ => False) H0.size) (fun v H1 => v = some (.int (nI (cntR (fun j9 => decide (0 < cntC zq f j9 0 (szF zq f))) 0 6))) ∧ H0 = H1) := by
  refine Ct.of (by decide) (fun _ h => Or.inr h) (Nat.le_of_ble_eq_true rfl) ?_
  intro p e s m below meth c ls hB hin hS hH hl
  have hx := hB.x
  have hb := hB.b
  have hl : lv_has ls 4 [(0, .ref r), (1, .int (nI f))] := hl
  have hsz := WF.sz hF
  refine lv_iconst (v := nI 0) hx hb dX11_coloursOf_0 (by decide) ?_
  refine lv_istore_n (lv' := [(2, .int (nI 0)), (0, .ref r), (1, .int (nI f))]) hx hb dX11_coloursOf_1 rfl hl (by decide) rfl (fun ls hl => ?_)
  refine lv_iconst (v := nI 0) hx hb dX11_coloursOf_2 (by decide) ?_
  refine lv_istore_n (lv' := [(3, .int (nI 0)), (2, .int (nI 0)), (0, .ref r), (1, .int (nI f))]) hx hb dX11_coloursOf_3 rfl hl (by decide) rfl (fun ls hl => ?_)
  refine mh_loopR (σ := Nat) (fun xx9 locs ls => match xx9 with | i => i ≤ 6 ∧ va_S (ftA (fun _ => False) H0.size) H0 H0 locs ∧ lv_has ls 4 [(0, .ref r), (1, .int (nI f)), (2, .int (nI (cntR (fun j9 => decide (0 < cntC zq f j9 0 (szF zq f))) 0 i))), (3, .int (nI i))]) (fun xx9 => match xx9 with | i => 6 - i) ?_ 0 ⟨(by omega), hS, lv_sub hl [2, 3, 1, 0] rfl⟩
  rintro i locs ls ⟨hi, hS, hl⟩ ih
  have ih4 := ih
  refine lv_iload_n hx hb dX11_coloursOf_4 rfl (lv_at hl 3 rfl) ?_
  refine lv_bipush (v := nI 6) hx hb dX11_coloursOf_5 (by decide) ?_
  refine mn_icmp_ge (tgt := 39) hB dX11_coloursOf_7 (by decide) (by omega) (by omega) (fun h_7 => ?_) (fun h_7 => ?_)
  · skip
    have hin : i = 6 := by omega
    subst hin
    refine lv_iload_n hx hb dX11_coloursOf_39 rfl (lv_at hl 2 rfl) ?_
    refine mh_iret hB ⟨Nat.le_of_ble_eq_true rfl, Nat.le_of_ble_eq_true rfl⟩ hS dX11_coloursOf_40 ⟨?_, rfl⟩
    · rfl
  · skip
    refine lv_iload_n hx hb dX11_coloursOf_10 rfl (lv_at hl 2 rfl) ?_
    refine lv_aload_n hx hb dX11_coloursOf_11 rfl (lv_at hl 0 rfl) ?_
    refine lv_iload_n hx hb dX11_coloursOf_12 rfl (lv_at hl 1 rfl) ?_
    refine lv_iload_n hx hb dX11_coloursOf_13 rfl (lv_at hl 3 rfl) ?_
    refine lv_iconst (v := nI 0) hx hb dX11_coloursOf_14 (by decide) ?_
    refine lv_aload_n hx hb dX11_coloursOf_15 rfl (lv_at hl 0 rfl) ?_
    refine lv_iload_n hx hb dX11_coloursOf_16 rfl (lv_at hl 1 rfl) ?_
    refine cl_X11_75 (As := [.int (nI f)]) (rest := [.int (nI 0), .int (nI i), .int (nI f), .ref r, .int (nI (cntR (fun j9 => decide (0 < cntC zq f j9 0 (szF zq f))) 0 i))]) hB (c_X11_patches l g H0 r zq zsp zrm zst zsl zsv ztx zln zth zsg zbg zwd zhg zin zop zbe zwi zhi zbk zot zer zen zpo zpi zgr zsh zsn f hR (by omega) (by omega)) hR.o rfl hl.1 (Nat.le_of_ble_eq_true rfl) dX11_coloursOf_17 ⟨Nat.le_of_ble_eq_true rfl, Nat.le_of_ble_eq_true rfl⟩ ⟨Nat.le_of_ble_eq_true rfl, Nat.le_of_ble_eq_true rfl⟩ hS (by have hz9 := hS.1; rintro q (h | h) <;> first | exact Or.inr (by omega) | exact h.elim | exact Or.inl h | (simp only [ftA] at h ⊢; omega)) (fun v H1 locs hpo hfr hS => ?_)
    obtain ⟨rfl, rfl⟩ := hpo
    refine W.widen (k := 0) (n := 0) (Nat.le_of_ble_eq_true rfl) (Nat.le_of_ble_eq_true rfl) ?_
    refine cl_X11_158 (As := [.int (nI f), .int (nI i), .int (nI 0), .int (nI (szF zq f))]) (rest := [.int (nI (cntR (fun j9 => decide (0 < cntC zq f j9 0 (szF zq f))) 0 i))]) hB (c_X11_colourIn l g H0 r zq zsp zrm zst zsl zsv ztx zln zth zsg zbg zwd zhg zin zop zbe zwi zhi zbk zot zer zen zpo zpi zgr zsh zsn f i 0 (szF zq f) hR (by omega) (by omega) (by omega) (by omega) (by omega)) hR.o rfl hl.1 (Nat.le_of_ble_eq_true rfl) dX11_coloursOf_20 ⟨Nat.le_of_ble_eq_true rfl, Nat.le_of_ble_eq_true rfl⟩ ⟨Nat.le_of_ble_eq_true rfl, Nat.le_of_ble_eq_true rfl⟩ hS (by have hz9 := hS.1; rintro q (h | h) <;> first | exact Or.inr (by omega) | exact h.elim | exact Or.inl h | (simp only [ftA] at h ⊢; omega)) (fun v H1 locs hpo hfr hS => ?_)
    obtain ⟨rfl, rfl⟩ := hpo
    refine W.widen (k := 0) (n := 0) (Nat.le_of_ble_eq_true rfl) (Nat.le_of_ble_eq_true rfl) ?_
    refine mh_top (y := .int (nI (cntC zq f i 0 (szF zq f)))) (rfl) ?_
    refine mn_if_le (tgt := 30) hB dX11_coloursOf_23 (by decide) (by have := cntR_le (fun k => decide (clF zq f k = i)) 0 (szF zq f); simp only [cntC]; omega) (fun h_23 => ?_) (fun h_23 => ?_)
    · skip
      refine lv_iconst (v := nI 0) hx hb dX11_coloursOf_30 (by decide) ?_
      refine mn_iadd hB dX11_coloursOf_31 ?_
      refine mh_top (y := .int (nI (cntR (fun j9 => decide (0 < cntC zq f j9 0 (szF zq f))) 0 (i + 1)))) (by simp [cntR, h_23]) ?_
      refine lv_istore_n (lv' := [(2, .int (nI (cntR (fun j9 => decide (0 < cntC zq f j9 0 (szF zq f))) 0 (i + 1)))), (0, .ref r), (1, .int (nI f)), (3, .int (nI i))]) hx hb dX11_coloursOf_32 rfl hl (by decide) rfl (fun ls hl => ?_)
      refine lv_iinc (v := nI (i + 1)) (lv' := [(3, .int (nI (i + 1))), (2, .int (nI (cntR (fun j9 => decide (0 < cntC zq f j9 0 (szF zq f))) 0 (i + 1)))), (0, .ref r), (1, .int (nI f))]) hx hb dX11_coloursOf_33 hl (k := 3) rfl (nI_1 _) (by decide) rfl (fun ls hl => ?_)
      refine lv_goto (tgt := 4) hx hb dX11_coloursOf_36 (by decide) ?_
      refine ih4 (i + 1) _ _ ⟨(by omega), hS, lv_sub hl [2, 3, 1, 0] rfl⟩ (by dsimp only; omega)
    · skip
      refine lv_iconst (v := nI 1) hx hb dX11_coloursOf_26 (by decide) ?_
      refine lv_goto (tgt := 31) hx hb dX11_coloursOf_27 (by decide) ?_
      refine mn_iadd hB dX11_coloursOf_31 ?_
      refine mh_top (y := .int (nI (cntR (fun j9 => decide (0 < cntC zq f j9 0 (szF zq f))) 0 (i + 1)))) (by simp [cntR, h_23]) ?_
      refine lv_istore_n (lv' := [(2, .int (nI (cntR (fun j9 => decide (0 < cntC zq f j9 0 (szF zq f))) 0 (i + 1)))), (0, .ref r), (1, .int (nI f)), (3, .int (nI i))]) hx hb dX11_coloursOf_32 rfl hl (by decide) rfl (fun ls hl => ?_)
      refine lv_iinc (v := nI (i + 1)) (lv' := [(3, .int (nI (i + 1))), (2, .int (nI (cntR (fun j9 => decide (0 < cntC zq f j9 0 (szF zq f))) 0 (i + 1)))), (0, .ref r), (1, .int (nI f))]) hx hb dX11_coloursOf_33 hl (k := 3) rfl (nI_1 _) (by decide) rfl (fun ls hl => ?_)
      refine lv_goto (tgt := 4) hx hb dX11_coloursOf_36 (by decide) ?_
      refine ih4 (i + 1) _ _ ⟨(by omega), hS, lv_sub hl [2, 3, 1, 0] rfl⟩ (by dsimp only; omega)

def rm_c_X11_append : Room := { frames := 1, cells := 0, slots := 0, locals := 25 }
set_option maxRecDepth 100000 in
set_option maxHeartbeats 400000 in
theorem c_X11_append (l : Launch) (g : GG) (H0 : Heap) (r : Nat) (zq : Nat → Int32) (zsp : Nat → Int32) (zrm : Nat → Int32) (zst : Int32) (zsl : Nat → Int32) (zsv : Nat → Int32) (ztx : Nat → Int32) (zth : Int32) (zsg : Nat → Int32) (zbg : Nat → Int32) (zwd : Nat → Int32) (zhg : Nat → Int32) (zin : Nat → Int32) (zop : Int32) (zbe : Int32) (zwi : Int32) (zhi : Int32) (zbk : Nat → Int32) (zot : Nat → Int32) (zer : Int32) (zen : Int32) (zpo : Nat → Int32) (zpi : Int32) (zgr : Int32) (zsh : Nat → Int32) (zsn : Int32) (n : Nat) (k : Nat) (hR : ModAt g r zq zsp zrm zst zsl zsv ztx (nI n) zth zsg zbg zwd zhg zin zop zbe zwi zhi zbk zot zer zen zpo zpi zgr zsh zsn H0) (hk : k < 256) (hn : n < 60) : Ct l yX11_append cX11_append 2 (some .int) rm_c_X11_append g [.ref r, .int (nI k)] H0 (ftA (fun q => r ≤ q ∧ q < r + 16) H0.size) (fun v H1 => v = some (.int (nI (n + 1))) ∧ ModAt g r zq zsp zrm zst zsl zsv (upd ztx n (nI k)) (nI (n + 1)) (nI 0) zsg zbg zwd zhg zin zop zbe zwi zhi zbk zot zer zen zpo zpi zgr zsh zsn H1) := by
  refine Ct.of (by decide) (fun _ h => Or.inr h) (Nat.le_of_ble_eq_true rfl) ?_
  intro p e s m below meth c ls hB hin hS hH hl
  have hx := hB.x
  have hb := hB.b
  have hl : lv_has ls 2 [(0, .ref r), (1, .int (nI k))] := hl
  refine lv_aload_n hx hb dX11_append_0 rfl (lv_at hl 0 rfl) ?_
  refine lv_iconst (v := nI 0) hx hb dX11_append_1 (by decide) ?_
  refine pf_X11_56 hB hR.o (by first | exact Or.inl rfl | (simp only [ftA]; omega) | (simp [ftA]; omega)) hS rfl rfl (Nat.le_of_ble_eq_true rfl) dX11_append_2 (fun H locs hwr => ?_)
  obtain ⟨hR, hS⟩ := hR.w_zth hwr
  refine lv_iload_n hx hb dX11_append_5 rfl (lv_at hl 1 rfl) ?_
  refine lv_i2l (v := (nI k).toInt64) hx hb dX11_append_6 rfl ?_
  refine lv_lconst (v := 0) hx hb dX11_append_7 (by decide) ?_
  refine lv_ldc2 (v := (255)) hx hb hB.ow (hB.K.2 _ kw_1061 _) dX11_append_8 ?_
  refine cl_X11_63 (As := [.long ((nI k).toInt64), .long 0, .long (255)]) (rest := []) hB (c_X11_in l g H ((nI k).toInt64) 0 (255)) rfl hl.1 (Nat.le_of_ble_eq_true rfl) dX11_append_11 ⟨Nat.le_of_ble_eq_true rfl, Nat.le_of_ble_eq_true rfl⟩ ⟨Nat.le_of_ble_eq_true rfl, Nat.le_of_ble_eq_true rfl⟩ hS (by have hz9 := hS.1; rintro q (h | h) <;> first | exact Or.inr (by omega) | exact h.elim | exact Or.inl h | (simp only [ftA] at h ⊢; omega)) (fun v H1 locs hpo hfr hS => ?_)
  obtain ⟨rfl, rfl⟩ := hpo
  refine W.widen (k := 0) (n := 0) (Nat.le_of_ble_eq_true rfl) (Nat.le_of_ble_eq_true rfl) ?_
  refine mh_top (y := .int (bI (isIx (nI k) 256))) (by rw [inL_ix _ 256 _ (by decide)]) ?_
  refine mb_if_ne (tgt := 23) hB dX11_append_14 (by decide) (fun h_14 => ?_) (fun h => by rw [isIx_of hk (by omega)] at h; cases h)
  refine lv_aload_n hx hb dX11_append_23 rfl (lv_at hl 0 rfl) ?_
  refine gf_X11_84 hB hR.o rfl dX11_append_24 ?_
  refine lv_bipush (v := nI 60) hx hb dX11_append_27 (by decide) ?_
  refine mn_icmp_ne (tgt := 38) hB dX11_append_29 (by decide) (by omega) (by omega) (fun h_29 => ?_) (fun h => by exfalso; omega)
  refine lv_aload_n hx hb dX11_append_38 rfl (lv_at hl 0 rfl) ?_
  refine gf_X11_26 hB hR.o rfl dX11_append_39 ?_
  refine lv_aload_n hx hb dX11_append_42 rfl (lv_at hl 0 rfl) ?_
  refine gf_X11_84 hB hR.o rfl dX11_append_43 ?_
  refine lv_iload_n hx hb dX11_append_46 rfl (lv_at hl 1 rfl) ?_
  refine mn_iast hB hR.a_ztx (by first | exact Or.inl rfl | (simp only [ftA]; omega) | (simp [ftA]; omega)) hS (by omega) (by omega) dX11_append_47 (fun H locs hwr => ?_)
  obtain ⟨hR, hS⟩ := hR.w_ztx hwr
  refine lv_aload_n hx hb dX11_append_48 rfl (lv_at hl 0 rfl) ?_
  refine lv_dup hx hb dX11_append_49 rfl ?_
  refine gf_X11_84 hB hR.o rfl dX11_append_50 ?_
  refine lv_iconst (v := nI 1) hx hb dX11_append_53 (by decide) ?_
  refine mn_iadd hB dX11_append_54 ?_
  refine pf_X11_84 hB hR.o (by first | exact Or.inl rfl | (simp only [ftA]; omega) | (simp [ftA]; omega)) hS rfl rfl (Nat.le_of_ble_eq_true rfl) dX11_append_55 (fun H locs hwr => ?_)
  obtain ⟨hR, hS⟩ := hR.w_zln hwr
  refine lv_aload_n hx hb dX11_append_58 rfl (lv_at hl 0 rfl) ?_
  refine gf_X11_84 hB hR.o rfl dX11_append_59 ?_
  refine mh_iret hB ⟨Nat.le_of_ble_eq_true rfl, Nat.le_of_ble_eq_true rfl⟩ hS dX11_append_62 ⟨?_, ?_⟩
  · rfl
  · exact hR

def rm_c_X11_append_t1 : Room := { frames := 1, cells := 0, slots := 0, locals := 25 }
set_option maxRecDepth 100000 in
set_option maxHeartbeats 400000 in
theorem c_X11_append_t1 (l : Launch) (g : GG) (H0 : Heap) (r : Nat) (zq : Nat → Int32) (zsp : Nat → Int32) (zrm : Nat → Int32) (zst : Int32) (zsl : Nat → Int32) (zsv : Nat → Int32) (ztx : Nat → Int32) (zth : Int32) (zsg : Nat → Int32) (zbg : Nat → Int32) (zwd : Nat → Int32) (zhg : Nat → Int32) (zin : Nat → Int32) (zop : Int32) (zbe : Int32) (zwi : Int32) (zhi : Int32) (zbk : Nat → Int32) (zot : Nat → Int32) (zer : Int32) (zen : Int32) (zpo : Nat → Int32) (zpi : Int32) (zgr : Int32) (zsh : Nat → Int32) (zsn : Int32) (n : Nat) (x : Int32) (hR : ModAt g r zq zsp zrm zst zsl zsv ztx (nI n) zth zsg zbg zwd zhg zin zop zbe zwi zhi zbk zot zer zen zpo zpi zgr zsh zsn H0) (hx1 : isIx x 256 = false) : Ct l yX11_append cX11_append 2 (some .int) rm_c_X11_append_t1 g [.ref r, .int x] H0 (ftA (fun q => r ≤ q ∧ q < r + 16) H0.size) (fun v H1 => v = some (.int (nI 0)) ∧ ModAt g r zq zsp zrm zst zsl zsv ztx (nI n) (nI 1) zsg zbg zwd zhg zin zop zbe zwi zhi zbk zot zer zen zpo zpi zgr zsh zsn H1) := by
  refine Ct.of (by decide) (fun _ h => Or.inr h) (Nat.le_of_ble_eq_true rfl) ?_
  intro p e s m below meth c ls hB hin hS hH hl
  have hx := hB.x
  have hb := hB.b
  have hl : lv_has ls 2 [(0, .ref r), (1, .int x)] := hl
  refine lv_aload_n hx hb dX11_append_0 rfl (lv_at hl 0 rfl) ?_
  refine lv_iconst (v := nI 0) hx hb dX11_append_1 (by decide) ?_
  refine pf_X11_56 hB hR.o (by first | exact Or.inl rfl | (simp only [ftA]; omega) | (simp [ftA]; omega)) hS rfl rfl (Nat.le_of_ble_eq_true rfl) dX11_append_2 (fun H locs hwr => ?_)
  obtain ⟨hR, hS⟩ := hR.w_zth hwr
  refine lv_iload_n hx hb dX11_append_5 rfl (lv_at hl 1 rfl) ?_
  refine lv_i2l (v := (x).toInt64) hx hb dX11_append_6 rfl ?_
  refine lv_lconst (v := 0) hx hb dX11_append_7 (by decide) ?_
  refine lv_ldc2 (v := (255)) hx hb hB.ow (hB.K.2 _ kw_1061 _) dX11_append_8 ?_
  refine cl_X11_63 (As := [.long ((x).toInt64), .long 0, .long (255)]) (rest := []) hB (c_X11_in l g H ((x).toInt64) 0 (255)) rfl hl.1 (Nat.le_of_ble_eq_true rfl) dX11_append_11 ⟨Nat.le_of_ble_eq_true rfl, Nat.le_of_ble_eq_true rfl⟩ ⟨Nat.le_of_ble_eq_true rfl, Nat.le_of_ble_eq_true rfl⟩ hS (by have hz9 := hS.1; rintro q (h | h) <;> first | exact Or.inr (by omega) | exact h.elim | exact Or.inl h | (simp only [ftA] at h ⊢; omega)) (fun v H1 locs hpo hfr hS => ?_)
  obtain ⟨rfl, rfl⟩ := hpo
  refine W.widen (k := 0) (n := 0) (Nat.le_of_ble_eq_true rfl) (Nat.le_of_ble_eq_true rfl) ?_
  refine mh_top (y := .int (bI (isIx x 256))) (by rw [inL_ix _ 256 _ (by decide)]) ?_
  refine mb_if_ne (tgt := 23) hB dX11_append_14 (by decide) (fun h => by rw [hx1] at h; cases h) (fun h_14 => ?_)
  refine lv_aload_n hx hb dX11_append_17 rfl (lv_at hl 0 rfl) ?_
  refine lv_iconst (v := nI 1) hx hb dX11_append_18 (by decide) ?_
  refine cl_X11_81 (As := [.int (nI 1)]) (rest := []) hB (c_X11_fails l g H r zq zsp zrm zst zsl zsv ztx (nI n) (nI 0) zsg zbg zwd zhg zin zop zbe zwi zhi zbk zot zer zen zpo zpi zgr zsh zsn (nI 1) hR) hR.o rfl hl.1 (Nat.le_of_ble_eq_true rfl) dX11_append_19 ⟨Nat.le_of_ble_eq_true rfl, Nat.le_of_ble_eq_true rfl⟩ ⟨Nat.le_of_ble_eq_true rfl, Nat.le_of_ble_eq_true rfl⟩ hS (by have hz9 := hS.1; rintro q (h | h) <;> first | exact Or.inr (by omega) | exact h.elim | exact Or.inl h | (simp only [ftA] at h ⊢; omega)) (fun v H1 locs hpo hfr hS => ?_)
  obtain ⟨rfl, hR⟩ := hpo
  generalize H1 = H at hfr hS hR ⊢
  refine W.widen (k := 0) (n := 0) (Nat.le_of_ble_eq_true rfl) (Nat.le_of_ble_eq_true rfl) ?_
  refine mh_iret hB ⟨Nat.le_of_ble_eq_true rfl, Nat.le_of_ble_eq_true rfl⟩ hS dX11_append_22 ⟨?_, ?_⟩
  · rfl
  · exact hR

def rm_c_X11_append_t2 : Room := { frames := 1, cells := 0, slots := 0, locals := 25 }
set_option maxRecDepth 100000 in
set_option maxHeartbeats 400000 in
theorem c_X11_append_t2 (l : Launch) (g : GG) (H0 : Heap) (r : Nat) (zq : Nat → Int32) (zsp : Nat → Int32) (zrm : Nat → Int32) (zst : Int32) (zsl : Nat → Int32) (zsv : Nat → Int32) (ztx : Nat → Int32) (zth : Int32) (zsg : Nat → Int32) (zbg : Nat → Int32) (zwd : Nat → Int32) (zhg : Nat → Int32) (zin : Nat → Int32) (zop : Int32) (zbe : Int32) (zwi : Int32) (zhi : Int32) (zbk : Nat → Int32) (zot : Nat → Int32) (zer : Int32) (zen : Int32) (zpo : Nat → Int32) (zpi : Int32) (zgr : Int32) (zsh : Nat → Int32) (zsn : Int32) (n : Nat) (k : Nat) (hR : ModAt g r zq zsp zrm zst zsl zsv ztx (nI n) zth zsg zbg zwd zhg zin zop zbe zwi zhi zbk zot zer zen zpo zpi zgr zsh zsn H0) (hk : k < 256) (hn : n = 60) : Ct l yX11_append cX11_append 2 (some .int) rm_c_X11_append_t2 g [.ref r, .int (nI k)] H0 (ftA (fun q => r ≤ q ∧ q < r + 16) H0.size) (fun v H1 => v = some (.int (nI 0)) ∧ ModAt g r zq zsp zrm zst zsl zsv ztx (nI n) (nI 2) zsg zbg zwd zhg zin zop zbe zwi zhi zbk zot zer zen zpo zpi zgr zsh zsn H1) := by
  refine Ct.of (by decide) (fun _ h => Or.inr h) (Nat.le_of_ble_eq_true rfl) ?_
  intro p e s m below meth c ls hB hin hS hH hl
  have hx := hB.x
  have hb := hB.b
  have hl : lv_has ls 2 [(0, .ref r), (1, .int (nI k))] := hl
  refine lv_aload_n hx hb dX11_append_0 rfl (lv_at hl 0 rfl) ?_
  refine lv_iconst (v := nI 0) hx hb dX11_append_1 (by decide) ?_
  refine pf_X11_56 hB hR.o (by first | exact Or.inl rfl | (simp only [ftA]; omega) | (simp [ftA]; omega)) hS rfl rfl (Nat.le_of_ble_eq_true rfl) dX11_append_2 (fun H locs hwr => ?_)
  obtain ⟨hR, hS⟩ := hR.w_zth hwr
  refine lv_iload_n hx hb dX11_append_5 rfl (lv_at hl 1 rfl) ?_
  refine lv_i2l (v := (nI k).toInt64) hx hb dX11_append_6 rfl ?_
  refine lv_lconst (v := 0) hx hb dX11_append_7 (by decide) ?_
  refine lv_ldc2 (v := (255)) hx hb hB.ow (hB.K.2 _ kw_1061 _) dX11_append_8 ?_
  refine cl_X11_63 (As := [.long ((nI k).toInt64), .long 0, .long (255)]) (rest := []) hB (c_X11_in l g H ((nI k).toInt64) 0 (255)) rfl hl.1 (Nat.le_of_ble_eq_true rfl) dX11_append_11 ⟨Nat.le_of_ble_eq_true rfl, Nat.le_of_ble_eq_true rfl⟩ ⟨Nat.le_of_ble_eq_true rfl, Nat.le_of_ble_eq_true rfl⟩ hS (by have hz9 := hS.1; rintro q (h | h) <;> first | exact Or.inr (by omega) | exact h.elim | exact Or.inl h | (simp only [ftA] at h ⊢; omega)) (fun v H1 locs hpo hfr hS => ?_)
  obtain ⟨rfl, rfl⟩ := hpo
  refine W.widen (k := 0) (n := 0) (Nat.le_of_ble_eq_true rfl) (Nat.le_of_ble_eq_true rfl) ?_
  refine mh_top (y := .int (bI (isIx (nI k) 256))) (by rw [inL_ix _ 256 _ (by decide)]) ?_
  refine mb_if_ne (tgt := 23) hB dX11_append_14 (by decide) (fun h_14 => ?_) (fun h => by rw [isIx_of hk (by omega)] at h; cases h)
  refine lv_aload_n hx hb dX11_append_23 rfl (lv_at hl 0 rfl) ?_
  refine gf_X11_84 hB hR.o rfl dX11_append_24 ?_
  refine lv_bipush (v := nI 60) hx hb dX11_append_27 (by decide) ?_
  refine mn_icmp_ne (tgt := 38) hB dX11_append_29 (by decide) (by omega) (by omega) (fun h => by exfalso; omega) (fun h_29 => ?_)
  refine lv_aload_n hx hb dX11_append_32 rfl (lv_at hl 0 rfl) ?_
  refine lv_iconst (v := nI 2) hx hb dX11_append_33 (by decide) ?_
  refine cl_X11_81 (As := [.int (nI 2)]) (rest := []) hB (c_X11_fails l g H r zq zsp zrm zst zsl zsv ztx (nI n) (nI 0) zsg zbg zwd zhg zin zop zbe zwi zhi zbk zot zer zen zpo zpi zgr zsh zsn (nI 2) hR) hR.o rfl hl.1 (Nat.le_of_ble_eq_true rfl) dX11_append_34 ⟨Nat.le_of_ble_eq_true rfl, Nat.le_of_ble_eq_true rfl⟩ ⟨Nat.le_of_ble_eq_true rfl, Nat.le_of_ble_eq_true rfl⟩ hS (by have hz9 := hS.1; rintro q (h | h) <;> first | exact Or.inr (by omega) | exact h.elim | exact Or.inl h | (simp only [ftA] at h ⊢; omega)) (fun v H1 locs hpo hfr hS => ?_)
  obtain ⟨rfl, hR⟩ := hpo
  generalize H1 = H at hfr hS hR ⊢
  refine W.widen (k := 0) (n := 0) (Nat.le_of_ble_eq_true rfl) (Nat.le_of_ble_eq_true rfl) ?_
  refine mh_iret hB ⟨Nat.le_of_ble_eq_true rfl, Nat.le_of_ble_eq_true rfl⟩ hS dX11_append_37 ⟨?_, ?_⟩
  · rfl
  · exact hR

def rm_c_X11_clearText : Room := { frames := 0, cells := 0, slots := 0, locals := 0 }
set_option maxRecDepth 100000 in
set_option maxHeartbeats 400000 in
theorem c_X11_clearText (l : Launch) (g : GG) (H0 : Heap) (r : Nat) (zq : Nat → Int32) (zsp : Nat → Int32) (zrm : Nat → Int32) (zst : Int32) (zsl : Nat → Int32) (zsv : Nat → Int32) (ztx : Nat → Int32) (zth : Int32) (zsg : Nat → Int32) (zbg : Nat → Int32) (zwd : Nat → Int32) (zhg : Nat → Int32) (zin : Nat → Int32) (zop : Int32) (zbe : Int32) (zwi : Int32) (zhi : Int32) (zbk : Nat → Int32) (zot : Nat → Int32) (zer : Int32) (zen : Int32) (zpo : Nat → Int32) (zpi : Int32) (zgr : Int32) (zsh : Nat → Int32) (zsn : Int32) (n : Nat) (hR : ModAt g r zq zsp zrm zst zsl zsv ztx (nI n) zth zsg zbg zwd zhg zin zop zbe zwi zhi zbk zot zer zen zpo zpi zgr zsh zsn H0) : Ct l yX11_clearText cX11_clearText 2 (some .int) rm_c_X11_clearText g [.ref r] H0 (ftA (fun q => r ≤ q ∧ q < r + 16) H0.size) (fun v H1 => v = some (.int (nI n)) ∧ ModAt g r zq zsp zrm zst zsl zsv ztx (nI 0) (nI 0) zsg zbg zwd zhg zin zop zbe zwi zhi zbk zot zer zen zpo zpi zgr zsh zsn H1) := by
  refine Ct.of (by decide) (fun _ h => Or.inr h) (Nat.le_of_ble_eq_true rfl) ?_
  intro p e s m below meth c ls hB hin hS hH hl
  have hx := hB.x
  have hb := hB.b
  have hl : lv_has ls 2 [(0, .ref r)] := hl
  refine lv_aload_n hx hb dX11_clearText_0 rfl (lv_at hl 0 rfl) ?_
  refine lv_iconst (v := nI 0) hx hb dX11_clearText_1 (by decide) ?_
  refine pf_X11_56 hB hR.o (by first | exact Or.inl rfl | (simp only [ftA]; omega) | (simp [ftA]; omega)) hS rfl rfl (Nat.le_of_ble_eq_true rfl) dX11_clearText_2 (fun H locs hwr => ?_)
  obtain ⟨hR, hS⟩ := hR.w_zth hwr
  refine lv_aload_n hx hb dX11_clearText_5 rfl (lv_at hl 0 rfl) ?_
  refine gf_X11_84 hB hR.o rfl dX11_clearText_6 ?_
  refine lv_istore_n (lv' := [(1, .int (nI n)), (0, .ref r)]) hx hb dX11_clearText_9 rfl hl (by decide) rfl (fun ls hl => ?_)
  refine lv_aload_n hx hb dX11_clearText_10 rfl (lv_at hl 1 rfl) ?_
  refine lv_iconst (v := nI 0) hx hb dX11_clearText_11 (by decide) ?_
  refine pf_X11_84 hB hR.o (by first | exact Or.inl rfl | (simp only [ftA]; omega) | (simp [ftA]; omega)) hS rfl rfl (Nat.le_of_ble_eq_true rfl) dX11_clearText_12 (fun H locs hwr => ?_)
  obtain ⟨hR, hS⟩ := hR.w_zln hwr
  refine lv_iload_n hx hb dX11_clearText_15 rfl (lv_at hl 0 rfl) ?_
  refine mh_iret hB ⟨Nat.le_of_ble_eq_true rfl, Nat.le_of_ble_eq_true rfl⟩ hS dX11_clearText_16 ⟨?_, ?_⟩
  · rfl
  · exact hR

def rm_c_X11_about : Room := { frames := 2, cells := 0, slots := 0, locals := 42 }
set_option maxRecDepth 100000 in
set_option maxHeartbeats 400000 in
theorem c_X11_about (l : Launch) (g : GG) (H0 : Heap) (r : Nat) (zq : Nat → Int32) (zsp : Nat → Int32) (zrm : Nat → Int32) (zst : Int32) (zsl : Nat → Int32) (zsv : Nat → Int32) (ztx : Nat → Int32) (zln : Int32) (zth : Int32) (zsg : Nat → Int32) (zbg : Nat → Int32) (zwd : Nat → Int32) (zhg : Nat → Int32) (zin : Nat → Int32) (zop : Int32) (zbe : Int32) (zwi : Int32) (zhi : Int32) (zbk : Nat → Int32) (zot : Nat → Int32) (zer : Int32) (zen : Int32) (zpo : Nat → Int32) (zpi : Int32) (zgr : Int32) (zsh : Nat → Int32) (zsn : Int32) (w : Nat) (hR : ModAt g r zq zsp zrm zst zsl zsv ztx zln zth zsg zbg zwd zhg zin zop zbe zwi zhi zbk zot zer zen zpo zpi zgr zsh zsn H0) (hw : w < 9) (hW : WF zq) : Ct l yX11_about cX11_about 4 (some .int) rm_c_X11_about g [.ref r, .int (nI w)] H0 (ftA (fun q => r ≤ q ∧ q < r + 16) H0.size) (fun v H1 => v = some (.int (abV zq w)) ∧ ModAt g r zq zsp zrm zst zsl zsv ztx zln (nI 0) zsg zbg zwd zhg zin zop zbe zwi zhi zbk zot zer zen zpo zpi zgr zsh zsn H1) := by
  refine Ct.of (by decide) (fun _ h => Or.inr h) (Nat.le_of_ble_eq_true rfl) ?_
  intro p e s m below meth c ls hB hin hS hH hl
  have hx := hB.x
  have hb := hB.b
  have hl : lv_has ls 4 [(0, .ref r), (1, .int (nI w))] := hl
  refine lv_aload_n hx hb dX11_about_0 rfl (lv_at hl 0 rfl) ?_
  refine lv_iconst (v := nI 0) hx hb dX11_about_1 (by decide) ?_
  refine pf_X11_56 hB hR.o (by first | exact Or.inl rfl | (simp only [ftA]; omega) | (simp [ftA]; omega)) hS rfl rfl (Nat.le_of_ble_eq_true rfl) dX11_about_2 (fun H locs hwr => ?_)
  obtain ⟨hR, hS⟩ := hR.w_zth hwr
  refine lv_iconst (v := nI 0) hx hb dX11_about_5 (by decide) ?_
  refine lv_istore_n (lv' := [(2, .int (nI 0)), (0, .ref r), (1, .int (nI w))]) hx hb dX11_about_6 rfl hl (by decide) rfl (fun ls hl => ?_)
  refine lv_iconst (v := nI 0) hx hb dX11_about_7 (by decide) ?_
  refine lv_istore_n (lv' := [(3, .int (nI 0)), (2, .int (nI 0)), (0, .ref r), (1, .int (nI w))]) hx hb dX11_about_8 rfl hl (by decide) rfl (fun ls hl => ?_)
  refine mh_loop (σ := Nat) (fun xx9 H locs ls => match xx9 with | i => i ≤ 3 ∧ ModAt g r zq zsp zrm zst zsl zsv ztx zln (nI 0) zsg zbg zwd zhg zin zop zbe zwi zhi zbk zot zer zen zpo zpi zgr zsh zsn H ∧ va_S (ftA (fun q => r ≤ q ∧ q < r + 16) H0.size) H0 H locs ∧ lv_has ls 4 [(0, .ref r), (1, .int (nI w)), (2, .int (nI (cntR (fun j9 => decide (0 < szF zq j9)) 0 i))), (3, .int (nI i))]) (fun xx9 => match xx9 with | i => 3 - i) ?_ 0 ⟨(by omega), hR, hS, lv_sub hl [2, 3, 1, 0] rfl⟩
  rintro i H locs ls ⟨hi, hR, hS, hl⟩ ih
  have ih9 := ih
  refine lv_iload_n hx hb dX11_about_9 rfl (lv_at hl 3 rfl) ?_
  refine lv_iconst (v := nI 3) hx hb dX11_about_10 (by decide) ?_
  refine mn_icmp_ge (tgt := 36) hB dX11_about_11 (by decide) (by omega) (by omega) (fun h_11 => ?_) (fun h_11 => ?_)
  · skip
    have hin : i = 3 := by omega
    subst hin
    refine lv_iload_n hx hb dX11_about_36 rfl (lv_at hl 1 rfl) ?_
    rcases (show w = 0 ∨ w = 1 ∨ w = 2 ∨ w = 3 ∨ w = 4 ∨ w = 5 ∨ w = 6 ∨ w = 7 ∨ w = 8 by omega) with rfl | rfl | rfl | rfl | rfl | rfl | rfl | rfl | rfl
    · skip
      refine lv_tableIn (tgt := 88) (off := 51) hx hb dX11_about_37 (by decide) (by decide) (by decide) (by decide) ?_
      refine lv_aload_n hx hb dX11_about_88 rfl (lv_at hl 0 rfl) ?_
      refine gf_X11_7 hB hR.o rfl dX11_about_89 ?_
      refine lv_iconst (v := nI 0) hx hb dX11_about_92 (by decide) ?_
      refine mn_iald hB hR.a_zq (by omega) (by omega) dX11_about_93 ?_
      refine mh_iret hB ⟨Nat.le_of_ble_eq_true rfl, Nat.le_of_ble_eq_true rfl⟩ hS dX11_about_94 ⟨?_, ?_⟩
      · rfl
      · exact hR
    · skip
      refine lv_tableIn (tgt := 95) (off := 58) hx hb dX11_about_37 (by decide) (by decide) (by decide) (by decide) ?_
      refine lv_aload_n hx hb dX11_about_95 rfl (lv_at hl 0 rfl) ?_
      refine gf_X11_7 hB hR.o rfl dX11_about_96 ?_
      refine lv_iconst (v := nI 0) hx hb dX11_about_99 (by decide) ?_
      refine mn_iald hB hR.a_zq (by omega) (by omega) dX11_about_100 ?_
      refine mh_top (y := .int (nI (nmQ zq))) (by rw [hW.1]) ?_
      refine mn_if_ne (tgt := 109) hB dX11_about_101 (by decide) (by have := hW.2.2.1; omega) (fun h_101 => ?_) (fun h_101 => ?_)
      · skip
        refine lv_aload_n hx hb dX11_about_109 rfl (lv_at hl 0 rfl) ?_
        refine gf_X11_7 hB hR.o rfl dX11_about_110 ?_
        refine lv_iconst (v := nI 1) hx hb dX11_about_113 (by decide) ?_
        refine mn_iald hB hR.a_zq (by omega) (by omega) dX11_about_114 ?_
        refine mh_iret hB ⟨Nat.le_of_ble_eq_true rfl, Nat.le_of_ble_eq_true rfl⟩ hS dX11_about_115 ⟨?_, ?_⟩
        · have e1 : zq 0 = nI (nmQ zq) := hW.1
          first | (simp only [abV]; rw [if_pos (by omega)]; done) | (simp only [abV]; rw [if_neg (by omega)])
        · exact hR
      · skip
        refine lv_bipush (v := (-9)) hx hb dX11_about_104 (by decide) ?_
        refine lv_goto (tgt := 115) hx hb dX11_about_106 (by decide) ?_
        refine mh_iret hB ⟨Nat.le_of_ble_eq_true rfl, Nat.le_of_ble_eq_true rfl⟩ hS dX11_about_115 ⟨?_, ?_⟩
        · have e1 : zq 0 = nI (nmQ zq) := hW.1
          first | (simp only [abV]; rw [if_pos (by omega)]; done) | (simp only [abV]; rw [if_neg (by omega)])
        · exact hR
    · skip
      refine lv_tableIn (tgt := 116) (off := 79) hx hb dX11_about_37 (by decide) (by decide) (by decide) (by decide) ?_
      refine lv_iload_n hx hb dX11_about_116 rfl (lv_at hl 2 rfl) ?_
      refine mh_iret hB ⟨Nat.le_of_ble_eq_true rfl, Nat.le_of_ble_eq_true rfl⟩ hS dX11_about_117 ⟨?_, ?_⟩
      · rfl
      · exact hR
    · skip
      refine lv_tableIn (tgt := 118) (off := 81) hx hb dX11_about_37 (by decide) (by decide) (by decide) (by decide) ?_
      refine lv_aload_n hx hb dX11_about_118 rfl (lv_at hl 0 rfl) ?_
      refine gf_X11_7 hB hR.o rfl dX11_about_119 ?_
      refine lv_iconst (v := nI 2) hx hb dX11_about_122 (by decide) ?_
      refine mn_iald hB hR.a_zq (by omega) (by omega) dX11_about_123 ?_
      refine mh_iret hB ⟨Nat.le_of_ble_eq_true rfl, Nat.le_of_ble_eq_true rfl⟩ hS dX11_about_124 ⟨?_, ?_⟩
      · rfl
      · exact hR
    · skip
      refine lv_tableIn (tgt := 125) (off := 88) hx hb dX11_about_37 (by decide) (by decide) (by decide) (by decide) ?_
      refine lv_aload_n hx hb dX11_about_125 rfl (lv_at hl 0 rfl) ?_
      refine gf_X11_7 hB hR.o rfl dX11_about_126 ?_
      refine lv_iconst (v := nI 3) hx hb dX11_about_129 (by decide) ?_
      refine mn_iald hB hR.a_zq (by omega) (by omega) dX11_about_130 ?_
      refine mh_iret hB ⟨Nat.le_of_ble_eq_true rfl, Nat.le_of_ble_eq_true rfl⟩ hS dX11_about_131 ⟨?_, ?_⟩
      · rfl
      · exact hR
    · skip
      refine lv_tableIn (tgt := 132) (off := 95) hx hb dX11_about_37 (by decide) (by decide) (by decide) (by decide) ?_
      refine lv_aload_n hx hb dX11_about_132 rfl (lv_at hl 0 rfl) ?_
      refine gf_X11_7 hB hR.o rfl dX11_about_133 ?_
      refine lv_iconst (v := nI 4) hx hb dX11_about_136 (by decide) ?_
      refine mn_iald hB hR.a_zq (by omega) (by omega) dX11_about_137 ?_
      refine mh_iret hB ⟨Nat.le_of_ble_eq_true rfl, Nat.le_of_ble_eq_true rfl⟩ hS dX11_about_138 ⟨?_, ?_⟩
      · rfl
      · exact hR
    · skip
      refine lv_tableIn (tgt := 139) (off := 102) hx hb dX11_about_37 (by decide) (by decide) (by decide) (by decide) ?_
      refine lv_aload_n hx hb dX11_about_139 rfl (lv_at hl 0 rfl) ?_
      refine lv_bipush (v := nI 50) hx hb dX11_about_140 (by decide) ?_
      refine lv_bipush (v := nI 6) hx hb dX11_about_142 (by decide) ?_
      refine cl_X11_142 (As := [.int (nI 50), .int (nI 6)]) (rest := []) hB (c_X11_sum l g H r zq zsp zrm zst zsl zsv ztx zln (nI 0) zsg zbg zwd zhg zin zop zbe zwi zhi zbk zot zer zen zpo zpi zgr zsh zsn 50 6 hR (by omega)) hR.o rfl hl.1 (Nat.le_of_ble_eq_true rfl) dX11_about_144 ⟨Nat.le_of_ble_eq_true rfl, Nat.le_of_ble_eq_true rfl⟩ ⟨Nat.le_of_ble_eq_true rfl, Nat.le_of_ble_eq_true rfl⟩ hS (by have hz9 := hS.1; rintro q (h | h) <;> first | exact Or.inr (by omega) | exact h.elim | exact Or.inl h | (simp only [ftA] at h ⊢; omega)) (fun v H1 locs hpo hfr hS => ?_)
      obtain ⟨rfl, rfl⟩ := hpo
      refine W.widen (k := 0) (n := 0) (Nat.le_of_ble_eq_true rfl) (Nat.le_of_ble_eq_true rfl) ?_
      refine mh_iret hB ⟨Nat.le_of_ble_eq_true rfl, Nat.le_of_ble_eq_true rfl⟩ hS dX11_about_147 ⟨?_, ?_⟩
      · rfl
      · exact hR
    · skip
      refine lv_tableIn (tgt := 148) (off := 111) hx hb dX11_about_37 (by decide) (by decide) (by decide) (by decide) ?_
      refine lv_aload_n hx hb dX11_about_148 rfl (lv_at hl 0 rfl) ?_
      refine lv_bipush (v := nI 56) hx hb dX11_about_149 (by decide) ?_
      refine lv_bipush (v := nI 6) hx hb dX11_about_151 (by decide) ?_
      refine cl_X11_142 (As := [.int (nI 56), .int (nI 6)]) (rest := []) hB (c_X11_sum l g H r zq zsp zrm zst zsl zsv ztx zln (nI 0) zsg zbg zwd zhg zin zop zbe zwi zhi zbk zot zer zen zpo zpi zgr zsh zsn 56 6 hR (by omega)) hR.o rfl hl.1 (Nat.le_of_ble_eq_true rfl) dX11_about_153 ⟨Nat.le_of_ble_eq_true rfl, Nat.le_of_ble_eq_true rfl⟩ ⟨Nat.le_of_ble_eq_true rfl, Nat.le_of_ble_eq_true rfl⟩ hS (by have hz9 := hS.1; rintro q (h | h) <;> first | exact Or.inr (by omega) | exact h.elim | exact Or.inl h | (simp only [ftA] at h ⊢; omega)) (fun v H1 locs hpo hfr hS => ?_)
      obtain ⟨rfl, rfl⟩ := hpo
      refine W.widen (k := 0) (n := 0) (Nat.le_of_ble_eq_true rfl) (Nat.le_of_ble_eq_true rfl) ?_
      refine mh_iret hB ⟨Nat.le_of_ble_eq_true rfl, Nat.le_of_ble_eq_true rfl⟩ hS dX11_about_156 ⟨?_, ?_⟩
      · rfl
      · exact hR
    · skip
      refine lv_tableIn (tgt := 157) (off := 120) hx hb dX11_about_37 (by decide) (by decide) (by decide) (by decide) ?_
      refine lv_aload_n hx hb dX11_about_157 rfl (lv_at hl 0 rfl) ?_
      refine lv_bipush (v := nI 62) hx hb dX11_about_158 (by decide) ?_
      refine lv_bipush (v := nI 6) hx hb dX11_about_160 (by decide) ?_
      refine cl_X11_142 (As := [.int (nI 62), .int (nI 6)]) (rest := []) hB (c_X11_sum l g H r zq zsp zrm zst zsl zsv ztx zln (nI 0) zsg zbg zwd zhg zin zop zbe zwi zhi zbk zot zer zen zpo zpi zgr zsh zsn 62 6 hR (by omega)) hR.o rfl hl.1 (Nat.le_of_ble_eq_true rfl) dX11_about_162 ⟨Nat.le_of_ble_eq_true rfl, Nat.le_of_ble_eq_true rfl⟩ ⟨Nat.le_of_ble_eq_true rfl, Nat.le_of_ble_eq_true rfl⟩ hS (by have hz9 := hS.1; rintro q (h | h) <;> first | exact Or.inr (by omega) | exact h.elim | exact Or.inl h | (simp only [ftA] at h ⊢; omega)) (fun v H1 locs hpo hfr hS => ?_)
      obtain ⟨rfl, rfl⟩ := hpo
      refine W.widen (k := 0) (n := 0) (Nat.le_of_ble_eq_true rfl) (Nat.le_of_ble_eq_true rfl) ?_
      refine mh_iret hB ⟨Nat.le_of_ble_eq_true rfl, Nat.le_of_ble_eq_true rfl⟩ hS dX11_about_165 ⟨?_, ?_⟩
      · rfl
      · exact hR
  · skip
    refine lv_iload_n hx hb dX11_about_14 rfl (lv_at hl 2 rfl) ?_
    refine lv_aload_n hx hb dX11_about_15 rfl (lv_at hl 0 rfl) ?_
    refine lv_iload_n hx hb dX11_about_16 rfl (lv_at hl 3 rfl) ?_
    refine cl_X11_75 (As := [.int (nI i)]) (rest := [.int (nI (cntR (fun j9 => decide (0 < szF zq j9)) 0 i))]) hB (c_X11_patches l g H r zq zsp zrm zst zsl zsv ztx zln (nI 0) zsg zbg zwd zhg zin zop zbe zwi zhi zbk zot zer zen zpo zpi zgr zsh zsn i hR (by omega) (hW.2.2.2.2 i (by omega))) hR.o rfl hl.1 (Nat.le_of_ble_eq_true rfl) dX11_about_17 ⟨Nat.le_of_ble_eq_true rfl, Nat.le_of_ble_eq_true rfl⟩ ⟨Nat.le_of_ble_eq_true rfl, Nat.le_of_ble_eq_true rfl⟩ hS (by have hz9 := hS.1; rintro q (h | h) <;> first | exact Or.inr (by omega) | exact h.elim | exact Or.inl h | (simp only [ftA] at h ⊢; omega)) (fun v H1 locs hpo hfr hS => ?_)
    obtain ⟨rfl, rfl⟩ := hpo
    refine W.widen (k := 0) (n := 0) (Nat.le_of_ble_eq_true rfl) (Nat.le_of_ble_eq_true rfl) ?_
    refine mn_if_le (tgt := 27) hB dX11_about_20 (by decide) (by have := WF.sz (hW.2.2.2.2 i (by omega)); omega) (fun h_20 => ?_) (fun h_20 => ?_)
    · skip
      refine lv_iconst (v := nI 0) hx hb dX11_about_27 (by decide) ?_
      refine mn_iadd hB dX11_about_28 ?_
      refine mh_top (y := .int (nI (cntR (fun j9 => decide (0 < szF zq j9)) 0 (i + 1)))) (by simp [cntR, h_20]) ?_
      refine lv_istore_n (lv' := [(2, .int (nI (cntR (fun j9 => decide (0 < szF zq j9)) 0 (i + 1)))), (0, .ref r), (1, .int (nI w)), (3, .int (nI i))]) hx hb dX11_about_29 rfl hl (by decide) rfl (fun ls hl => ?_)
      refine lv_iinc (v := nI (i + 1)) (lv' := [(3, .int (nI (i + 1))), (2, .int (nI (cntR (fun j9 => decide (0 < szF zq j9)) 0 (i + 1)))), (0, .ref r), (1, .int (nI w))]) hx hb dX11_about_30 hl (k := 3) rfl (nI_1 _) (by decide) rfl (fun ls hl => ?_)
      refine lv_goto (tgt := 9) hx hb dX11_about_33 (by decide) ?_
      refine ih9 (i + 1) _ _ _ ⟨(by omega), hR, hS, lv_sub hl [2, 3, 1, 0] rfl⟩ (by dsimp only; omega)
    · skip
      refine lv_iconst (v := nI 1) hx hb dX11_about_23 (by decide) ?_
      refine lv_goto (tgt := 28) hx hb dX11_about_24 (by decide) ?_
      refine mn_iadd hB dX11_about_28 ?_
      refine mh_top (y := .int (nI (cntR (fun j9 => decide (0 < szF zq j9)) 0 (i + 1)))) (by simp [cntR, h_20]) ?_
      refine lv_istore_n (lv' := [(2, .int (nI (cntR (fun j9 => decide (0 < szF zq j9)) 0 (i + 1)))), (0, .ref r), (1, .int (nI w)), (3, .int (nI i))]) hx hb dX11_about_29 rfl hl (by decide) rfl (fun ls hl => ?_)
      refine lv_iinc (v := nI (i + 1)) (lv' := [(3, .int (nI (i + 1))), (2, .int (nI (cntR (fun j9 => decide (0 < szF zq j9)) 0 (i + 1)))), (0, .ref r), (1, .int (nI w))]) hx hb dX11_about_30 hl (k := 3) rfl (nI_1 _) (by decide) rfl (fun ls hl => ?_)
      refine lv_goto (tgt := 9) hx hb dX11_about_33 (by decide) ?_
      refine ih9 (i + 1) _ _ _ ⟨(by omega), hR, hS, lv_sub hl [2, 3, 1, 0] rfl⟩ (by dsimp only; omega)

def rm_c_X11_about_t1 : Room := { frames := 2, cells := 0, slots := 0, locals := 42 }
set_option maxRecDepth 100000 in
set_option maxHeartbeats 400000 in
theorem c_X11_about_t1 (l : Launch) (g : GG) (H0 : Heap) (r : Nat) (zq : Nat → Int32) (zsp : Nat → Int32) (zrm : Nat → Int32) (zst : Int32) (zsl : Nat → Int32) (zsv : Nat → Int32) (ztx : Nat → Int32) (zln : Int32) (zth : Int32) (zsg : Nat → Int32) (zbg : Nat → Int32) (zwd : Nat → Int32) (zhg : Nat → Int32) (zin : Nat → Int32) (zop : Int32) (zbe : Int32) (zwi : Int32) (zhi : Int32) (zbk : Nat → Int32) (zot : Nat → Int32) (zer : Int32) (zen : Int32) (zpo : Nat → Int32) (zpi : Int32) (zgr : Int32) (zsh : Nat → Int32) (zsn : Int32) (x : Int32) (hR : ModAt g r zq zsp zrm zst zsl zsv ztx zln zth zsg zbg zwd zhg zin zop zbe zwi zhi zbk zot zer zen zpo zpi zgr zsh zsn H0) (hx1 : isIx x 9 = false) (hW : WF zq) : Ct l yX11_about cX11_about 4 (some .int) rm_c_X11_about_t1 g [.ref r, .int x] H0 (ftA (fun q => r ≤ q ∧ q < r + 16) H0.size) (fun v H1 => v = some (.int (nI 0)) ∧ ModAt g r zq zsp zrm zst zsl zsv ztx zln (nI 1) zsg zbg zwd zhg zin zop zbe zwi zhi zbk zot zer zen zpo zpi zgr zsh zsn H1) := by
  refine Ct.of (by decide) (fun _ h => Or.inr h) (Nat.le_of_ble_eq_true rfl) ?_
  intro p e s m below meth c ls hB hin hS hH hl
  have hx := hB.x
  have hb := hB.b
  have hl : lv_has ls 4 [(0, .ref r), (1, .int x)] := hl
  refine lv_aload_n hx hb dX11_about_0 rfl (lv_at hl 0 rfl) ?_
  refine lv_iconst (v := nI 0) hx hb dX11_about_1 (by decide) ?_
  refine pf_X11_56 hB hR.o (by first | exact Or.inl rfl | (simp only [ftA]; omega) | (simp [ftA]; omega)) hS rfl rfl (Nat.le_of_ble_eq_true rfl) dX11_about_2 (fun H locs hwr => ?_)
  obtain ⟨hR, hS⟩ := hR.w_zth hwr
  refine lv_iconst (v := nI 0) hx hb dX11_about_5 (by decide) ?_
  refine lv_istore_n (lv' := [(2, .int (nI 0)), (0, .ref r), (1, .int x)]) hx hb dX11_about_6 rfl hl (by decide) rfl (fun ls hl => ?_)
  refine lv_iconst (v := nI 0) hx hb dX11_about_7 (by decide) ?_
  refine lv_istore_n (lv' := [(3, .int (nI 0)), (2, .int (nI 0)), (0, .ref r), (1, .int x)]) hx hb dX11_about_8 rfl hl (by decide) rfl (fun ls hl => ?_)
  refine mh_loop (σ := Nat) (fun xx9 H locs ls => match xx9 with | i => i ≤ 3 ∧ ModAt g r zq zsp zrm zst zsl zsv ztx zln (nI 0) zsg zbg zwd zhg zin zop zbe zwi zhi zbk zot zer zen zpo zpi zgr zsh zsn H ∧ va_S (ftA (fun q => r ≤ q ∧ q < r + 16) H0.size) H0 H locs ∧ lv_has ls 4 [(0, .ref r), (1, .int x), (2, .int (nI (cntR (fun j9 => decide (0 < szF zq j9)) 0 i))), (3, .int (nI i))]) (fun xx9 => match xx9 with | i => 3 - i) ?_ 0 ⟨(by omega), hR, hS, lv_sub hl [2, 3, 1, 0] rfl⟩
  rintro i H locs ls ⟨hi, hR, hS, hl⟩ ih
  have ih9 := ih
  refine lv_iload_n hx hb dX11_about_9 rfl (lv_at hl 3 rfl) ?_
  refine lv_iconst (v := nI 3) hx hb dX11_about_10 (by decide) ?_
  refine mn_icmp_ge (tgt := 36) hB dX11_about_11 (by decide) (by omega) (by omega) (fun h_11 => ?_) (fun h_11 => ?_)
  · skip
    have hin : i = 3 := by omega
    subst hin
    refine lv_iload_n hx hb dX11_about_36 rfl (lv_at hl 1 rfl) ?_
    refine lv_tableOut (tgt := 166) hx hb dX11_about_37 (by have := isIx_f hx1; omega) (by decide) ?_
    refine lv_aload_n hx hb dX11_about_166 rfl (lv_at hl 0 rfl) ?_
    refine lv_iconst (v := nI 1) hx hb dX11_about_167 (by decide) ?_
    refine cl_X11_81 (As := [.int (nI 1)]) (rest := []) hB (c_X11_fails l g H r zq zsp zrm zst zsl zsv ztx zln (nI 0) zsg zbg zwd zhg zin zop zbe zwi zhi zbk zot zer zen zpo zpi zgr zsh zsn (nI 1) hR) hR.o rfl hl.1 (Nat.le_of_ble_eq_true rfl) dX11_about_168 ⟨Nat.le_of_ble_eq_true rfl, Nat.le_of_ble_eq_true rfl⟩ ⟨Nat.le_of_ble_eq_true rfl, Nat.le_of_ble_eq_true rfl⟩ hS (by have hz9 := hS.1; rintro q (h | h) <;> first | exact Or.inr (by omega) | exact h.elim | exact Or.inl h | (simp only [ftA] at h ⊢; omega)) (fun v H1 locs hpo hfr hS => ?_)
    obtain ⟨rfl, hR⟩ := hpo
    generalize H1 = H at hfr hS hR ⊢
    refine W.widen (k := 0) (n := 0) (Nat.le_of_ble_eq_true rfl) (Nat.le_of_ble_eq_true rfl) ?_
    refine mh_iret hB ⟨Nat.le_of_ble_eq_true rfl, Nat.le_of_ble_eq_true rfl⟩ hS dX11_about_171 ⟨?_, ?_⟩
    · rfl
    · exact hR
  · skip
    refine lv_iload_n hx hb dX11_about_14 rfl (lv_at hl 2 rfl) ?_
    refine lv_aload_n hx hb dX11_about_15 rfl (lv_at hl 0 rfl) ?_
    refine lv_iload_n hx hb dX11_about_16 rfl (lv_at hl 3 rfl) ?_
    refine cl_X11_75 (As := [.int (nI i)]) (rest := [.int (nI (cntR (fun j9 => decide (0 < szF zq j9)) 0 i))]) hB (c_X11_patches l g H r zq zsp zrm zst zsl zsv ztx zln (nI 0) zsg zbg zwd zhg zin zop zbe zwi zhi zbk zot zer zen zpo zpi zgr zsh zsn i hR (by omega) (hW.2.2.2.2 i (by omega))) hR.o rfl hl.1 (Nat.le_of_ble_eq_true rfl) dX11_about_17 ⟨Nat.le_of_ble_eq_true rfl, Nat.le_of_ble_eq_true rfl⟩ ⟨Nat.le_of_ble_eq_true rfl, Nat.le_of_ble_eq_true rfl⟩ hS (by have hz9 := hS.1; rintro q (h | h) <;> first | exact Or.inr (by omega) | exact h.elim | exact Or.inl h | (simp only [ftA] at h ⊢; omega)) (fun v H1 locs hpo hfr hS => ?_)
    obtain ⟨rfl, rfl⟩ := hpo
    refine W.widen (k := 0) (n := 0) (Nat.le_of_ble_eq_true rfl) (Nat.le_of_ble_eq_true rfl) ?_
    refine mn_if_le (tgt := 27) hB dX11_about_20 (by decide) (by have := WF.sz (hW.2.2.2.2 i (by omega)); omega) (fun h_20 => ?_) (fun h_20 => ?_)
    · skip
      refine lv_iconst (v := nI 0) hx hb dX11_about_27 (by decide) ?_
      refine mn_iadd hB dX11_about_28 ?_
      refine mh_top (y := .int (nI (cntR (fun j9 => decide (0 < szF zq j9)) 0 (i + 1)))) (by simp [cntR, h_20]) ?_
      refine lv_istore_n (lv' := [(2, .int (nI (cntR (fun j9 => decide (0 < szF zq j9)) 0 (i + 1)))), (0, .ref r), (1, .int x), (3, .int (nI i))]) hx hb dX11_about_29 rfl hl (by decide) rfl (fun ls hl => ?_)
      refine lv_iinc (v := nI (i + 1)) (lv' := [(3, .int (nI (i + 1))), (2, .int (nI (cntR (fun j9 => decide (0 < szF zq j9)) 0 (i + 1)))), (0, .ref r), (1, .int x)]) hx hb dX11_about_30 hl (k := 3) rfl (nI_1 _) (by decide) rfl (fun ls hl => ?_)
      refine lv_goto (tgt := 9) hx hb dX11_about_33 (by decide) ?_
      refine ih9 (i + 1) _ _ _ ⟨(by omega), hR, hS, lv_sub hl [2, 3, 1, 0] rfl⟩ (by dsimp only; omega)
    · skip
      refine lv_iconst (v := nI 1) hx hb dX11_about_23 (by decide) ?_
      refine lv_goto (tgt := 28) hx hb dX11_about_24 (by decide) ?_
      refine mn_iadd hB dX11_about_28 ?_
      refine mh_top (y := .int (nI (cntR (fun j9 => decide (0 < szF zq j9)) 0 (i + 1)))) (by simp [cntR, h_20]) ?_
      refine lv_istore_n (lv' := [(2, .int (nI (cntR (fun j9 => decide (0 < szF zq j9)) 0 (i + 1)))), (0, .ref r), (1, .int x), (3, .int (nI i))]) hx hb dX11_about_29 rfl hl (by decide) rfl (fun ls hl => ?_)
      refine lv_iinc (v := nI (i + 1)) (lv' := [(3, .int (nI (i + 1))), (2, .int (nI (cntR (fun j9 => decide (0 < szF zq j9)) 0 (i + 1)))), (0, .ref r), (1, .int x)]) hx hb dX11_about_30 hl (k := 3) rfl (nI_1 _) (by decide) rfl (fun ls hl => ?_)
      refine lv_goto (tgt := 9) hx hb dX11_about_33 (by decide) ?_
      refine ih9 (i + 1) _ _ _ ⟨(by omega), hR, hS, lv_sub hl [2, 3, 1, 0] rfl⟩ (by dsimp only; omega)

def rm_c_X11_member : Room := { frames := 2, cells := 0, slots := 0, locals := 46 }
set_option maxRecDepth 100000 in
set_option maxHeartbeats 400000 in
theorem c_X11_member (l : Launch) (g : GG) (H0 : Heap) (r : Nat) (zq : Nat → Int32) (zsp : Nat → Int32) (zrm : Nat → Int32) (zst : Int32) (zsl : Nat → Int32) (zsv : Nat → Int32) (ztx : Nat → Int32) (zln : Int32) (zth : Int32) (zsg : Nat → Int32) (zbg : Nat → Int32) (zwd : Nat → Int32) (zhg : Nat → Int32) (zin : Nat → Int32) (zop : Int32) (zbe : Int32) (zwi : Int32) (zhi : Int32) (zbk : Nat → Int32) (zot : Nat → Int32) (zer : Int32) (zen : Int32) (zpo : Nat → Int32) (zpi : Int32) (zgr : Int32) (zsh : Nat → Int32) (zsn : Int32) (k : Nat) (w : Nat) (hR : ModAt g r zq zsp zrm zst zsl zsv ztx zln zth zsg zbg zwd zhg zin zop zbe zwi zhi zbk zot zer zen zpo zpi zgr zsh zsn H0) (hk : k < nmQ zq) (hw : w < 4) (hW : WF zq) : Ct l yX11_member cX11_member 3 (some .int) rm_c_X11_member g [.ref r, .int (nI k), .int (nI w)] H0 (ftA (fun q => r ≤ q ∧ q < r + 16) H0.size) (fun v H1 => v = some (.int (meV zq k w)) ∧ ModAt g r zq zsp zrm zst zsl zsv ztx zln (nI 0) zsg zbg zwd zhg zin zop zbe zwi zhi zbk zot zer zen zpo zpi zgr zsh zsn H1) := by
  refine Ct.of (by decide) (fun _ h => Or.inr h) (Nat.le_of_ble_eq_true rfl) ?_
  intro p e s m below meth c ls hB hin hS hH hl
  have hx := hB.x
  have hb := hB.b
  have hl : lv_has ls 3 [(0, .ref r), (1, .int (nI k)), (2, .int (nI w))] := hl
  have hnm := hW.2.2.1
  refine lv_aload_n hx hb dX11_member_0 rfl (lv_at hl 0 rfl) ?_
  refine lv_iconst (v := nI 0) hx hb dX11_member_1 (by decide) ?_
  refine pf_X11_56 hB hR.o (by first | exact Or.inl rfl | (simp only [ftA]; omega) | (simp [ftA]; omega)) hS rfl rfl (Nat.le_of_ble_eq_true rfl) dX11_member_2 (fun H locs hwr => ?_)
  obtain ⟨hR, hS⟩ := hR.w_zth hwr
  refine lv_aload_n hx hb dX11_member_5 rfl (lv_at hl 0 rfl) ?_
  refine lv_iload_n hx hb dX11_member_6 rfl (lv_at hl 1 rfl) ?_
  refine cl_X11_145 (As := [.int (nI k)]) (rest := []) hB (c_X11_isMember l g H r zq zsp zrm zst zsl zsv ztx zln (nI 0) zsg zbg zwd zhg zin zop zbe zwi zhi zbk zot zer zen zpo zpi zgr zsh zsn (nI k) hR (by omega)) hR.o rfl hl.1 (Nat.le_of_ble_eq_true rfl) dX11_member_7 ⟨Nat.le_of_ble_eq_true rfl, Nat.le_of_ble_eq_true rfl⟩ ⟨Nat.le_of_ble_eq_true rfl, Nat.le_of_ble_eq_true rfl⟩ hS (by have hz9 := hS.1; rintro q (h | h) <;> first | exact Or.inr (by omega) | exact h.elim | exact Or.inl h | (simp only [ftA] at h ⊢; omega)) (fun v H1 locs hpo hfr hS => ?_)
  obtain ⟨rfl, rfl⟩ := hpo
  refine W.widen (k := 0) (n := 0) (Nat.le_of_ble_eq_true rfl) (Nat.le_of_ble_eq_true rfl) ?_
  refine mb_if_ne (tgt := 19) hB dX11_member_10 (by decide) (fun h_10 => ?_) (fun h => by rw [isIx_of hk (by have := hW.2.2.1; omega)] at h; cases h)
  refine lv_iload_n hx hb dX11_member_19 rfl (lv_at hl 2 rfl) ?_
  refine lv_i2l (v := (nI w).toInt64) hx hb dX11_member_20 rfl ?_
  refine lv_lconst (v := 0) hx hb dX11_member_21 (by decide) ?_
  refine lv_ldc2 (v := (3)) hx hb hB.ow (hB.K.2 _ kw_1135 _) dX11_member_22 ?_
  refine cl_X11_63 (As := [.long ((nI w).toInt64), .long 0, .long (3)]) (rest := []) hB (c_X11_in l g H ((nI w).toInt64) 0 (3)) rfl hl.1 (Nat.le_of_ble_eq_true rfl) dX11_member_25 ⟨Nat.le_of_ble_eq_true rfl, Nat.le_of_ble_eq_true rfl⟩ ⟨Nat.le_of_ble_eq_true rfl, Nat.le_of_ble_eq_true rfl⟩ hS (by have hz9 := hS.1; rintro q (h | h) <;> first | exact Or.inr (by omega) | exact h.elim | exact Or.inl h | (simp only [ftA] at h ⊢; omega)) (fun v H1 locs hpo hfr hS => ?_)
  obtain ⟨rfl, rfl⟩ := hpo
  refine W.widen (k := 0) (n := 0) (Nat.le_of_ble_eq_true rfl) (Nat.le_of_ble_eq_true rfl) ?_
  refine mh_top (y := .int (bI (isIx (nI w) 4))) (by rw [inL_ix _ 4 _ (by decide)]) ?_
  refine mb_if_ne (tgt := 37) hB dX11_member_28 (by decide) (fun h_28 => ?_) (fun h => by rw [isIx_of hw (by omega)] at h; cases h)
  refine lv_iload_n hx hb dX11_member_37 rfl (lv_at hl 2 rfl) ?_
  refine mn_if_ne (tgt := 52) hB dX11_member_38 (by decide) (by omega) (fun h_38 => ?_) (fun h_38 => ?_)
  · skip
    refine lv_iload_n hx hb dX11_member_52 rfl (lv_at hl 2 rfl) ?_
    refine lv_iconst (v := nI 1) hx hb dX11_member_53 (by decide) ?_
    refine mn_icmp_ne (tgt := 69) hB dX11_member_54 (by decide) (by omega) (by omega) (fun h_54 => ?_) (fun h_54 => ?_)
    · skip
      refine lv_iload_n hx hb dX11_member_69 rfl (lv_at hl 2 rfl) ?_
      refine lv_iconst (v := nI 2) hx hb dX11_member_70 (by decide) ?_
      refine mn_icmp_ne (tgt := 90) hB dX11_member_71 (by decide) (by omega) (by omega) (fun h_71 => ?_) (fun h_71 => ?_)
      · skip
        refine lv_aload_n hx hb dX11_member_90 rfl (lv_at hl 0 rfl) ?_
        refine gf_X11_7 hB hR.o rfl dX11_member_91 ?_
        refine lv_bipush (v := nI 45) hx hb dX11_member_94 (by decide) ?_
        refine lv_iload_n hx hb dX11_member_96 rfl (lv_at hl 1 rfl) ?_
        refine mn_iadd hB dX11_member_97 ?_
        refine mn_iald hB hR.a_zq (by omega) (by omega) dX11_member_98 ?_
        refine mh_iret hB ⟨Nat.le_of_ble_eq_true rfl, Nat.le_of_ble_eq_true rfl⟩ hS dX11_member_99 ⟨?_, ?_⟩
        · rcases (show w = 0 ∨ w = 1 ∨ w = 2 ∨ w = 3 by omega) with rfl | rfl | rfl | rfl <;> first | rfl | (exfalso; omega)
        · exact hR
      · skip
        refine lv_aload_n hx hb dX11_member_74 rfl (lv_at hl 0 rfl) ?_
        refine lv_bipush (v := nI 15) hx hb dX11_member_75 (by decide) ?_
        refine lv_bipush (v := nI 6) hx hb dX11_member_77 (by decide) ?_
        refine lv_iload_n hx hb dX11_member_79 rfl (lv_at hl 1 rfl) ?_
        refine mn_imul hB dX11_member_80 ?_
        refine mn_iadd hB dX11_member_81 ?_
        refine lv_bipush (v := nI 6) hx hb dX11_member_82 (by decide) ?_
        refine cl_X11_142 (As := [.int (nI (15 + (6 * k))), .int (nI 6)]) (rest := []) hB (c_X11_sum l g H r zq zsp zrm zst zsl zsv ztx zln (nI 0) zsg zbg zwd zhg zin zop zbe zwi zhi zbk zot zer zen zpo zpi zgr zsh zsn (15 + (6 * k)) 6 hR (by omega)) hR.o rfl hl.1 (Nat.le_of_ble_eq_true rfl) dX11_member_84 ⟨Nat.le_of_ble_eq_true rfl, Nat.le_of_ble_eq_true rfl⟩ ⟨Nat.le_of_ble_eq_true rfl, Nat.le_of_ble_eq_true rfl⟩ hS (by have hz9 := hS.1; rintro q (h | h) <;> first | exact Or.inr (by omega) | exact h.elim | exact Or.inl h | (simp only [ftA] at h ⊢; omega)) (fun v H1 locs hpo hfr hS => ?_)
        obtain ⟨rfl, rfl⟩ := hpo
        refine W.widen (k := 0) (n := 0) (Nat.le_of_ble_eq_true rfl) (Nat.le_of_ble_eq_true rfl) ?_
        refine lv_goto (tgt := 99) hx hb dX11_member_87 (by decide) ?_
        refine mh_iret hB ⟨Nat.le_of_ble_eq_true rfl, Nat.le_of_ble_eq_true rfl⟩ hS dX11_member_99 ⟨?_, ?_⟩
        · rcases (show w = 0 ∨ w = 1 ∨ w = 2 ∨ w = 3 by omega) with rfl | rfl | rfl | rfl <;> first | rfl | (exfalso; omega)
        · exact hR
    · skip
      refine lv_aload_n hx hb dX11_member_57 rfl (lv_at hl 0 rfl) ?_
      refine gf_X11_7 hB hR.o rfl dX11_member_58 ?_
      refine lv_bipush (v := nI 10) hx hb dX11_member_61 (by decide) ?_
      refine lv_iload_n hx hb dX11_member_63 rfl (lv_at hl 1 rfl) ?_
      refine mn_iadd hB dX11_member_64 ?_
      refine mn_iald hB hR.a_zq (by omega) (by omega) dX11_member_65 ?_
      refine lv_goto (tgt := 99) hx hb dX11_member_66 (by decide) ?_
      refine mh_iret hB ⟨Nat.le_of_ble_eq_true rfl, Nat.le_of_ble_eq_true rfl⟩ hS dX11_member_99 ⟨?_, ?_⟩
      · rcases (show w = 0 ∨ w = 1 ∨ w = 2 ∨ w = 3 by omega) with rfl | rfl | rfl | rfl <;> first | rfl | (exfalso; omega)
      · exact hR
  · skip
    refine lv_aload_n hx hb dX11_member_41 rfl (lv_at hl 0 rfl) ?_
    refine gf_X11_7 hB hR.o rfl dX11_member_42 ?_
    refine lv_iconst (v := nI 5) hx hb dX11_member_45 (by decide) ?_
    refine lv_iload_n hx hb dX11_member_46 rfl (lv_at hl 1 rfl) ?_
    refine mn_iadd hB dX11_member_47 ?_
    refine mn_iald hB hR.a_zq (by omega) (by omega) dX11_member_48 ?_
    refine lv_goto (tgt := 99) hx hb dX11_member_49 (by decide) ?_
    refine mh_iret hB ⟨Nat.le_of_ble_eq_true rfl, Nat.le_of_ble_eq_true rfl⟩ hS dX11_member_99 ⟨?_, ?_⟩
    · rcases (show w = 0 ∨ w = 1 ∨ w = 2 ∨ w = 3 by omega) with rfl | rfl | rfl | rfl <;> first | rfl | (exfalso; omega)
    · exact hR

def rm_c_X11_member_t1 : Room := { frames := 2, cells := 0, slots := 0, locals := 46 }
set_option maxRecDepth 100000 in
set_option maxHeartbeats 400000 in
theorem c_X11_member_t1 (l : Launch) (g : GG) (H0 : Heap) (r : Nat) (zq : Nat → Int32) (zsp : Nat → Int32) (zrm : Nat → Int32) (zst : Int32) (zsl : Nat → Int32) (zsv : Nat → Int32) (ztx : Nat → Int32) (zln : Int32) (zth : Int32) (zsg : Nat → Int32) (zbg : Nat → Int32) (zwd : Nat → Int32) (zhg : Nat → Int32) (zin : Nat → Int32) (zop : Int32) (zbe : Int32) (zwi : Int32) (zhi : Int32) (zbk : Nat → Int32) (zot : Nat → Int32) (zer : Int32) (zen : Int32) (zpo : Nat → Int32) (zpi : Int32) (zgr : Int32) (zsh : Nat → Int32) (zsn : Int32) (x : Int32) (y : Int32) (hR : ModAt g r zq zsp zrm zst zsl zsv ztx zln zth zsg zbg zwd zhg zin zop zbe zwi zhi zbk zot zer zen zpo zpi zgr zsh zsn H0) (hx1 : isIx x (nmQ zq) = false) (hW : WF zq) : Ct l yX11_member cX11_member 3 (some .int) rm_c_X11_member_t1 g [.ref r, .int x, .int y] H0 (ftA (fun q => r ≤ q ∧ q < r + 16) H0.size) (fun v H1 => v = some (.int (nI 0)) ∧ ModAt g r zq zsp zrm zst zsl zsv ztx zln (nI 1) zsg zbg zwd zhg zin zop zbe zwi zhi zbk zot zer zen zpo zpi zgr zsh zsn H1) := by
  refine Ct.of (by decide) (fun _ h => Or.inr h) (Nat.le_of_ble_eq_true rfl) ?_
  intro p e s m below meth c ls hB hin hS hH hl
  have hx := hB.x
  have hb := hB.b
  have hl : lv_has ls 3 [(0, .ref r), (1, .int x), (2, .int y)] := hl
  refine lv_aload_n hx hb dX11_member_0 rfl (lv_at hl 0 rfl) ?_
  refine lv_iconst (v := nI 0) hx hb dX11_member_1 (by decide) ?_
  refine pf_X11_56 hB hR.o (by first | exact Or.inl rfl | (simp only [ftA]; omega) | (simp [ftA]; omega)) hS rfl rfl (Nat.le_of_ble_eq_true rfl) dX11_member_2 (fun H locs hwr => ?_)
  obtain ⟨hR, hS⟩ := hR.w_zth hwr
  refine lv_aload_n hx hb dX11_member_5 rfl (lv_at hl 0 rfl) ?_
  refine lv_iload_n hx hb dX11_member_6 rfl (lv_at hl 1 rfl) ?_
  refine cl_X11_145 (As := [.int x]) (rest := []) hB (c_X11_isMember l g H r zq zsp zrm zst zsl zsv ztx zln (nI 0) zsg zbg zwd zhg zin zop zbe zwi zhi zbk zot zer zen zpo zpi zgr zsh zsn x hR (by omega)) hR.o rfl hl.1 (Nat.le_of_ble_eq_true rfl) dX11_member_7 ⟨Nat.le_of_ble_eq_true rfl, Nat.le_of_ble_eq_true rfl⟩ ⟨Nat.le_of_ble_eq_true rfl, Nat.le_of_ble_eq_true rfl⟩ hS (by have hz9 := hS.1; rintro q (h | h) <;> first | exact Or.inr (by omega) | exact h.elim | exact Or.inl h | (simp only [ftA] at h ⊢; omega)) (fun v H1 locs hpo hfr hS => ?_)
  obtain ⟨rfl, rfl⟩ := hpo
  refine W.widen (k := 0) (n := 0) (Nat.le_of_ble_eq_true rfl) (Nat.le_of_ble_eq_true rfl) ?_
  refine mb_if_ne (tgt := 19) hB dX11_member_10 (by decide) (fun h => by rw [hx1] at h; cases h) (fun h_10 => ?_)
  refine lv_aload_n hx hb dX11_member_13 rfl (lv_at hl 0 rfl) ?_
  refine lv_iconst (v := nI 1) hx hb dX11_member_14 (by decide) ?_
  refine cl_X11_81 (As := [.int (nI 1)]) (rest := []) hB (c_X11_fails l g H r zq zsp zrm zst zsl zsv ztx zln (nI 0) zsg zbg zwd zhg zin zop zbe zwi zhi zbk zot zer zen zpo zpi zgr zsh zsn (nI 1) hR) hR.o rfl hl.1 (Nat.le_of_ble_eq_true rfl) dX11_member_15 ⟨Nat.le_of_ble_eq_true rfl, Nat.le_of_ble_eq_true rfl⟩ ⟨Nat.le_of_ble_eq_true rfl, Nat.le_of_ble_eq_true rfl⟩ hS (by have hz9 := hS.1; rintro q (h | h) <;> first | exact Or.inr (by omega) | exact h.elim | exact Or.inl h | (simp only [ftA] at h ⊢; omega)) (fun v H1 locs hpo hfr hS => ?_)
  obtain ⟨rfl, hR⟩ := hpo
  generalize H1 = H at hfr hS hR ⊢
  refine W.widen (k := 0) (n := 0) (Nat.le_of_ble_eq_true rfl) (Nat.le_of_ble_eq_true rfl) ?_
  refine mh_iret hB ⟨Nat.le_of_ble_eq_true rfl, Nat.le_of_ble_eq_true rfl⟩ hS dX11_member_18 ⟨?_, ?_⟩
  · rfl
  · exact hR

def rm_c_X11_member_t2 : Room := { frames := 2, cells := 0, slots := 0, locals := 46 }
set_option maxRecDepth 100000 in
set_option maxHeartbeats 400000 in
theorem c_X11_member_t2 (l : Launch) (g : GG) (H0 : Heap) (r : Nat) (zq : Nat → Int32) (zsp : Nat → Int32) (zrm : Nat → Int32) (zst : Int32) (zsl : Nat → Int32) (zsv : Nat → Int32) (ztx : Nat → Int32) (zln : Int32) (zth : Int32) (zsg : Nat → Int32) (zbg : Nat → Int32) (zwd : Nat → Int32) (zhg : Nat → Int32) (zin : Nat → Int32) (zop : Int32) (zbe : Int32) (zwi : Int32) (zhi : Int32) (zbk : Nat → Int32) (zot : Nat → Int32) (zer : Int32) (zen : Int32) (zpo : Nat → Int32) (zpi : Int32) (zgr : Int32) (zsh : Nat → Int32) (zsn : Int32) (k : Nat) (y : Int32) (hR : ModAt g r zq zsp zrm zst zsl zsv ztx zln zth zsg zbg zwd zhg zin zop zbe zwi zhi zbk zot zer zen zpo zpi zgr zsh zsn H0) (hk : k < nmQ zq) (hx1 : isIx y 4 = false) (hW : WF zq) : Ct l yX11_member cX11_member 3 (some .int) rm_c_X11_member_t2 g [.ref r, .int (nI k), .int y] H0 (ftA (fun q => r ≤ q ∧ q < r + 16) H0.size) (fun v H1 => v = some (.int (nI 0)) ∧ ModAt g r zq zsp zrm zst zsl zsv ztx zln (nI 2) zsg zbg zwd zhg zin zop zbe zwi zhi zbk zot zer zen zpo zpi zgr zsh zsn H1) := by
  refine Ct.of (by decide) (fun _ h => Or.inr h) (Nat.le_of_ble_eq_true rfl) ?_
  intro p e s m below meth c ls hB hin hS hH hl
  have hx := hB.x
  have hb := hB.b
  have hl : lv_has ls 3 [(0, .ref r), (1, .int (nI k)), (2, .int y)] := hl
  have hnm := hW.2.2.1
  refine lv_aload_n hx hb dX11_member_0 rfl (lv_at hl 0 rfl) ?_
  refine lv_iconst (v := nI 0) hx hb dX11_member_1 (by decide) ?_
  refine pf_X11_56 hB hR.o (by first | exact Or.inl rfl | (simp only [ftA]; omega) | (simp [ftA]; omega)) hS rfl rfl (Nat.le_of_ble_eq_true rfl) dX11_member_2 (fun H locs hwr => ?_)
  obtain ⟨hR, hS⟩ := hR.w_zth hwr
  refine lv_aload_n hx hb dX11_member_5 rfl (lv_at hl 0 rfl) ?_
  refine lv_iload_n hx hb dX11_member_6 rfl (lv_at hl 1 rfl) ?_
  refine cl_X11_145 (As := [.int (nI k)]) (rest := []) hB (c_X11_isMember l g H r zq zsp zrm zst zsl zsv ztx zln (nI 0) zsg zbg zwd zhg zin zop zbe zwi zhi zbk zot zer zen zpo zpi zgr zsh zsn (nI k) hR (by omega)) hR.o rfl hl.1 (Nat.le_of_ble_eq_true rfl) dX11_member_7 ⟨Nat.le_of_ble_eq_true rfl, Nat.le_of_ble_eq_true rfl⟩ ⟨Nat.le_of_ble_eq_true rfl, Nat.le_of_ble_eq_true rfl⟩ hS (by have hz9 := hS.1; rintro q (h | h) <;> first | exact Or.inr (by omega) | exact h.elim | exact Or.inl h | (simp only [ftA] at h ⊢; omega)) (fun v H1 locs hpo hfr hS => ?_)
  obtain ⟨rfl, rfl⟩ := hpo
  refine W.widen (k := 0) (n := 0) (Nat.le_of_ble_eq_true rfl) (Nat.le_of_ble_eq_true rfl) ?_
  refine mb_if_ne (tgt := 19) hB dX11_member_10 (by decide) (fun h_10 => ?_) (fun h => by rw [isIx_of hk (by have := hW.2.2.1; omega)] at h; cases h)
  refine lv_iload_n hx hb dX11_member_19 rfl (lv_at hl 2 rfl) ?_
  refine lv_i2l (v := (y).toInt64) hx hb dX11_member_20 rfl ?_
  refine lv_lconst (v := 0) hx hb dX11_member_21 (by decide) ?_
  refine lv_ldc2 (v := (3)) hx hb hB.ow (hB.K.2 _ kw_1135 _) dX11_member_22 ?_
  refine cl_X11_63 (As := [.long ((y).toInt64), .long 0, .long (3)]) (rest := []) hB (c_X11_in l g H ((y).toInt64) 0 (3)) rfl hl.1 (Nat.le_of_ble_eq_true rfl) dX11_member_25 ⟨Nat.le_of_ble_eq_true rfl, Nat.le_of_ble_eq_true rfl⟩ ⟨Nat.le_of_ble_eq_true rfl, Nat.le_of_ble_eq_true rfl⟩ hS (by have hz9 := hS.1; rintro q (h | h) <;> first | exact Or.inr (by omega) | exact h.elim | exact Or.inl h | (simp only [ftA] at h ⊢; omega)) (fun v H1 locs hpo hfr hS => ?_)
  obtain ⟨rfl, rfl⟩ := hpo
  refine W.widen (k := 0) (n := 0) (Nat.le_of_ble_eq_true rfl) (Nat.le_of_ble_eq_true rfl) ?_
  refine mh_top (y := .int (bI (isIx y 4))) (by rw [inL_ix _ 4 _ (by decide)]) ?_
  refine mb_if_ne (tgt := 37) hB dX11_member_28 (by decide) (fun h => by rw [hx1] at h; cases h) (fun h_28 => ?_)
  refine lv_aload_n hx hb dX11_member_31 rfl (lv_at hl 0 rfl) ?_
  refine lv_iconst (v := nI 2) hx hb dX11_member_32 (by decide) ?_
  refine cl_X11_81 (As := [.int (nI 2)]) (rest := []) hB (c_X11_fails l g H r zq zsp zrm zst zsl zsv ztx zln (nI 0) zsg zbg zwd zhg zin zop zbe zwi zhi zbk zot zer zen zpo zpi zgr zsh zsn (nI 2) hR) hR.o rfl hl.1 (Nat.le_of_ble_eq_true rfl) dX11_member_33 ⟨Nat.le_of_ble_eq_true rfl, Nat.le_of_ble_eq_true rfl⟩ ⟨Nat.le_of_ble_eq_true rfl, Nat.le_of_ble_eq_true rfl⟩ hS (by have hz9 := hS.1; rintro q (h | h) <;> first | exact Or.inr (by omega) | exact h.elim | exact Or.inl h | (simp only [ftA] at h ⊢; omega)) (fun v H1 locs hpo hfr hS => ?_)
  obtain ⟨rfl, hR⟩ := hpo
  generalize H1 = H at hfr hS hR ⊢
  refine W.widen (k := 0) (n := 0) (Nat.le_of_ble_eq_true rfl) (Nat.le_of_ble_eq_true rfl) ?_
  refine mh_iret hB ⟨Nat.le_of_ble_eq_true rfl, Nat.le_of_ble_eq_true rfl⟩ hS dX11_member_36 ⟨?_, ?_⟩
  · rfl
  · exact hR

def rm_c_X11_cloth : Room := { frames := 3, cells := 0, slots := 0, locals := 69 }
set_option maxRecDepth 100000 in
set_option maxHeartbeats 400000 in
theorem c_X11_cloth (l : Launch) (g : GG) (H0 : Heap) (r : Nat) (zq : Nat → Int32) (zsp : Nat → Int32) (zrm : Nat → Int32) (zst : Int32) (zsl : Nat → Int32) (zsv : Nat → Int32) (ztx : Nat → Int32) (zln : Int32) (zth : Int32) (zsg : Nat → Int32) (zbg : Nat → Int32) (zwd : Nat → Int32) (zhg : Nat → Int32) (zin : Nat → Int32) (zop : Int32) (zbe : Int32) (zwi : Int32) (zhi : Int32) (zbk : Nat → Int32) (zot : Nat → Int32) (zer : Int32) (zen : Int32) (zpo : Nat → Int32) (zpi : Int32) (zgr : Int32) (zsh : Nat → Int32) (zsn : Int32) (k : Nat) (w : Nat) (hR : ModAt g r zq zsp zrm zst zsl zsv ztx zln zth zsg zbg zwd zhg zin zop zbe zwi zhi zbk zot zer zen zpo zpi zgr zsh zsn H0) (hk : k < 6) (hw : w < 5) (hW : WF zq) : Ct l yX11_cloth cX11_cloth 5 (some .int) rm_c_X11_cloth g [.ref r, .int (nI k), .int (nI w)] H0 (ftA (fun q => r ≤ q ∧ q < r + 16) H0.size) (fun v H1 => v = some (.int (coV zq k w)) ∧ ModAt g r zq zsp zrm zst zsl zsv ztx zln (nI 0) zsg zbg zwd zhg zin zop zbe zwi zhi zbk zot zer zen zpo zpi zgr zsh zsn H1) := by
  refine Ct.of (by decide) (fun _ h => Or.inr h) (Nat.le_of_ble_eq_true rfl) ?_
  intro p e s m below meth c ls hB hin hS hH hl
  have hx := hB.x
  have hb := hB.b
  have hl : lv_has ls 5 [(0, .ref r), (1, .int (nI k)), (2, .int (nI w))] := hl
  refine lv_aload_n hx hb dX11_cloth_0 rfl (lv_at hl 0 rfl) ?_
  refine lv_iconst (v := nI 0) hx hb dX11_cloth_1 (by decide) ?_
  refine pf_X11_56 hB hR.o (by first | exact Or.inl rfl | (simp only [ftA]; omega) | (simp [ftA]; omega)) hS rfl rfl (Nat.le_of_ble_eq_true rfl) dX11_cloth_2 (fun H locs hwr => ?_)
  obtain ⟨hR, hS⟩ := hR.w_zth hwr
  refine lv_iload_n hx hb dX11_cloth_5 rfl (lv_at hl 1 rfl) ?_
  refine cl_X11_153 (As := [.int (nI k)]) (rest := []) hB (c_X11_isColour l g H (nI k)) rfl hl.1 (Nat.le_of_ble_eq_true rfl) dX11_cloth_6 ⟨Nat.le_of_ble_eq_true rfl, Nat.le_of_ble_eq_true rfl⟩ ⟨Nat.le_of_ble_eq_true rfl, Nat.le_of_ble_eq_true rfl⟩ hS (by have hz9 := hS.1; rintro q (h | h) <;> first | exact Or.inr (by omega) | exact h.elim | exact Or.inl h | (simp only [ftA] at h ⊢; omega)) (fun v H1 locs hpo hfr hS => ?_)
  obtain ⟨rfl, rfl⟩ := hpo
  refine W.widen (k := 0) (n := 0) (Nat.le_of_ble_eq_true rfl) (Nat.le_of_ble_eq_true rfl) ?_
  refine mb_if_ne (tgt := 18) hB dX11_cloth_9 (by decide) (fun h_9 => ?_) (fun h => by rw [isIx_of hk (by omega)] at h; cases h)
  refine lv_iload_n hx hb dX11_cloth_18 rfl (lv_at hl 2 rfl) ?_
  refine lv_i2l (v := (nI w).toInt64) hx hb dX11_cloth_19 rfl ?_
  refine lv_lconst (v := 0) hx hb dX11_cloth_20 (by decide) ?_
  refine lv_ldc2 (v := (4)) hx hb hB.ow (hB.K.2 _ kw_1144 _) dX11_cloth_21 ?_
  refine cl_X11_63 (As := [.long ((nI w).toInt64), .long 0, .long (4)]) (rest := []) hB (c_X11_in l g H ((nI w).toInt64) 0 (4)) rfl hl.1 (Nat.le_of_ble_eq_true rfl) dX11_cloth_24 ⟨Nat.le_of_ble_eq_true rfl, Nat.le_of_ble_eq_true rfl⟩ ⟨Nat.le_of_ble_eq_true rfl, Nat.le_of_ble_eq_true rfl⟩ hS (by have hz9 := hS.1; rintro q (h | h) <;> first | exact Or.inr (by omega) | exact h.elim | exact Or.inl h | (simp only [ftA] at h ⊢; omega)) (fun v H1 locs hpo hfr hS => ?_)
  obtain ⟨rfl, rfl⟩ := hpo
  refine W.widen (k := 0) (n := 0) (Nat.le_of_ble_eq_true rfl) (Nat.le_of_ble_eq_true rfl) ?_
  refine mh_top (y := .int (bI (isIx (nI w) 5))) (by rw [inL_ix _ 5 _ (by decide)]) ?_
  refine mb_if_ne (tgt := 36) hB dX11_cloth_27 (by decide) (fun h_27 => ?_) (fun h => by rw [isIx_of hw (by omega)] at h; cases h)
  refine lv_aload_n hx hb dX11_cloth_36 rfl (lv_at hl 0 rfl) ?_
  refine gf_X11_7 hB hR.o rfl dX11_cloth_37 ?_
  refine lv_bipush (v := nI 68) hx hb dX11_cloth_40 (by decide) ?_
  refine lv_iload_n hx hb dX11_cloth_42 rfl (lv_at hl 1 rfl) ?_
  refine mn_iadd hB dX11_cloth_43 ?_
  refine mn_iald hB hR.a_zq (by omega) (by omega) dX11_cloth_44 ?_
  refine mh_top (y := .int (clQ zq k 0)) (rfl) ?_
  refine lv_istore_n (lv' := [(3, .int (clQ zq k 0)), (0, .ref r), (1, .int (nI k)), (2, .int (nI w))]) hx hb dX11_cloth_45 rfl hl (by decide) rfl (fun ls hl => ?_)
  refine lv_iconst (v := nI 0) hx hb dX11_cloth_46 (by decide) ?_
  refine lv_istore (lv' := [(4, .int (nI 0)), (3, .int (clQ zq k 0)), (0, .ref r), (1, .int (nI k)), (2, .int (nI w))]) hx hb dX11_cloth_47 hl (by decide) rfl (fun ls hl => ?_)
  refine mh_loop (σ := Nat) (fun xx9 H locs ls => match xx9 with | i => i ≤ 3 ∧ ModAt g r zq zsp zrm zst zsl zsv ztx zln (nI 0) zsg zbg zwd zhg zin zop zbe zwi zhi zbk zot zer zen zpo zpi zgr zsh zsn H ∧ va_S (ftA (fun q => r ≤ q ∧ q < r + 16) H0.size) H0 H locs ∧ lv_has ls 5 [(0, .ref r), (1, .int (nI k)), (2, .int (nI w)), (3, .int (clQ zq k i)), (4, .int (nI i))]) (fun xx9 => match xx9 with | i => 3 - i) ?_ 0 ⟨(by omega), hR, hS, lv_sub hl [2, 3, 4, 1, 0] rfl⟩
  rintro i H locs ls ⟨hi, hR, hS, hl⟩ ih
  have ih49 := ih
  refine lv_iload hx hb dX11_cloth_49 (lv_at hl 4 rfl) ?_
  refine lv_iconst (v := nI 3) hx hb dX11_cloth_51 (by decide) ?_
  refine mn_icmp_ge (tgt := 83) hB dX11_cloth_52 (by decide) (by omega) (by omega) (fun h_52 => ?_) (fun h_52 => ?_)
  · skip
    have hin : i = 3 := by omega
    subst hin
    refine lv_iload_n hx hb dX11_cloth_83 rfl (lv_at hl 2 rfl) ?_
    refine mn_if_ne (tgt := 99) hB dX11_cloth_84 (by decide) (by omega) (fun h_84 => ?_) (fun h_84 => ?_)
    · skip
      refine lv_iload_n hx hb dX11_cloth_99 rfl (lv_at hl 2 rfl) ?_
      refine lv_iconst (v := nI 1) hx hb dX11_cloth_100 (by decide) ?_
      refine mn_icmp_ne (tgt := 112) hB dX11_cloth_101 (by decide) (by omega) (by omega) (fun h_101 => ?_) (fun h_101 => ?_)
      · skip
        refine lv_iload_n hx hb dX11_cloth_112 rfl (lv_at hl 2 rfl) ?_
        refine lv_iconst (v := nI 2) hx hb dX11_cloth_113 (by decide) ?_
        refine mn_icmp_ne (tgt := 121) hB dX11_cloth_114 (by decide) (by omega) (by omega) (fun h_114 => ?_) (fun h_114 => ?_)
        · skip
          refine lv_iload_n hx hb dX11_cloth_121 rfl (lv_at hl 2 rfl) ?_
          refine lv_iconst (v := nI 3) hx hb dX11_cloth_122 (by decide) ?_
          refine mn_icmp_ne (tgt := 138) hB dX11_cloth_123 (by decide) (by omega) (by omega) (fun h_123 => ?_) (fun h_123 => ?_)
          · skip
            refine lv_aload_n hx hb dX11_cloth_138 rfl (lv_at hl 0 rfl) ?_
            refine gf_X11_7 hB hR.o rfl dX11_cloth_139 ?_
            refine lv_bipush (v := nI 62) hx hb dX11_cloth_142 (by decide) ?_
            refine lv_iload_n hx hb dX11_cloth_144 rfl (lv_at hl 1 rfl) ?_
            refine mn_iadd hB dX11_cloth_145 ?_
            refine mn_iald hB hR.a_zq (by omega) (by omega) dX11_cloth_146 ?_
            refine mh_iret hB ⟨Nat.le_of_ble_eq_true rfl, Nat.le_of_ble_eq_true rfl⟩ hS dX11_cloth_147 ⟨?_, ?_⟩
            · rcases (show w = 0 ∨ w = 1 ∨ w = 2 ∨ w = 3 ∨ w = 4 by omega) with rfl | rfl | rfl | rfl | rfl <;> first | rfl | (exfalso; omega)
            · exact hR
          · skip
            refine lv_aload_n hx hb dX11_cloth_126 rfl (lv_at hl 0 rfl) ?_
            refine gf_X11_7 hB hR.o rfl dX11_cloth_127 ?_
            refine lv_bipush (v := nI 56) hx hb dX11_cloth_130 (by decide) ?_
            refine lv_iload_n hx hb dX11_cloth_132 rfl (lv_at hl 1 rfl) ?_
            refine mn_iadd hB dX11_cloth_133 ?_
            refine mn_iald hB hR.a_zq (by omega) (by omega) dX11_cloth_134 ?_
            refine lv_goto (tgt := 147) hx hb dX11_cloth_135 (by decide) ?_
            refine mh_iret hB ⟨Nat.le_of_ble_eq_true rfl, Nat.le_of_ble_eq_true rfl⟩ hS dX11_cloth_147 ⟨?_, ?_⟩
            · rcases (show w = 0 ∨ w = 1 ∨ w = 2 ∨ w = 3 ∨ w = 4 by omega) with rfl | rfl | rfl | rfl | rfl <;> first | rfl | (exfalso; omega)
            · exact hR
        · skip
          refine lv_iload_n hx hb dX11_cloth_117 rfl (lv_at hl 3 rfl) ?_
          refine lv_goto (tgt := 147) hx hb dX11_cloth_118 (by decide) ?_
          refine mh_iret hB ⟨Nat.le_of_ble_eq_true rfl, Nat.le_of_ble_eq_true rfl⟩ hS dX11_cloth_147 ⟨?_, ?_⟩
          · rcases (show w = 0 ∨ w = 1 ∨ w = 2 ∨ w = 3 ∨ w = 4 by omega) with rfl | rfl | rfl | rfl | rfl <;> first | rfl | (exfalso; omega)
          · exact hR
      · skip
        refine lv_aload_n hx hb dX11_cloth_104 rfl (lv_at hl 0 rfl) ?_
        refine lv_iload_n hx hb dX11_cloth_105 rfl (lv_at hl 1 rfl) ?_
        refine cl_X11_162 (As := [.int (nI k)]) (rest := []) hB (c_X11_givenOf l g H r zq zsp zrm zst zsl zsv ztx zln (nI 0) zsg zbg zwd zhg zin zop zbe zwi zhi zbk zot zer zen zpo zpi zgr zsh zsn k hR (by omega)) hR.o rfl hl.1 (Nat.le_of_ble_eq_true rfl) dX11_cloth_106 ⟨Nat.le_of_ble_eq_true rfl, Nat.le_of_ble_eq_true rfl⟩ ⟨Nat.le_of_ble_eq_true rfl, Nat.le_of_ble_eq_true rfl⟩ hS (by have hz9 := hS.1; rintro q (h | h) <;> first | exact Or.inr (by omega) | exact h.elim | exact Or.inl h | (simp only [ftA] at h ⊢; omega)) (fun v H1 locs hpo hfr hS => ?_)
        obtain ⟨rfl, rfl⟩ := hpo
        refine W.widen (k := 0) (n := 0) (Nat.le_of_ble_eq_true rfl) (Nat.le_of_ble_eq_true rfl) ?_
        refine lv_goto (tgt := 147) hx hb dX11_cloth_109 (by decide) ?_
        refine mh_iret hB ⟨Nat.le_of_ble_eq_true rfl, Nat.le_of_ble_eq_true rfl⟩ hS dX11_cloth_147 ⟨?_, ?_⟩
        · rcases (show w = 0 ∨ w = 1 ∨ w = 2 ∨ w = 3 ∨ w = 4 by omega) with rfl | rfl | rfl | rfl | rfl <;> first | rfl | (exfalso; omega)
        · exact hR
    · skip
      refine lv_aload_n hx hb dX11_cloth_87 rfl (lv_at hl 0 rfl) ?_
      refine gf_X11_7 hB hR.o rfl dX11_cloth_88 ?_
      refine lv_bipush (v := nI 50) hx hb dX11_cloth_91 (by decide) ?_
      refine lv_iload_n hx hb dX11_cloth_93 rfl (lv_at hl 1 rfl) ?_
      refine mn_iadd hB dX11_cloth_94 ?_
      refine mn_iald hB hR.a_zq (by omega) (by omega) dX11_cloth_95 ?_
      refine lv_goto (tgt := 147) hx hb dX11_cloth_96 (by decide) ?_
      refine mh_iret hB ⟨Nat.le_of_ble_eq_true rfl, Nat.le_of_ble_eq_true rfl⟩ hS dX11_cloth_147 ⟨?_, ?_⟩
      · rcases (show w = 0 ∨ w = 1 ∨ w = 2 ∨ w = 3 ∨ w = 4 by omega) with rfl | rfl | rfl | rfl | rfl <;> first | rfl | (exfalso; omega)
      · exact hR
  · skip
    refine lv_iload_n hx hb dX11_cloth_55 rfl (lv_at hl 3 rfl) ?_
    refine lv_aload_n hx hb dX11_cloth_56 rfl (lv_at hl 0 rfl) ?_
    refine lv_iload hx hb dX11_cloth_57 (lv_at hl 4 rfl) ?_
    refine lv_iload_n hx hb dX11_cloth_59 rfl (lv_at hl 1 rfl) ?_
    refine lv_iconst (v := nI 0) hx hb dX11_cloth_60 (by decide) ?_
    refine lv_aload_n hx hb dX11_cloth_61 rfl (lv_at hl 0 rfl) ?_
    refine gf_X11_7 hB hR.o rfl dX11_cloth_62 ?_
    refine lv_iload hx hb dX11_cloth_65 (lv_at hl 4 rfl) ?_
    refine lv_iconst (v := nI 2) hx hb dX11_cloth_67 (by decide) ?_
    refine cl_X11_71 (As := [.int (nI i), .int (nI 2)]) (rest := [.ref (r + 1), .int (nI 0), .int (nI k), .int (nI i), .ref r, .int (clQ zq k i)]) hB (c_X11_at l g H i 2) rfl hl.1 (Nat.le_of_ble_eq_true rfl) dX11_cloth_68 ⟨Nat.le_of_ble_eq_true rfl, Nat.le_of_ble_eq_true rfl⟩ ⟨Nat.le_of_ble_eq_true rfl, Nat.le_of_ble_eq_true rfl⟩ hS (by have hz9 := hS.1; rintro q (h | h) <;> first | exact Or.inr (by omega) | exact h.elim | exact Or.inl h | (simp only [ftA] at h ⊢; omega)) (fun v H1 locs hpo hfr hS => ?_)
    obtain ⟨rfl, rfl⟩ := hpo
    refine W.widen (k := 0) (n := 0) (Nat.le_of_ble_eq_true rfl) (Nat.le_of_ble_eq_true rfl) ?_
    refine mn_iald hB hR.a_zq (by omega) (by omega) dX11_cloth_71 ?_
    refine mh_top (y := .int (nI (swF zq i))) (by rw [(hW.fr (f := i) (by omega)).s]) ?_
    refine cl_X11_158 (As := [.int (nI i), .int (nI k), .int (nI 0), .int (nI (swF zq i))]) (rest := [.int (clQ zq k i)]) hB (c_X11_colourIn l g H r zq zsp zrm zst zsl zsv ztx zln (nI 0) zsg zbg zwd zhg zin zop zbe zwi zhi zbk zot zer zen zpo zpi zgr zsh zsn i k 0 (swF zq i) hR (by omega) (hW.2.2.2.2 i (by omega)) (by omega) (by omega) (by have := (hW.fr (f := i) (by omega)).sle; have := WF.sz (hW.2.2.2.2 i (by omega)); simp only [szF] at this; omega)) hR.o rfl hl.1 (Nat.le_of_ble_eq_true rfl) dX11_cloth_72 ⟨Nat.le_of_ble_eq_true rfl, Nat.le_of_ble_eq_true rfl⟩ ⟨Nat.le_of_ble_eq_true rfl, Nat.le_of_ble_eq_true rfl⟩ hS (by have hz9 := hS.1; rintro q (h | h) <;> first | exact Or.inr (by omega) | exact h.elim | exact Or.inl h | (simp only [ftA] at h ⊢; omega)) (fun v H1 locs hpo hfr hS => ?_)
    obtain ⟨rfl, rfl⟩ := hpo
    refine W.widen (k := 0) (n := 0) (Nat.le_of_ble_eq_true rfl) (Nat.le_of_ble_eq_true rfl) ?_
    refine lv_iadd hx hb dX11_cloth_75 ?_
    refine mh_top (y := .int (clQ zq k (i + 1))) (rfl) ?_
    refine lv_istore_n (lv' := [(3, .int (clQ zq k (i + 1))), (0, .ref r), (1, .int (nI k)), (2, .int (nI w)), (4, .int (nI i))]) hx hb dX11_cloth_76 rfl hl (by decide) rfl (fun ls hl => ?_)
    refine lv_iinc (v := nI (i + 1)) (lv' := [(4, .int (nI (i + 1))), (3, .int (clQ zq k (i + 1))), (0, .ref r), (1, .int (nI k)), (2, .int (nI w))]) hx hb dX11_cloth_77 hl (k := 4) rfl (nI_1 _) (by decide) rfl (fun ls hl => ?_)
    refine lv_goto (tgt := 49) hx hb dX11_cloth_80 (by decide) ?_
    refine ih49 (i + 1) _ _ _ ⟨(by omega), hR, hS, lv_sub hl [2, 3, 4, 1, 0] rfl⟩ (by dsimp only; omega)

def rm_c_X11_cloth_t1 : Room := { frames := 2, cells := 0, slots := 0, locals := 45 }
set_option maxRecDepth 100000 in
set_option maxHeartbeats 400000 in
theorem c_X11_cloth_t1 (l : Launch) (g : GG) (H0 : Heap) (r : Nat) (zq : Nat → Int32) (zsp : Nat → Int32) (zrm : Nat → Int32) (zst : Int32) (zsl : Nat → Int32) (zsv : Nat → Int32) (ztx : Nat → Int32) (zln : Int32) (zth : Int32) (zsg : Nat → Int32) (zbg : Nat → Int32) (zwd : Nat → Int32) (zhg : Nat → Int32) (zin : Nat → Int32) (zop : Int32) (zbe : Int32) (zwi : Int32) (zhi : Int32) (zbk : Nat → Int32) (zot : Nat → Int32) (zer : Int32) (zen : Int32) (zpo : Nat → Int32) (zpi : Int32) (zgr : Int32) (zsh : Nat → Int32) (zsn : Int32) (x : Int32) (y : Int32) (hR : ModAt g r zq zsp zrm zst zsl zsv ztx zln zth zsg zbg zwd zhg zin zop zbe zwi zhi zbk zot zer zen zpo zpi zgr zsh zsn H0) (hx1 : isIx x 6 = false) : Ct l yX11_cloth cX11_cloth 5 (some .int) rm_c_X11_cloth_t1 g [.ref r, .int x, .int y] H0 (ftA (fun q => r ≤ q ∧ q < r + 16) H0.size) (fun v H1 => v = some (.int (nI 0)) ∧ ModAt g r zq zsp zrm zst zsl zsv ztx zln (nI 1) zsg zbg zwd zhg zin zop zbe zwi zhi zbk zot zer zen zpo zpi zgr zsh zsn H1) := by
  refine Ct.of (by decide) (fun _ h => Or.inr h) (Nat.le_of_ble_eq_true rfl) ?_
  intro p e s m below meth c ls hB hin hS hH hl
  have hx := hB.x
  have hb := hB.b
  have hl : lv_has ls 5 [(0, .ref r), (1, .int x), (2, .int y)] := hl
  refine lv_aload_n hx hb dX11_cloth_0 rfl (lv_at hl 0 rfl) ?_
  refine lv_iconst (v := nI 0) hx hb dX11_cloth_1 (by decide) ?_
  refine pf_X11_56 hB hR.o (by first | exact Or.inl rfl | (simp only [ftA]; omega) | (simp [ftA]; omega)) hS rfl rfl (Nat.le_of_ble_eq_true rfl) dX11_cloth_2 (fun H locs hwr => ?_)
  obtain ⟨hR, hS⟩ := hR.w_zth hwr
  refine lv_iload_n hx hb dX11_cloth_5 rfl (lv_at hl 1 rfl) ?_
  refine cl_X11_153 (As := [.int x]) (rest := []) hB (c_X11_isColour l g H x) rfl hl.1 (Nat.le_of_ble_eq_true rfl) dX11_cloth_6 ⟨Nat.le_of_ble_eq_true rfl, Nat.le_of_ble_eq_true rfl⟩ ⟨Nat.le_of_ble_eq_true rfl, Nat.le_of_ble_eq_true rfl⟩ hS (by have hz9 := hS.1; rintro q (h | h) <;> first | exact Or.inr (by omega) | exact h.elim | exact Or.inl h | (simp only [ftA] at h ⊢; omega)) (fun v H1 locs hpo hfr hS => ?_)
  obtain ⟨rfl, rfl⟩ := hpo
  refine W.widen (k := 0) (n := 0) (Nat.le_of_ble_eq_true rfl) (Nat.le_of_ble_eq_true rfl) ?_
  refine mb_if_ne (tgt := 18) hB dX11_cloth_9 (by decide) (fun h => by rw [hx1] at h; cases h) (fun h_9 => ?_)
  refine lv_aload_n hx hb dX11_cloth_12 rfl (lv_at hl 0 rfl) ?_
  refine lv_iconst (v := nI 1) hx hb dX11_cloth_13 (by decide) ?_
  refine cl_X11_81 (As := [.int (nI 1)]) (rest := []) hB (c_X11_fails l g H r zq zsp zrm zst zsl zsv ztx zln (nI 0) zsg zbg zwd zhg zin zop zbe zwi zhi zbk zot zer zen zpo zpi zgr zsh zsn (nI 1) hR) hR.o rfl hl.1 (Nat.le_of_ble_eq_true rfl) dX11_cloth_14 ⟨Nat.le_of_ble_eq_true rfl, Nat.le_of_ble_eq_true rfl⟩ ⟨Nat.le_of_ble_eq_true rfl, Nat.le_of_ble_eq_true rfl⟩ hS (by have hz9 := hS.1; rintro q (h | h) <;> first | exact Or.inr (by omega) | exact h.elim | exact Or.inl h | (simp only [ftA] at h ⊢; omega)) (fun v H1 locs hpo hfr hS => ?_)
  obtain ⟨rfl, hR⟩ := hpo
  generalize H1 = H at hfr hS hR ⊢
  refine W.widen (k := 0) (n := 0) (Nat.le_of_ble_eq_true rfl) (Nat.le_of_ble_eq_true rfl) ?_
  refine mh_iret hB ⟨Nat.le_of_ble_eq_true rfl, Nat.le_of_ble_eq_true rfl⟩ hS dX11_cloth_17 ⟨?_, ?_⟩
  · rfl
  · exact hR

def rm_c_X11_cloth_t2 : Room := { frames := 2, cells := 0, slots := 0, locals := 45 }
set_option maxRecDepth 100000 in
set_option maxHeartbeats 400000 in
theorem c_X11_cloth_t2 (l : Launch) (g : GG) (H0 : Heap) (r : Nat) (zq : Nat → Int32) (zsp : Nat → Int32) (zrm : Nat → Int32) (zst : Int32) (zsl : Nat → Int32) (zsv : Nat → Int32) (ztx : Nat → Int32) (zln : Int32) (zth : Int32) (zsg : Nat → Int32) (zbg : Nat → Int32) (zwd : Nat → Int32) (zhg : Nat → Int32) (zin : Nat → Int32) (zop : Int32) (zbe : Int32) (zwi : Int32) (zhi : Int32) (zbk : Nat → Int32) (zot : Nat → Int32) (zer : Int32) (zen : Int32) (zpo : Nat → Int32) (zpi : Int32) (zgr : Int32) (zsh : Nat → Int32) (zsn : Int32) (k : Nat) (y : Int32) (hR : ModAt g r zq zsp zrm zst zsl zsv ztx zln zth zsg zbg zwd zhg zin zop zbe zwi zhi zbk zot zer zen zpo zpi zgr zsh zsn H0) (hk : k < 6) (hx1 : isIx y 5 = false) : Ct l yX11_cloth cX11_cloth 5 (some .int) rm_c_X11_cloth_t2 g [.ref r, .int (nI k), .int y] H0 (ftA (fun q => r ≤ q ∧ q < r + 16) H0.size) (fun v H1 => v = some (.int (nI 0)) ∧ ModAt g r zq zsp zrm zst zsl zsv ztx zln (nI 2) zsg zbg zwd zhg zin zop zbe zwi zhi zbk zot zer zen zpo zpi zgr zsh zsn H1) := by
  refine Ct.of (by decide) (fun _ h => Or.inr h) (Nat.le_of_ble_eq_true rfl) ?_
  intro p e s m below meth c ls hB hin hS hH hl
  have hx := hB.x
  have hb := hB.b
  have hl : lv_has ls 5 [(0, .ref r), (1, .int (nI k)), (2, .int y)] := hl
  refine lv_aload_n hx hb dX11_cloth_0 rfl (lv_at hl 0 rfl) ?_
  refine lv_iconst (v := nI 0) hx hb dX11_cloth_1 (by decide) ?_
  refine pf_X11_56 hB hR.o (by first | exact Or.inl rfl | (simp only [ftA]; omega) | (simp [ftA]; omega)) hS rfl rfl (Nat.le_of_ble_eq_true rfl) dX11_cloth_2 (fun H locs hwr => ?_)
  obtain ⟨hR, hS⟩ := hR.w_zth hwr
  refine lv_iload_n hx hb dX11_cloth_5 rfl (lv_at hl 1 rfl) ?_
  refine cl_X11_153 (As := [.int (nI k)]) (rest := []) hB (c_X11_isColour l g H (nI k)) rfl hl.1 (Nat.le_of_ble_eq_true rfl) dX11_cloth_6 ⟨Nat.le_of_ble_eq_true rfl, Nat.le_of_ble_eq_true rfl⟩ ⟨Nat.le_of_ble_eq_true rfl, Nat.le_of_ble_eq_true rfl⟩ hS (by have hz9 := hS.1; rintro q (h | h) <;> first | exact Or.inr (by omega) | exact h.elim | exact Or.inl h | (simp only [ftA] at h ⊢; omega)) (fun v H1 locs hpo hfr hS => ?_)
  obtain ⟨rfl, rfl⟩ := hpo
  refine W.widen (k := 0) (n := 0) (Nat.le_of_ble_eq_true rfl) (Nat.le_of_ble_eq_true rfl) ?_
  refine mb_if_ne (tgt := 18) hB dX11_cloth_9 (by decide) (fun h_9 => ?_) (fun h => by rw [isIx_of hk (by omega)] at h; cases h)
  refine lv_iload_n hx hb dX11_cloth_18 rfl (lv_at hl 2 rfl) ?_
  refine lv_i2l (v := (y).toInt64) hx hb dX11_cloth_19 rfl ?_
  refine lv_lconst (v := 0) hx hb dX11_cloth_20 (by decide) ?_
  refine lv_ldc2 (v := (4)) hx hb hB.ow (hB.K.2 _ kw_1144 _) dX11_cloth_21 ?_
  refine cl_X11_63 (As := [.long ((y).toInt64), .long 0, .long (4)]) (rest := []) hB (c_X11_in l g H ((y).toInt64) 0 (4)) rfl hl.1 (Nat.le_of_ble_eq_true rfl) dX11_cloth_24 ⟨Nat.le_of_ble_eq_true rfl, Nat.le_of_ble_eq_true rfl⟩ ⟨Nat.le_of_ble_eq_true rfl, Nat.le_of_ble_eq_true rfl⟩ hS (by have hz9 := hS.1; rintro q (h | h) <;> first | exact Or.inr (by omega) | exact h.elim | exact Or.inl h | (simp only [ftA] at h ⊢; omega)) (fun v H1 locs hpo hfr hS => ?_)
  obtain ⟨rfl, rfl⟩ := hpo
  refine W.widen (k := 0) (n := 0) (Nat.le_of_ble_eq_true rfl) (Nat.le_of_ble_eq_true rfl) ?_
  refine mh_top (y := .int (bI (isIx y 5))) (by rw [inL_ix _ 5 _ (by decide)]) ?_
  refine mb_if_ne (tgt := 36) hB dX11_cloth_27 (by decide) (fun h => by rw [hx1] at h; cases h) (fun h_27 => ?_)
  refine lv_aload_n hx hb dX11_cloth_30 rfl (lv_at hl 0 rfl) ?_
  refine lv_iconst (v := nI 2) hx hb dX11_cloth_31 (by decide) ?_
  refine cl_X11_81 (As := [.int (nI 2)]) (rest := []) hB (c_X11_fails l g H r zq zsp zrm zst zsl zsv ztx zln (nI 0) zsg zbg zwd zhg zin zop zbe zwi zhi zbk zot zer zen zpo zpi zgr zsh zsn (nI 2) hR) hR.o rfl hl.1 (Nat.le_of_ble_eq_true rfl) dX11_cloth_32 ⟨Nat.le_of_ble_eq_true rfl, Nat.le_of_ble_eq_true rfl⟩ ⟨Nat.le_of_ble_eq_true rfl, Nat.le_of_ble_eq_true rfl⟩ hS (by have hz9 := hS.1; rintro q (h | h) <;> first | exact Or.inr (by omega) | exact h.elim | exact Or.inl h | (simp only [ftA] at h ⊢; omega)) (fun v H1 locs hpo hfr hS => ?_)
  obtain ⟨rfl, hR⟩ := hpo
  generalize H1 = H at hfr hS hR ⊢
  refine W.widen (k := 0) (n := 0) (Nat.le_of_ble_eq_true rfl) (Nat.le_of_ble_eq_true rfl) ?_
  refine mh_iret hB ⟨Nat.le_of_ble_eq_true rfl, Nat.le_of_ble_eq_true rfl⟩ hS dX11_cloth_35 ⟨?_, ?_⟩
  · rfl
  · exact hR
