def rm_c_X11_errorPosition_e : Room := { frames := 4, cells := 0, slots := 0, locals := 90 }
set_option maxRecDepth 100000 in
set_option maxHeartbeats 400000 in
theorem c_X11_errorPosition_e (l : Launch) (g : GG) (H0 : Heap) (r : Nat) (zq : Nat → Int32) (zsp : Nat → Int32) (zrm : Nat → Int32) (zst : Int32) (zsl : Nat → Int32) (zsv : Nat → Int32) (ztx : Nat → Int32) (zth : Int32) (zsg : Nat → Int32) (zbg : Nat → Int32) (zwd : Nat → Int32) (zhg : Nat → Int32) (zin : Nat → Int32) (zop : Int32) (zbe : Int32) (zwi : Int32) (zhi : Int32) (zbk : Nat → Int32) (zot : Nat → Int32) (zer : Int32) (zen : Int32) (zpo : Nat → Int32) (zpi : Int32) (zgr : Int32) (zsh : Nat → Int32) (zsn : Int32) (tc : Nat → Nat) (len : Nat) (e9 : Nat) (hR : ModAt g r zq zsp zrm zst zsl zsv ztx (nI len) zth zsg zbg zwd zhg zin zop zbe zwi zhi zbk zot zer zen zpo zpi zgr zsh zsn H0) (hlen : len ≤ 60) (htc : ∀ j, j < len → ztx j = nI (tc j) ∧ tc j < 256) (hw : wholeS tc len = .inl e9) : Ct l yX11_errorPosition cX11_errorPosition 2 (some .int) rm_c_X11_errorPosition_e g [.ref r] H0 (ftA (fun q => r ≤ q ∧ q < r + 16) H0.size) (fun v H1 => v = some (.int (nI e9)) ∧ ∃ (op2 : Int32), ∃ (be2 : Int32), ∃ (wi2 : Int32), ∃ (hi2 : Int32), ∃ (bk2 : Nat → Int32), ∃ (ot2 : Nat → Int32), ∃ (wd2 : Nat → Int32), ∃ (hg2 : Nat → Int32), ∃ (in2 : Nat → Int32), ∃ (er2 : Int32), ∃ (en2 : Int32), ∃ (sg2 : Nat → Int32), ∃ (bg2 : Nat → Int32), ModAt g r zq zsp zrm zst zsl zsv ztx (nI len) (nI 0) sg2 bg2 wd2 hg2 in2 op2 be2 wi2 hi2 bk2 ot2 er2 en2 zpo zpi zgr zsh zsn H1) := by
  refine Ct.of (by decide) (fun _ h => Or.inr h) (Nat.le_of_ble_eq_true rfl) ?_
  intro p e s m below meth c ls hB hin hS hH hl
  have hx := hB.x
  have hb := hB.b
  have hl : lv_has ls 2 [(0, .ref r)] := hl
  refine lv_aload_n hx hb dX11_errorPosition_0 rfl (lv_at hl 0 rfl) ?_
  refine lv_iconst (v := nI 0) hx hb dX11_errorPosition_1 (by decide) ?_
  refine pf_X11_56 hB hR.o (by first | exact Or.inl rfl | (simp only [ftA]; omega) | (simp [ftA]; omega)) hS rfl rfl (Nat.le_of_ble_eq_true rfl) dX11_errorPosition_2 (fun H locs hwr => ?_)
  obtain ⟨hR, hS⟩ := hR.w_zth hwr
  refine lv_aload_n hx hb dX11_errorPosition_5 rfl (lv_at hl 0 rfl) ?_
  refine cl_X11_138 (As := []) (rest := []) hB (c_X11_reads l g H r zq zsp zrm zst zsl zsv ztx (nI 0) zsg zbg zwd zhg zin zop zbe zwi zhi zbk zot zer zen zpo zpi zgr zsh zsn tc len hR (hlen) (htc)) hR.o rfl hl.1 (Nat.le_of_ble_eq_true rfl) dX11_errorPosition_6 ⟨Nat.le_of_ble_eq_true rfl, Nat.le_of_ble_eq_true rfl⟩ ⟨Nat.le_of_ble_eq_true rfl, Nat.le_of_ble_eq_true rfl⟩ hS (by have hz9 := hS.1; rintro q (h | h) <;> first | exact Or.inr (by omega) | exact h.elim | exact Or.inl h | (simp only [ftA] at h ⊢; omega)) (fun v H1 locs hpo hfr hS => ?_)
  obtain ⟨rfl, op2_1, be2_2, wi2_3, hi2_4, bk2_5, ot2_6, wd2_7, hg2_8, in2_9, er2_10, en2_11, sg2_12, bg2_13, hR, hPo⟩ := hpo
  generalize H1 = H at hfr hS hR hPo ⊢
  refine W.widen (k := 0) (n := 0) (Nat.le_of_ble_eq_true rfl) (Nat.le_of_ble_eq_true rfl) ?_
  refine mh_top (y := .int (nI e9)) (by rw [hw]; rfl) ?_
  refine lv_istore_n (lv' := [(1, .int (nI e9)), (0, .ref r)]) hx hb dX11_errorPosition_9 rfl hl (by decide) rfl (fun ls hl => ?_)
  refine lv_iload_n hx hb dX11_errorPosition_10 rfl (lv_at hl 0 rfl) ?_
  refine mn_if_ge (tgt := 19) hB dX11_errorPosition_11 (by decide) (by have := whole_le hlen hw; omega) (fun h_11 => ?_) (fun h => by exfalso; omega)
  refine lv_iload_n hx hb dX11_errorPosition_19 rfl (lv_at hl 0 rfl) ?_
  refine mh_iret hB ⟨Nat.le_of_ble_eq_true rfl, Nat.le_of_ble_eq_true rfl⟩ hS dX11_errorPosition_20 ⟨?_, op2_1, be2_2, wi2_3, hi2_4, bk2_5, ot2_6, wd2_7, hg2_8, in2_9, er2_10, en2_11, sg2_12, bg2_13, ?_⟩
  · rfl
  · exact hR

def rm_c_X11_errorPosition_o : Room := { frames := 4, cells := 0, slots := 0, locals := 90 }
set_option maxRecDepth 100000 in
set_option maxHeartbeats 400000 in
theorem c_X11_errorPosition_o (l : Launch) (g : GG) (H0 : Heap) (r : Nat) (zq : Nat → Int32) (zsp : Nat → Int32) (zrm : Nat → Int32) (zst : Int32) (zsl : Nat → Int32) (zsv : Nat → Int32) (ztx : Nat → Int32) (zth : Int32) (zsg : Nat → Int32) (zbg : Nat → Int32) (zwd : Nat → Int32) (zhg : Nat → Int32) (zin : Nat → Int32) (zop : Int32) (zbe : Int32) (zwi : Int32) (zhi : Int32) (zbk : Nat → Int32) (zot : Nat → Int32) (zer : Int32) (zen : Int32) (zpo : Nat → Int32) (zpi : Int32) (zgr : Int32) (zsh : Nat → Int32) (zsn : Int32) (tc : Nat → Nat) (len : Nat) (b1 : PBl) (hR : ModAt g r zq zsp zrm zst zsl zsv ztx (nI len) zth zsg zbg zwd zhg zin zop zbe zwi zhi zbk zot zer zen zpo zpi zgr zsh zsn H0) (hlen : len ≤ 60) (htc : ∀ j, j < len → ztx j = nI (tc j) ∧ tc j < 256) (hw : wholeS tc len = .inr b1) : Ct l yX11_errorPosition cX11_errorPosition 2 (some .int) rm_c_X11_errorPosition_o g [.ref r] H0 (ftA (fun q => r ≤ q ∧ q < r + 16) H0.size) (fun v H1 => v = some (.int (-9)) ∧ ∃ (op2 : Int32), ∃ (be2 : Int32), ∃ (wi2 : Int32), ∃ (hi2 : Int32), ∃ (bk2 : Nat → Int32), ∃ (ot2 : Nat → Int32), ∃ (wd2 : Nat → Int32), ∃ (hg2 : Nat → Int32), ∃ (in2 : Nat → Int32), ∃ (er2 : Int32), ∃ (en2 : Int32), ∃ (sg2 : Nat → Int32), ∃ (bg2 : Nat → Int32), ModAt g r zq zsp zrm zst zsl zsv ztx (nI len) (nI 0) sg2 bg2 wd2 hg2 in2 op2 be2 wi2 hi2 bk2 ot2 er2 en2 zpo zpi zgr zsh zsn H1) := by
  refine Ct.of (by decide) (fun _ h => Or.inr h) (Nat.le_of_ble_eq_true rfl) ?_
  intro p e s m below meth c ls hB hin hS hH hl
  have hx := hB.x
  have hb := hB.b
  have hl : lv_has ls 2 [(0, .ref r)] := hl
  refine lv_aload_n hx hb dX11_errorPosition_0 rfl (lv_at hl 0 rfl) ?_
  refine lv_iconst (v := nI 0) hx hb dX11_errorPosition_1 (by decide) ?_
  refine pf_X11_56 hB hR.o (by first | exact Or.inl rfl | (simp only [ftA]; omega) | (simp [ftA]; omega)) hS rfl rfl (Nat.le_of_ble_eq_true rfl) dX11_errorPosition_2 (fun H locs hwr => ?_)
  obtain ⟨hR, hS⟩ := hR.w_zth hwr
  refine lv_aload_n hx hb dX11_errorPosition_5 rfl (lv_at hl 0 rfl) ?_
  refine cl_X11_138 (As := []) (rest := []) hB (c_X11_reads l g H r zq zsp zrm zst zsl zsv ztx (nI 0) zsg zbg zwd zhg zin zop zbe zwi zhi zbk zot zer zen zpo zpi zgr zsh zsn tc len hR (hlen) (htc)) hR.o rfl hl.1 (Nat.le_of_ble_eq_true rfl) dX11_errorPosition_6 ⟨Nat.le_of_ble_eq_true rfl, Nat.le_of_ble_eq_true rfl⟩ ⟨Nat.le_of_ble_eq_true rfl, Nat.le_of_ble_eq_true rfl⟩ hS (by have hz9 := hS.1; rintro q (h | h) <;> first | exact Or.inr (by omega) | exact h.elim | exact Or.inl h | (simp only [ftA] at h ⊢; omega)) (fun v H1 locs hpo hfr hS => ?_)
  obtain ⟨rfl, op2_1, be2_2, wi2_3, hi2_4, bk2_5, ot2_6, wd2_7, hg2_8, in2_9, er2_10, en2_11, sg2_12, bg2_13, hR, hPo⟩ := hpo
  generalize H1 = H at hfr hS hR hPo ⊢
  refine W.widen (k := 0) (n := 0) (Nat.le_of_ble_eq_true rfl) (Nat.le_of_ble_eq_true rfl) ?_
  refine mh_top (y := .int (-1)) (by rw [hw]; rfl) ?_
  refine lv_istore_n (lv' := [(1, .int (-1)), (0, .ref r)]) hx hb dX11_errorPosition_9 rfl hl (by decide) rfl (fun ls hl => ?_)
  refine lv_iload_n hx hb dX11_errorPosition_10 rfl (lv_at hl 0 rfl) ?_
  refine lv_if_ge (tgt := 19) hx hb dX11_errorPosition_11 (by decide) (fun h => absurd h (by decide)) (fun h_11 => ?_)
  refine lv_bipush (v := (-9)) hx hb dX11_errorPosition_14 (by decide) ?_
  refine lv_goto (tgt := 20) hx hb dX11_errorPosition_16 (by decide) ?_
  refine mh_iret hB ⟨Nat.le_of_ble_eq_true rfl, Nat.le_of_ble_eq_true rfl⟩ hS dX11_errorPosition_20 ⟨?_, op2_1, be2_2, wi2_3, hi2_4, bk2_5, ot2_6, wd2_7, hg2_8, in2_9, er2_10, en2_11, sg2_12, bg2_13, ?_⟩
  · rfl
  · exact hR

def rm_c_X11_start_t2 : Room := { frames := 4, cells := 0, slots := 0, locals := 90 }
set_option maxRecDepth 100000 in
set_option maxHeartbeats 400000 in
theorem c_X11_start_t2 (l : Launch) (g : GG) (H0 : Heap) (r : Nat) (zq : Nat → Int32) (zsp : Nat → Int32) (zrm : Nat → Int32) (zst : Int32) (zsl : Nat → Int32) (zsv : Nat → Int32) (ztx : Nat → Int32) (zth : Int32) (zsg : Nat → Int32) (zbg : Nat → Int32) (zwd : Nat → Int32) (zhg : Nat → Int32) (zin : Nat → Int32) (zop : Int32) (zbe : Int32) (zwi : Int32) (zhi : Int32) (zbk : Nat → Int32) (zot : Nat → Int32) (zer : Int32) (zen : Int32) (zpo : Nat → Int32) (zpi : Int32) (zgr : Int32) (zsh : Nat → Int32) (zsn : Int32) (tc : Nat → Nat) (len : Nat) (e9 : Nat) (f : Nat) (hR : ModAt g r zq zsp zrm zst zsl zsv ztx (nI len) zth zsg zbg zwd zhg zin zop zbe zwi zhi zbk zot zer zen zpo zpi zgr zsh zsn H0) (hlen : len ≤ 60) (htc : ∀ j, j < len → ztx j = nI (tc j) ∧ tc j < 256) (hw : wholeS tc len = .inl e9) (hf : f < 3) : Ct l yX11_start cX11_start 3 (some .int) rm_c_X11_start_t2 g [.ref r, .int (nI f)] H0 (ftA (fun q => r ≤ q ∧ q < r + 16) H0.size) (fun v H1 => v = some (.int (nI 0)) ∧ ∃ (op2 : Int32), ∃ (be2 : Int32), ∃ (wi2 : Int32), ∃ (hi2 : Int32), ∃ (bk2 : Nat → Int32), ∃ (ot2 : Nat → Int32), ∃ (wd2 : Nat → Int32), ∃ (hg2 : Nat → Int32), ∃ (in2 : Nat → Int32), ∃ (er2 : Int32), ∃ (en2 : Int32), ∃ (sg2 : Nat → Int32), ∃ (bg2 : Nat → Int32), ModAt g r zq zsp zrm zst zsl zsv ztx (nI len) (nI 2) sg2 bg2 wd2 hg2 in2 op2 be2 wi2 hi2 bk2 ot2 er2 en2 zpo zpi zgr zsh zsn H1) := by
  refine Ct.of (by decide) (fun _ h => Or.inr h) (Nat.le_of_ble_eq_true rfl) ?_
  intro p e s m below meth c ls hB hin hS hH hl
  have hx := hB.x
  have hb := hB.b
  have hl : lv_has ls 3 [(0, .ref r), (1, .int (nI f))] := hl
  refine lv_aload_n hx hb dX11_start_0 rfl (lv_at hl 0 rfl) ?_
  refine lv_iconst (v := nI 0) hx hb dX11_start_1 (by decide) ?_
  refine pf_X11_56 hB hR.o (by first | exact Or.inl rfl | (simp only [ftA]; omega) | (simp [ftA]; omega)) hS rfl rfl (Nat.le_of_ble_eq_true rfl) dX11_start_2 (fun H locs hwr => ?_)
  obtain ⟨hR, hS⟩ := hR.w_zth hwr
  refine lv_iload_n hx hb dX11_start_5 rfl (lv_at hl 1 rfl) ?_
  refine cl_X11_175 (As := [.int (nI f)]) (rest := []) hB (c_X11_isFrame l g H (nI f)) rfl hl.1 (Nat.le_of_ble_eq_true rfl) dX11_start_6 ⟨Nat.le_of_ble_eq_true rfl, Nat.le_of_ble_eq_true rfl⟩ ⟨Nat.le_of_ble_eq_true rfl, Nat.le_of_ble_eq_true rfl⟩ hS (by have hz9 := hS.1; rintro q (h | h) <;> first | exact Or.inr (by omega) | exact h.elim | exact Or.inl h | (simp only [ftA] at h ⊢; omega)) (fun v H1 locs hpo hfr hS => ?_)
  obtain ⟨rfl, rfl⟩ := hpo
  refine W.widen (k := 0) (n := 0) (Nat.le_of_ble_eq_true rfl) (Nat.le_of_ble_eq_true rfl) ?_
  refine mb_if_ne (tgt := 18) hB dX11_start_9 (by decide) (fun h_9 => ?_) (fun h => by rw [isIx_of hf (by omega)] at h; cases h)
  refine lv_aload_n hx hb dX11_start_18 rfl (lv_at hl 0 rfl) ?_
  refine cl_X11_138 (As := []) (rest := []) hB (c_X11_reads l g H r zq zsp zrm zst zsl zsv ztx (nI 0) zsg zbg zwd zhg zin zop zbe zwi zhi zbk zot zer zen zpo zpi zgr zsh zsn tc len hR (hlen) (htc)) hR.o rfl hl.1 (Nat.le_of_ble_eq_true rfl) dX11_start_19 ⟨Nat.le_of_ble_eq_true rfl, Nat.le_of_ble_eq_true rfl⟩ ⟨Nat.le_of_ble_eq_true rfl, Nat.le_of_ble_eq_true rfl⟩ hS (by have hz9 := hS.1; rintro q (h | h) <;> first | exact Or.inr (by omega) | exact h.elim | exact Or.inl h | (simp only [ftA] at h ⊢; omega)) (fun v H1 locs hpo hfr hS => ?_)
  obtain ⟨rfl, op2_1, be2_2, wi2_3, hi2_4, bk2_5, ot2_6, wd2_7, hg2_8, in2_9, er2_10, en2_11, sg2_12, bg2_13, hR, hPo⟩ := hpo
  generalize H1 = H at hfr hS hR hPo ⊢
  refine W.widen (k := 0) (n := 0) (Nat.le_of_ble_eq_true rfl) (Nat.le_of_ble_eq_true rfl) ?_
  refine mh_top (y := .int (nI e9)) (by rw [hw]; rfl) ?_
  refine mn_if_ge (tgt := 33) hB dX11_start_22 (by decide) (by have := whole_le hlen hw; omega) (fun h_22 => ?_) (fun h => by exfalso; omega)
  refine lv_aload_n hx hb dX11_start_33 rfl (lv_at hl 0 rfl) ?_
  refine lv_iconst (v := nI 2) hx hb dX11_start_34 (by decide) ?_
  refine cl_X11_81 (As := [.int (nI 2)]) (rest := []) hB (c_X11_fails l g H r zq zsp zrm zst zsl zsv ztx (nI len) (nI 0) sg2_12 bg2_13 wd2_7 hg2_8 in2_9 op2_1 be2_2 wi2_3 hi2_4 bk2_5 ot2_6 er2_10 en2_11 zpo zpi zgr zsh zsn (nI 2) hR) hR.o rfl hl.1 (Nat.le_of_ble_eq_true rfl) dX11_start_35 ⟨Nat.le_of_ble_eq_true rfl, Nat.le_of_ble_eq_true rfl⟩ ⟨Nat.le_of_ble_eq_true rfl, Nat.le_of_ble_eq_true rfl⟩ hS (by have hz9 := hS.1; rintro q (h | h) <;> first | exact Or.inr (by omega) | exact h.elim | exact Or.inl h | (simp only [ftA] at h ⊢; omega)) (fun v H1 locs hpo hfr hS => ?_)
  obtain ⟨rfl, hR⟩ := hpo
  generalize H1 = H at hfr hS hR ⊢
  refine W.widen (k := 0) (n := 0) (Nat.le_of_ble_eq_true rfl) (Nat.le_of_ble_eq_true rfl) ?_
  refine mh_iret hB ⟨Nat.le_of_ble_eq_true rfl, Nat.le_of_ble_eq_true rfl⟩ hS dX11_start_38 ⟨?_, op2_1, be2_2, wi2_3, hi2_4, bk2_5, ot2_6, wd2_7, hg2_8, in2_9, er2_10, en2_11, sg2_12, bg2_13, ?_⟩
  · rfl
  · exact hR

def rm_c_X11_start_t2b : Room := { frames := 4, cells := 0, slots := 0, locals := 90 }
set_option maxRecDepth 100000 in
set_option maxHeartbeats 400000 in
theorem c_X11_start_t2b (l : Launch) (g : GG) (H0 : Heap) (r : Nat) (zq : Nat → Int32) (zsp : Nat → Int32) (zrm : Nat → Int32) (zst : Int32) (zsl : Nat → Int32) (zsv : Nat → Int32) (ztx : Nat → Int32) (zth : Int32) (zsg : Nat → Int32) (zbg : Nat → Int32) (zwd : Nat → Int32) (zhg : Nat → Int32) (zin : Nat → Int32) (zop : Int32) (zbe : Int32) (zwi : Int32) (zhi : Int32) (zbk : Nat → Int32) (zot : Nat → Int32) (zer : Int32) (zen : Int32) (zpo : Nat → Int32) (zpi : Int32) (zgr : Int32) (zsh : Nat → Int32) (zsn : Int32) (tc : Nat → Nat) (len : Nat) (b1 : PBl) (f : Nat) (hR : ModAt g r zq zsp zrm zst zsl zsv ztx (nI len) zth zsg zbg zwd zhg zin zop zbe zwi zhi zbk zot zer zen zpo zpi zgr zsh zsn H0) (hlen : len ≤ 60) (htc : ∀ j, j < len → ztx j = nI (tc j) ∧ tc j < 256) (hw : wholeS tc len = .inr b1) (hf : f < 3) (hW : WF zq) (hs0 : 0 < szF zq f) : Ct l yX11_start cX11_start 3 (some .int) rm_c_X11_start_t2b g [.ref r, .int (nI f)] H0 (ftA (fun q => r ≤ q ∧ q < r + 16) H0.size) (fun v H1 => v = some (.int (nI 0)) ∧ ∃ (op2 : Int32), ∃ (be2 : Int32), ∃ (wi2 : Int32), ∃ (hi2 : Int32), ∃ (bk2 : Nat → Int32), ∃ (ot2 : Nat → Int32), ∃ (wd2 : Nat → Int32), ∃ (hg2 : Nat → Int32), ∃ (in2 : Nat → Int32), ∃ (er2 : Int32), ∃ (en2 : Int32), ∃ (sg2 : Nat → Int32), ∃ (bg2 : Nat → Int32), ModAt g r zq zsp zrm zst zsl zsv ztx (nI len) (nI 2) sg2 bg2 wd2 hg2 in2 op2 be2 wi2 hi2 bk2 ot2 er2 en2 zpo zpi zgr zsh zsn H1) := by
  refine Ct.of (by decide) (fun _ h => Or.inr h) (Nat.le_of_ble_eq_true rfl) ?_
  intro p e s m below meth c ls hB hin hS hH hl
  have hx := hB.x
  have hb := hB.b
  have hl : lv_has ls 3 [(0, .ref r), (1, .int (nI f))] := hl
  refine lv_aload_n hx hb dX11_start_0 rfl (lv_at hl 0 rfl) ?_
  refine lv_iconst (v := nI 0) hx hb dX11_start_1 (by decide) ?_
  refine pf_X11_56 hB hR.o (by first | exact Or.inl rfl | (simp only [ftA]; omega) | (simp [ftA]; omega)) hS rfl rfl (Nat.le_of_ble_eq_true rfl) dX11_start_2 (fun H locs hwr => ?_)
  obtain ⟨hR, hS⟩ := hR.w_zth hwr
  refine lv_iload_n hx hb dX11_start_5 rfl (lv_at hl 1 rfl) ?_
  refine cl_X11_175 (As := [.int (nI f)]) (rest := []) hB (c_X11_isFrame l g H (nI f)) rfl hl.1 (Nat.le_of_ble_eq_true rfl) dX11_start_6 ⟨Nat.le_of_ble_eq_true rfl, Nat.le_of_ble_eq_true rfl⟩ ⟨Nat.le_of_ble_eq_true rfl, Nat.le_of_ble_eq_true rfl⟩ hS (by have hz9 := hS.1; rintro q (h | h) <;> first | exact Or.inr (by omega) | exact h.elim | exact Or.inl h | (simp only [ftA] at h ⊢; omega)) (fun v H1 locs hpo hfr hS => ?_)
  obtain ⟨rfl, rfl⟩ := hpo
  refine W.widen (k := 0) (n := 0) (Nat.le_of_ble_eq_true rfl) (Nat.le_of_ble_eq_true rfl) ?_
  refine mb_if_ne (tgt := 18) hB dX11_start_9 (by decide) (fun h_9 => ?_) (fun h => by rw [isIx_of hf (by omega)] at h; cases h)
  refine lv_aload_n hx hb dX11_start_18 rfl (lv_at hl 0 rfl) ?_
  refine cl_X11_138 (As := []) (rest := []) hB (c_X11_reads l g H r zq zsp zrm zst zsl zsv ztx (nI 0) zsg zbg zwd zhg zin zop zbe zwi zhi zbk zot zer zen zpo zpi zgr zsh zsn tc len hR (hlen) (htc)) hR.o rfl hl.1 (Nat.le_of_ble_eq_true rfl) dX11_start_19 ⟨Nat.le_of_ble_eq_true rfl, Nat.le_of_ble_eq_true rfl⟩ ⟨Nat.le_of_ble_eq_true rfl, Nat.le_of_ble_eq_true rfl⟩ hS (by have hz9 := hS.1; rintro q (h | h) <;> first | exact Or.inr (by omega) | exact h.elim | exact Or.inl h | (simp only [ftA] at h ⊢; omega)) (fun v H1 locs hpo hfr hS => ?_)
  obtain ⟨rfl, op2_1, be2_2, wi2_3, hi2_4, bk2_5, ot2_6, wd2_7, hg2_8, in2_9, er2_10, en2_11, sg2_12, bg2_13, hR, hPo⟩ := hpo
  generalize H1 = H at hfr hS hR hPo ⊢
  refine W.widen (k := 0) (n := 0) (Nat.le_of_ble_eq_true rfl) (Nat.le_of_ble_eq_true rfl) ?_
  refine mh_top (y := .int (-1)) (by rw [hw]; rfl) ?_
  refine lv_if_ge (tgt := 33) hx hb dX11_start_22 (by decide) (fun h => absurd h (by decide)) (fun h_22 => ?_)
  refine lv_aload_n hx hb dX11_start_25 rfl (lv_at hl 0 rfl) ?_
  refine lv_iload_n hx hb dX11_start_26 rfl (lv_at hl 1 rfl) ?_
  refine cl_X11_75 (As := [.int (nI f)]) (rest := []) hB (c_X11_patches l g H r zq zsp zrm zst zsl zsv ztx (nI len) (nI 0) sg2_12 bg2_13 wd2_7 hg2_8 in2_9 op2_1 be2_2 wi2_3 hi2_4 bk2_5 ot2_6 er2_10 en2_11 zpo zpi zgr zsh zsn f hR (by first | assumption | omega) (hW.fr hf)) hR.o rfl hl.1 (Nat.le_of_ble_eq_true rfl) dX11_start_27 ⟨Nat.le_of_ble_eq_true rfl, Nat.le_of_ble_eq_true rfl⟩ ⟨Nat.le_of_ble_eq_true rfl, Nat.le_of_ble_eq_true rfl⟩ hS (by have hz9 := hS.1; rintro q (h | h) <;> first | exact Or.inr (by omega) | exact h.elim | exact Or.inl h | (simp only [ftA] at h ⊢; omega)) (fun v H1 locs hpo hfr hS => ?_)
  obtain ⟨rfl, rfl⟩ := hpo
  refine W.widen (k := 0) (n := 0) (Nat.le_of_ble_eq_true rfl) (Nat.le_of_ble_eq_true rfl) ?_
  have hz9 := WF.sz (hW.fr hf)
  refine mn_if_le (tgt := 39) hB dX11_start_30 (by decide) (by omega) (fun h => by exfalso; omega) (fun h_30 => ?_)
  refine lv_aload_n hx hb dX11_start_33 rfl (lv_at hl 0 rfl) ?_
  refine lv_iconst (v := nI 2) hx hb dX11_start_34 (by decide) ?_
  refine cl_X11_81 (As := [.int (nI 2)]) (rest := []) hB (c_X11_fails l g H r zq zsp zrm zst zsl zsv ztx (nI len) (nI 0) sg2_12 bg2_13 wd2_7 hg2_8 in2_9 op2_1 be2_2 wi2_3 hi2_4 bk2_5 ot2_6 er2_10 en2_11 zpo zpi zgr zsh zsn (nI 2) hR) hR.o rfl hl.1 (Nat.le_of_ble_eq_true rfl) dX11_start_35 ⟨Nat.le_of_ble_eq_true rfl, Nat.le_of_ble_eq_true rfl⟩ ⟨Nat.le_of_ble_eq_true rfl, Nat.le_of_ble_eq_true rfl⟩ hS (by have hz9 := hS.1; rintro q (h | h) <;> first | exact Or.inr (by omega) | exact h.elim | exact Or.inl h | (simp only [ftA] at h ⊢; omega)) (fun v H1 locs hpo hfr hS => ?_)
  obtain ⟨rfl, hR⟩ := hpo
  generalize H1 = H at hfr hS hR ⊢
  refine W.widen (k := 0) (n := 0) (Nat.le_of_ble_eq_true rfl) (Nat.le_of_ble_eq_true rfl) ?_
  refine mh_iret hB ⟨Nat.le_of_ble_eq_true rfl, Nat.le_of_ble_eq_true rfl⟩ hS dX11_start_38 ⟨?_, op2_1, be2_2, wi2_3, hi2_4, bk2_5, ot2_6, wd2_7, hg2_8, in2_9, er2_10, en2_11, sg2_12, bg2_13, ?_⟩
  · rfl
  · exact hR

def rm_c_X11_start : Room := { frames := 4, cells := 0, slots := 0, locals := 90 }
set_option maxRecDepth 100000 in
set_option maxHeartbeats 400000 in
theorem c_X11_start (l : Launch) (g : GG) (H0 : Heap) (r : Nat) (zq : Nat → Int32) (zsp : Nat → Int32) (zrm : Nat → Int32) (zsl : Nat → Int32) (zsv : Nat → Int32) (ztx : Nat → Int32) (zth : Int32) (zsg : Nat → Int32) (zbg : Nat → Int32) (zwd : Nat → Int32) (zhg : Nat → Int32) (zin : Nat → Int32) (zop : Int32) (zbe : Int32) (zwi : Int32) (zhi : Int32) (zbk : Nat → Int32) (zot : Nat → Int32) (zer : Int32) (zen : Int32) (zpo : Nat → Int32) (zpi : Int32) (zgr : Int32) (zsh : Nat → Int32) (zsn : Int32) (tc : Nat → Nat) (len : Nat) (n : Nat) (b1 : PBl) (f : Nat) (hR : ModAt g r zq zsp zrm (nI n) zsl zsv ztx (nI len) zth zsg zbg zwd zhg zin zop zbe zwi zhi zbk zot zer zen zpo zpi zgr zsh zsn H0) (hlen : len ≤ 60) (htc : ∀ j, j < len → ztx j = nI (tc j) ∧ tc j < 256) (hn : n ≤ 14) (hw : wholeS tc len = .inr b1) (hf : f < 3) (hW : WF zq) (hs0 : szF zq f = 0) : Ct l yX11_start cX11_start 3 (some .int) rm_c_X11_start g [.ref r, .int (nI f)] H0 (ftA (fun q => r ≤ q ∧ q < r + 16) H0.size) (fun v H1 => v = some (.int (nI (b1.1 * b1.2.1))) ∧ ∃ (op2 : Int32), ∃ (be2 : Int32), ∃ (wi2 : Int32), ∃ (hi2 : Int32), ∃ (bk2 : Nat → Int32), ∃ (ot2 : Nat → Int32), ∃ (wd2 : Nat → Int32), ∃ (hg2 : Nat → Int32), ∃ (in2 : Nat → Int32), ∃ (er2 : Int32), ∃ (en2 : Int32), ∃ (sg2 : Nat → Int32), ∃ (bg2 : Nat → Int32), ModAt g r (stQ zq f b1) zsp (remA zrm n zq) (nI (nxtS n)) zsl zsv ztx (nI len) (nI 0) sg2 bg2 wd2 hg2 in2 op2 be2 wi2 hi2 bk2 ot2 er2 en2 zpo zpi zgr zsh zsn H1) := by
  refine Ct.of (by decide) (fun _ h => Or.inr h) (Nat.le_of_ble_eq_true rfl) ?_
  intro p e s m below meth c ls hB hin hS hH hl
  have hx := hB.x
  have hb := hB.b
  have hl : lv_has ls 3 [(0, .ref r), (1, .int (nI f))] := hl
  refine lv_aload_n hx hb dX11_start_0 rfl (lv_at hl 0 rfl) ?_
  refine lv_iconst (v := nI 0) hx hb dX11_start_1 (by decide) ?_
  refine pf_X11_56 hB hR.o (by first | exact Or.inl rfl | (simp only [ftA]; omega) | (simp [ftA]; omega)) hS rfl rfl (Nat.le_of_ble_eq_true rfl) dX11_start_2 (fun H locs hwr => ?_)
  obtain ⟨hR, hS⟩ := hR.w_zth hwr
  refine lv_iload_n hx hb dX11_start_5 rfl (lv_at hl 1 rfl) ?_
  refine cl_X11_175 (As := [.int (nI f)]) (rest := []) hB (c_X11_isFrame l g H (nI f)) rfl hl.1 (Nat.le_of_ble_eq_true rfl) dX11_start_6 ⟨Nat.le_of_ble_eq_true rfl, Nat.le_of_ble_eq_true rfl⟩ ⟨Nat.le_of_ble_eq_true rfl, Nat.le_of_ble_eq_true rfl⟩ hS (by have hz9 := hS.1; rintro q (h | h) <;> first | exact Or.inr (by omega) | exact h.elim | exact Or.inl h | (simp only [ftA] at h ⊢; omega)) (fun v H1 locs hpo hfr hS => ?_)
  obtain ⟨rfl, rfl⟩ := hpo
  refine W.widen (k := 0) (n := 0) (Nat.le_of_ble_eq_true rfl) (Nat.le_of_ble_eq_true rfl) ?_
  refine mb_if_ne (tgt := 18) hB dX11_start_9 (by decide) (fun h_9 => ?_) (fun h => by rw [isIx_of hf (by omega)] at h; cases h)
  refine lv_aload_n hx hb dX11_start_18 rfl (lv_at hl 0 rfl) ?_
  refine cl_X11_138 (As := []) (rest := []) hB (c_X11_reads l g H r zq zsp zrm (nI n) zsl zsv ztx (nI 0) zsg zbg zwd zhg zin zop zbe zwi zhi zbk zot zer zen zpo zpi zgr zsh zsn tc len hR (hlen) (htc)) hR.o rfl hl.1 (Nat.le_of_ble_eq_true rfl) dX11_start_19 ⟨Nat.le_of_ble_eq_true rfl, Nat.le_of_ble_eq_true rfl⟩ ⟨Nat.le_of_ble_eq_true rfl, Nat.le_of_ble_eq_true rfl⟩ hS (by have hz9 := hS.1; rintro q (h | h) <;> first | exact Or.inr (by omega) | exact h.elim | exact Or.inl h | (simp only [ftA] at h ⊢; omega)) (fun v H1 locs hpo hfr hS => ?_)
  obtain ⟨rfl, op2_1, be2_2, wi2_3, hi2_4, bk2_5, ot2_6, wd2_7, hg2_8, in2_9, er2_10, en2_11, sg2_12, bg2_13, hR, hPo⟩ := hpo
  generalize H1 = H at hfr hS hR hPo ⊢
  refine W.widen (k := 0) (n := 0) (Nat.le_of_ble_eq_true rfl) (Nat.le_of_ble_eq_true rfl) ?_
  refine mh_top (y := .int (-1)) (by rw [hw]; rfl) ?_
  obtain ⟨h91, h92, hbk9, hok9⟩ := hPo b1 hw
  have hs99 := sz256 hok9.2.1 hok9.2.2.2.1
  subst h91
  subst h92
  refine lv_if_ge (tgt := 33) hx hb dX11_start_22 (by decide) (fun h => absurd h (by decide)) (fun h_22 => ?_)
  refine lv_aload_n hx hb dX11_start_25 rfl (lv_at hl 0 rfl) ?_
  refine lv_iload_n hx hb dX11_start_26 rfl (lv_at hl 1 rfl) ?_
  refine cl_X11_75 (As := [.int (nI f)]) (rest := []) hB (c_X11_patches l g H r zq zsp zrm (nI n) zsl zsv ztx (nI len) (nI 0) sg2_12 bg2_13 wd2_7 hg2_8 in2_9 op2_1 be2_2 (nI b1.1) (nI b1.2.1) bk2_5 ot2_6 er2_10 en2_11 zpo zpi zgr zsh zsn f hR (by first | assumption | omega) (hW.fr hf)) hR.o rfl hl.1 (Nat.le_of_ble_eq_true rfl) dX11_start_27 ⟨Nat.le_of_ble_eq_true rfl, Nat.le_of_ble_eq_true rfl⟩ ⟨Nat.le_of_ble_eq_true rfl, Nat.le_of_ble_eq_true rfl⟩ hS (by have hz9 := hS.1; rintro q (h | h) <;> first | exact Or.inr (by omega) | exact h.elim | exact Or.inl h | (simp only [ftA] at h ⊢; omega)) (fun v H1 locs hpo hfr hS => ?_)
  obtain ⟨rfl, rfl⟩ := hpo
  refine W.widen (k := 0) (n := 0) (Nat.le_of_ble_eq_true rfl) (Nat.le_of_ble_eq_true rfl) ?_
  refine mn_if_le (tgt := 39) hB dX11_start_30 (by decide) (by omega) (fun h_30 => ?_) (fun h => by exfalso; omega)
  refine lv_aload_n hx hb dX11_start_39 rfl (lv_at hl 0 rfl) ?_
  refine cl_X11_200 (As := []) (rest := []) hB (c_X11_remember l g H r zq zsp zrm zsl zsv ztx (nI len) (nI 0) sg2_12 bg2_13 wd2_7 hg2_8 in2_9 op2_1 be2_2 (nI b1.1) (nI b1.2.1) bk2_5 ot2_6 er2_10 en2_11 zpo zpi zgr zsh zsn n hR (hn)) hR.o rfl hl.1 (Nat.le_of_ble_eq_true rfl) dX11_start_40 ⟨Nat.le_of_ble_eq_true rfl, Nat.le_of_ble_eq_true rfl⟩ ⟨Nat.le_of_ble_eq_true rfl, Nat.le_of_ble_eq_true rfl⟩ hS (by have hz9 := hS.1; rintro q (h | h) <;> first | exact Or.inr (by omega) | exact h.elim | exact Or.inl h | (simp only [ftA] at h ⊢; omega)) (fun v H1 locs hpo hfr hS => ?_)
  obtain ⟨rfl, hR⟩ := hpo
  generalize H1 = H at hfr hS hR ⊢
  refine W.widen (k := 0) (n := 0) (Nat.le_of_ble_eq_true rfl) (Nat.le_of_ble_eq_true rfl) ?_
  refine lv_aload_n hx hb dX11_start_43 rfl (lv_at hl 0 rfl) ?_
  refine gf_X11_7 hB hR.o rfl dX11_start_44 ?_
  refine lv_iload_n hx hb dX11_start_47 rfl (lv_at hl 1 rfl) ?_
  refine lv_iconst (v := nI 0) hx hb dX11_start_48 (by decide) ?_
  refine cl_X11_71 (As := [.int (nI f), .int (nI 0)]) (rest := [.ref (r + 1)]) hB (c_X11_at l g H f 0) rfl hl.1 (Nat.le_of_ble_eq_true rfl) dX11_start_49 ⟨Nat.le_of_ble_eq_true rfl, Nat.le_of_ble_eq_true rfl⟩ ⟨Nat.le_of_ble_eq_true rfl, Nat.le_of_ble_eq_true rfl⟩ hS (by have hz9 := hS.1; rintro q (h | h) <;> first | exact Or.inr (by omega) | exact h.elim | exact Or.inl h | (simp only [ftA] at h ⊢; omega)) (fun v H1 locs hpo hfr hS => ?_)
  obtain ⟨rfl, rfl⟩ := hpo
  refine W.widen (k := 0) (n := 0) (Nat.le_of_ble_eq_true rfl) (Nat.le_of_ble_eq_true rfl) ?_
  refine lv_aload_n hx hb dX11_start_52 rfl (lv_at hl 0 rfl) ?_
  refine gf_X11_90 hB hR.o rfl dX11_start_53 ?_
  refine mn_iast hB hR.a_zq (by first | exact Or.inl rfl | (simp only [ftA]; omega) | (simp [ftA]; omega)) hS (by omega) (by omega) dX11_start_56 (fun H locs hwr => ?_)
  obtain ⟨hR, hS⟩ := hR.w_zq hwr
  refine lv_aload_n hx hb dX11_start_57 rfl (lv_at hl 0 rfl) ?_
  refine gf_X11_7 hB hR.o rfl dX11_start_58 ?_
  refine lv_iload_n hx hb dX11_start_61 rfl (lv_at hl 1 rfl) ?_
  refine lv_iconst (v := nI 1) hx hb dX11_start_62 (by decide) ?_
  refine cl_X11_71 (As := [.int (nI f), .int (nI 1)]) (rest := [.ref (r + 1)]) hB (c_X11_at l g H f 1) rfl hl.1 (Nat.le_of_ble_eq_true rfl) dX11_start_63 ⟨Nat.le_of_ble_eq_true rfl, Nat.le_of_ble_eq_true rfl⟩ ⟨Nat.le_of_ble_eq_true rfl, Nat.le_of_ble_eq_true rfl⟩ hS (by have hz9 := hS.1; rintro q (h | h) <;> first | exact Or.inr (by omega) | exact h.elim | exact Or.inl h | (simp only [ftA] at h ⊢; omega)) (fun v H1 locs hpo hfr hS => ?_)
  obtain ⟨rfl, rfl⟩ := hpo
  refine W.widen (k := 0) (n := 0) (Nat.le_of_ble_eq_true rfl) (Nat.le_of_ble_eq_true rfl) ?_
  refine lv_aload_n hx hb dX11_start_66 rfl (lv_at hl 0 rfl) ?_
  refine gf_X11_93 hB hR.o rfl dX11_start_67 ?_
  refine mn_iast hB hR.a_zq (by first | exact Or.inl rfl | (simp only [ftA]; omega) | (simp [ftA]; omega)) hS (by omega) (by omega) dX11_start_70 (fun H locs hwr => ?_)
  obtain ⟨hR, hS⟩ := hR.w_zq hwr
  refine lv_iconst (v := nI 0) hx hb dX11_start_71 (by decide) ?_
  refine lv_istore_n (lv' := [(2, .int (nI 0)), (0, .ref r), (1, .int (nI f))]) hx hb dX11_start_72 rfl hl (by decide) rfl (fun ls hl => ?_)
  refine mh_loop (σ := Nat) (fun xx9 H locs ls => match xx9 with | k8 => k8 ≤ b1.1 * b1.2.1 ∧ ModAt g r (layI (upd (upd zq (74 + 264 * f + 0) (nI b1.1)) (74 + 264 * f + 1) (nI b1.2.1)) (74 + 264 * f + 8) (fun j9 => nI (b1.2.2 j9)) k8) zsp (remA zrm n zq) (nI (nxtS n)) zsl zsv ztx (nI len) (nI 0) sg2_12 bg2_13 wd2_7 hg2_8 in2_9 op2_1 be2_2 (nI b1.1) (nI b1.2.1) bk2_5 ot2_6 er2_10 en2_11 zpo zpi zgr zsh zsn H ∧ va_S (ftA (fun q => r ≤ q ∧ q < r + 16) H0.size) H0 H locs ∧ lv_has ls 3 [(0, .ref r), (1, .int (nI f)), (2, .int (nI k8))]) (fun xx9 => match xx9 with | k8 => b1.1 * b1.2.1 - k8) ?_ 0 ⟨(by omega), (by rw [layI_0]; exact hR), hS, lv_sub hl [1, 2, 0] rfl⟩
  rintro k8 H locs ls ⟨hk8, hR, hS, hl⟩ ih
  have ih73 := ih
  refine lv_iload_n hx hb dX11_start_73 rfl (lv_at hl 2 rfl) ?_
  refine lv_aload_n hx hb dX11_start_74 rfl (lv_at hl 0 rfl) ?_
  refine gf_X11_90 hB hR.o rfl dX11_start_75 ?_
  refine lv_aload_n hx hb dX11_start_78 rfl (lv_at hl 0 rfl) ?_
  refine gf_X11_93 hB hR.o rfl dX11_start_79 ?_
  refine mn_imul hB dX11_start_82 ?_
  refine mn_icmp_ge (tgt := 111) hB dX11_start_83 (by decide) (by omega) (by omega) (fun h_83 => ?_) (fun h_83 => ?_)
  · skip
    have hin9 : k8 = b1.1 * b1.2.1 := by omega
    subst hin9
    refine lv_aload_n hx hb dX11_start_111 rfl (lv_at hl 0 rfl) ?_
    refine gf_X11_90 hB hR.o rfl dX11_start_112 ?_
    refine lv_aload_n hx hb dX11_start_115 rfl (lv_at hl 0 rfl) ?_
    refine gf_X11_93 hB hR.o rfl dX11_start_116 ?_
    refine mn_imul hB dX11_start_119 ?_
    refine mh_iret hB ⟨Nat.le_of_ble_eq_true rfl, Nat.le_of_ble_eq_true rfl⟩ hS dX11_start_120 ⟨?_, op2_1, be2_2, (nI b1.1), (nI b1.2.1), bk2_5, ot2_6, wd2_7, hg2_8, in2_9, er2_10, en2_11, sg2_12, bg2_13, ?_⟩
    · rfl
    · exact hR
  · skip
    refine lv_aload_n hx hb dX11_start_86 rfl (lv_at hl 0 rfl) ?_
    refine gf_X11_7 hB hR.o rfl dX11_start_87 ?_
    refine lv_iload_n hx hb dX11_start_90 rfl (lv_at hl 1 rfl) ?_
    refine lv_bipush (v := nI 8) hx hb dX11_start_91 (by decide) ?_
    refine lv_iload_n hx hb dX11_start_93 rfl (lv_at hl 2 rfl) ?_
    refine mn_iadd hB dX11_start_94 ?_
    refine cl_X11_71 (As := [.int (nI f), .int (nI (8 + k8))]) (rest := [.ref (r + 1)]) hB (c_X11_at l g H f (8 + k8)) rfl hl.1 (Nat.le_of_ble_eq_true rfl) dX11_start_95 ⟨Nat.le_of_ble_eq_true rfl, Nat.le_of_ble_eq_true rfl⟩ ⟨Nat.le_of_ble_eq_true rfl, Nat.le_of_ble_eq_true rfl⟩ hS (by have hz9 := hS.1; rintro q (h | h) <;> first | exact Or.inr (by omega) | exact h.elim | exact Or.inl h | (simp only [ftA] at h ⊢; omega)) (fun v H1 locs hpo hfr hS => ?_)
    obtain ⟨rfl, rfl⟩ := hpo
    refine W.widen (k := 0) (n := 0) (Nat.le_of_ble_eq_true rfl) (Nat.le_of_ble_eq_true rfl) ?_
    refine mh_top (y := .int (nI (74 + 264 * f + 8 + k8))) (by rw [Nat.add_assoc (74 + 264 * f)]) ?_
    refine lv_aload_n hx hb dX11_start_98 rfl (lv_at hl 0 rfl) ?_
    refine gf_X11_44 hB hR.o rfl dX11_start_99 ?_
    refine lv_iload_n hx hb dX11_start_102 rfl (lv_at hl 2 rfl) ?_
    refine mn_iald hB hR.a_zbk (by omega) (by omega) dX11_start_103 ?_
    refine mh_top (y := .int (nI (b1.2.2 k8))) (by rw [(hbk9 k8 (by omega)).1]) ?_
    refine mn_iast hB hR.a_zq (by first | exact Or.inl rfl | (simp only [ftA]; omega) | (simp [ftA]; omega)) hS (by omega) (by omega) dX11_start_104 (fun H locs hwr => ?_)
    obtain ⟨hR, hS⟩ := hR.w_zq hwr
    refine lv_iinc (v := nI (k8 + 1)) (lv' := [(2, .int (nI (k8 + 1))), (0, .ref r), (1, .int (nI f))]) hx hb dX11_start_105 hl (k := 2) rfl (nI_1 _) (by decide) rfl (fun ls hl => ?_)
    refine lv_goto (tgt := 73) hx hb dX11_start_108 (by decide) ?_
    refine ih73 (k8 + 1) _ _ _ ⟨(by omega), (by rw [← layI_up]; exact hR), hS, lv_sub hl [1, 2, 0] rfl⟩ (by dsimp only; omega)
