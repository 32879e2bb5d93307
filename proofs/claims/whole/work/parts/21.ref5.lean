def rm_c_X11_acts : Room := { frames := 5, cells := 0, slots := 0, locals := 115 }
set_option maxRecDepth 100000 in
set_option maxHeartbeats 400000 in
theorem c_X11_acts (l : Launch) (g : GG) (H0 : Heap) (r : Nat) (zq : Nat → Int32) (zsp : Nat → Int32) (zrm : Nat → Int32) (zst : Int32) (zsl : Nat → Int32) (zsv : Nat → Int32) (ztx : Nat → Int32) (zln : Int32) (zth : Int32) (zsg : Nat → Int32) (zbg : Nat → Int32) (zwd : Nat → Int32) (zhg : Nat → Int32) (zin : Nat → Int32) (zop : Int32) (zbe : Int32) (zwi : Int32) (zhi : Int32) (zbk : Nat → Int32) (zot : Nat → Int32) (zer : Int32) (zen : Int32) (zpo : Nat → Int32) (zpi : Int32) (zgr : Int32) (zsh : Nat → Int32) (zsn : Int32) (d1 : Nat) (d2 : Nat) (d3 : Nat) (d4 : Nat) (hR : ModAt g r zq zsp zrm zst zsl zsv ztx zln zth zsg zbg zwd zhg zin zop zbe zwi zhi zbk zot zer zen zpo zpi zgr zsh zsn H0) (hW : WF zq) (hd0 : 0 < d1) (hd1 : d1 < 7) (hd2 : d2 < 10) (hd3 : d3 < 10) (hd4 : d4 < 10) : Ct l yX11_acts cX11_acts 6 (some .boolean) rm_c_X11_acts g [.ref r, .int (nI d1), .int (nI d2), .int (nI d3), .int (nI d4)] H0 (ftA (fun q => r ≤ q ∧ q < r + 16) H0.size) (fun v H1 => v = some (.int (bI (actB zq d1 d2 d3 d4))) ∧ ∃ (zsh2 : Nat → Int32), ModAt g r (actQ zq d1 d2 d3 d4) zsp zrm zst zsl zsv ztx zln zth zsg zbg zwd zhg zin zop zbe zwi zhi zbk zot zer zen zpo zpi zgr zsh2 zsn H1) := by
  refine Ct.of (by decide) (fun _ h => Or.inr h) (Nat.le_of_ble_eq_true rfl) ?_
  intro p e s m below meth c ls hB hin hS hH hl
  have hx := hB.x
  have hb := hB.b
  have hl : lv_has ls 6 [(0, .ref r), (1, .int (nI d1)), (2, .int (nI d2)), (3, .int (nI d3)), (4, .int (nI d4))] := hl
  have hnm := hW.2.2.1
  refine lv_bipush (v := nI 10) hx hb dX11_acts_0 (by decide) ?_
  refine lv_iload_n hx hb dX11_acts_2 rfl (lv_at hl 3 rfl) ?_
  refine mn_imul hB dX11_acts_3 ?_
  refine lv_iload hx hb dX11_acts_4 (lv_at hl 4 rfl) ?_
  refine mn_iadd hB dX11_acts_6 ?_
  refine lv_istore (lv' := [(5, .int (nI ((10 * d3) + d4))), (0, .ref r), (1, .int (nI d1)), (2, .int (nI d2)), (3, .int (nI d3)), (4, .int (nI d4))]) hx hb dX11_acts_7 hl (by decide) rfl (fun ls hl => ?_)
  refine lv_iload_n hx hb dX11_acts_9 rfl (lv_at hl 2 rfl) ?_
  rcases (show d1 = 1 ∨ d1 = 2 ∨ d1 = 3 ∨ d1 = 4 ∨ d1 = 5 ∨ d1 = 6 by omega) with rfl | rfl | rfl | rfl | rfl | rfl
  · skip
    refine lv_tableIn (tgt := 44) (off := 34) hx hb dX11_acts_10 (by decide) (by decide) (by decide) (by decide) ?_
    refine lv_iload_n hx hb dX11_acts_44 rfl (lv_at hl 3 rfl) ?_
    refine cl_X11_175 (As := [.int (nI d2)]) (rest := []) hB (c_X11_isFrame l g H0 (nI d2)) rfl hl.1 (Nat.le_of_ble_eq_true rfl) dX11_acts_45 ⟨Nat.le_of_ble_eq_true rfl, Nat.le_of_ble_eq_true rfl⟩ ⟨Nat.le_of_ble_eq_true rfl, Nat.le_of_ble_eq_true rfl⟩ hS (by have hz9 := hS.1; rintro q (h | h) <;> first | exact Or.inr (by omega) | exact h.elim | exact Or.inl h | (simp only [ftA] at h ⊢; omega)) (fun v H1 locs hpo hfr hS => ?_)
    obtain ⟨rfl, rfl⟩ := hpo
    refine W.widen (k := 0) (n := 0) (Nat.le_of_ble_eq_true rfl) (Nat.le_of_ble_eq_true rfl) ?_
    refine mh_top (y := .int (bI (decide (d2 < 3)))) (by rw [isIx_nI (by omega)]) ?_
    refine mb_if_eq (tgt := 64) hB dX11_acts_48 (by decide) (fun h_48 => ?_) (fun h_48 => ?_)
    · skip
      have h_48 := of_decide_eq_false h_48
      refine lv_iconst (v := nI 0) hx hb dX11_acts_64 (by decide) ?_
      refine mh_zret hB ⟨Nat.le_of_ble_eq_true rfl, Nat.le_of_ble_eq_true rfl⟩ hS dX11_acts_65 (by first | rfl | decide | (split <;> rfl)) ⟨?_, zsh, ?_⟩
      · rw [show actB zq 1 d2 d3 d4 = false from by (simp only [actB, decide_eq_false_iff_not]; omega)]; rfl
      · rw [actQ_f (show actB zq 1 d2 d3 d4 = false from by (simp only [actB, decide_eq_false_iff_not]; omega))]; exact hR
    · skip
      have h_48 := of_decide_eq_true h_48
      refine lv_iload hx hb dX11_acts_51 (lv_at hl 0 rfl) ?_
      refine mn_if_eq (tgt := 64) hB dX11_acts_53 (by decide) (by omega) (fun h_53 => ?_) (fun h_53 => ?_)
      · skip
        refine lv_iconst (v := nI 0) hx hb dX11_acts_64 (by decide) ?_
        refine mh_zret hB ⟨Nat.le_of_ble_eq_true rfl, Nat.le_of_ble_eq_true rfl⟩ hS dX11_acts_65 (by first | rfl | decide | (split <;> rfl)) ⟨?_, zsh, ?_⟩
        · rw [show actB zq 1 d2 d3 d4 = false from by (simp only [actB, decide_eq_false_iff_not]; omega)]; rfl
        · rw [actQ_f (show actB zq 1 d2 d3 d4 = false from by (simp only [actB, decide_eq_false_iff_not]; omega))]; exact hR
      · skip
        refine lv_aload_n hx hb dX11_acts_56 rfl (lv_at hl 1 rfl) ?_
        refine lv_iload_n hx hb dX11_acts_57 rfl (lv_at hl 3 rfl) ?_
        refine cl_X11_215 (As := [.int (nI d2)]) (rest := []) hB (c_X11_canSew l g H0 r zq zsp zrm zst zsl zsv ztx zln zth zsg zbg zwd zhg zin zop zbe zwi zhi zbk zot zer zen zpo zpi zgr zsh zsn d2 hR (by omega) (by omega)) hR.o rfl hl.1 (Nat.le_of_ble_eq_true rfl) dX11_acts_58 ⟨Nat.le_of_ble_eq_true rfl, Nat.le_of_ble_eq_true rfl⟩ ⟨Nat.le_of_ble_eq_true rfl, Nat.le_of_ble_eq_true rfl⟩ hS (by have hz9 := hS.1; rintro q (h | h) <;> first | exact Or.inr (by omega) | exact h.elim | exact Or.inl h | (simp only [ftA] at h ⊢; omega)) (fun v H1 locs hpo hfr hS => ?_)
        obtain ⟨rfl, rfl⟩ := hpo
        refine W.widen (k := 0) (n := 0) (Nat.le_of_ble_eq_true rfl) (Nat.le_of_ble_eq_true rfl) ?_
        refine mb_if_ne (tgt := 66) hB dX11_acts_61 (by decide) (fun h_61 => ?_) (fun h_61 => ?_)
        · skip
          have h_61 := of_decide_eq_true h_61
          refine lv_aload_n hx hb dX11_acts_66 rfl (lv_at hl 1 rfl) ?_
          refine lv_iload_n hx hb dX11_acts_67 rfl (lv_at hl 3 rfl) ?_
          refine lv_iload hx hb dX11_acts_68 (lv_at hl 0 rfl) ?_
          refine cl_X11_218 (As := [.int (nI d2), .int (nI ((10 * d3) + d4))]) (rest := []) hB (c_X11_sews l g H0 r zq zsp zrm zst zsl zsv ztx zln zth zsg zbg zwd zhg zin zop zbe zwi zhi zbk zot zer zen zpo zpi zgr zsh zsn d2 ((10 * d3) + d4) hR (by omega) (by omega) (by omega) (h_61.2)) hR.o rfl hl.1 (Nat.le_of_ble_eq_true rfl) dX11_acts_70 ⟨Nat.le_of_ble_eq_true rfl, Nat.le_of_ble_eq_true rfl⟩ ⟨Nat.le_of_ble_eq_true rfl, Nat.le_of_ble_eq_true rfl⟩ hS (by have hz9 := hS.1; rintro q (h | h) <;> first | exact Or.inr (by omega) | exact h.elim | exact Or.inl h | (simp only [ftA] at h ⊢; omega)) (fun v H1 locs hpo hfr hS => ?_)
          obtain ⟨rfl, hR⟩ := hpo
          generalize H1 = H at hfr hS hR ⊢
          refine W.widen (k := 0) (n := 0) (Nat.le_of_ble_eq_true rfl) (Nat.le_of_ble_eq_true rfl) ?_
          refine lv_pop hx hb dX11_acts_73 rfl ?_
          refine lv_iconst (v := nI 1) hx hb dX11_acts_74 (by decide) ?_
          refine mh_zret hB ⟨Nat.le_of_ble_eq_true rfl, Nat.le_of_ble_eq_true rfl⟩ hS dX11_acts_75 (by first | rfl | decide | (split <;> rfl)) ⟨?_, zsh, ?_⟩
          · rw [show actB zq 1 d2 d3 d4 = true from by (simp only [actB, decide_eq_true_eq]; omega)]; rfl
          · rw [actQ_t (show actB zq 1 d2 d3 d4 = true from by (simp only [actB, decide_eq_true_eq]; omega))]; exact hR
        · skip
          have h_61 := of_decide_eq_false h_61
          refine lv_iconst (v := nI 0) hx hb dX11_acts_64 (by decide) ?_
          refine mh_zret hB ⟨Nat.le_of_ble_eq_true rfl, Nat.le_of_ble_eq_true rfl⟩ hS dX11_acts_65 (by first | rfl | decide | (split <;> rfl)) ⟨?_, zsh, ?_⟩
          · rw [show actB zq 1 d2 d3 d4 = false from by (simp only [actB, decide_eq_false_iff_not]; omega)]; rfl
          · rw [actQ_f (show actB zq 1 d2 d3 d4 = false from by (simp only [actB, decide_eq_false_iff_not]; omega))]; exact hR
  · skip
    refine lv_tableIn (tgt := 76) (off := 66) hx hb dX11_acts_10 (by decide) (by decide) (by decide) (by decide) ?_
    refine lv_aload_n hx hb dX11_acts_76 rfl (lv_at hl 1 rfl) ?_
    refine lv_iload_n hx hb dX11_acts_77 rfl (lv_at hl 3 rfl) ?_
    refine cl_X11_145 (As := [.int (nI d2)]) (rest := []) hB (c_X11_isMember l g H0 r zq zsp zrm zst zsl zsv ztx zln zth zsg zbg zwd zhg zin zop zbe zwi zhi zbk zot zer zen zpo zpi zgr zsh zsn (nI d2) hR (by omega)) hR.o rfl hl.1 (Nat.le_of_ble_eq_true rfl) dX11_acts_78 ⟨Nat.le_of_ble_eq_true rfl, Nat.le_of_ble_eq_true rfl⟩ ⟨Nat.le_of_ble_eq_true rfl, Nat.le_of_ble_eq_true rfl⟩ hS (by have hz9 := hS.1; rintro q (h | h) <;> first | exact Or.inr (by omega) | exact h.elim | exact Or.inl h | (simp only [ftA] at h ⊢; omega)) (fun v H1 locs hpo hfr hS => ?_)
    obtain ⟨rfl, rfl⟩ := hpo
    refine W.widen (k := 0) (n := 0) (Nat.le_of_ble_eq_true rfl) (Nat.le_of_ble_eq_true rfl) ?_
    refine mh_top (y := .int (bI (decide (d2 < nmQ zq)))) (by rw [isIx_nI (by omega)]) ?_
    refine mb_if_eq (tgt := 96) hB dX11_acts_81 (by decide) (fun h_81 => ?_) (fun h_81 => ?_)
    · skip
      have h_81 := of_decide_eq_false h_81
      refine lv_iconst (v := nI 0) hx hb dX11_acts_96 (by decide) ?_
      refine mh_zret hB ⟨Nat.le_of_ble_eq_true rfl, Nat.le_of_ble_eq_true rfl⟩ hS dX11_acts_97 (by first | rfl | decide | (split <;> rfl)) ⟨?_, zsh, ?_⟩
      · rw [show actB zq 2 d2 d3 d4 = false from by (simp only [actB, decide_eq_false_iff_not]; omega)]; rfl
      · rw [actQ_f (show actB zq 2 d2 d3 d4 = false from by (simp only [actB, decide_eq_false_iff_not]; omega))]; exact hR
    · skip
      have h_81 := of_decide_eq_true h_81
      refine lv_iload_n hx hb dX11_acts_84 rfl (lv_at hl 4 rfl) ?_
      refine cl_X11_153 (As := [.int (nI d3)]) (rest := []) hB (c_X11_isColour l g H0 (nI d3)) rfl hl.1 (Nat.le_of_ble_eq_true rfl) dX11_acts_85 ⟨Nat.le_of_ble_eq_true rfl, Nat.le_of_ble_eq_true rfl⟩ ⟨Nat.le_of_ble_eq_true rfl, Nat.le_of_ble_eq_true rfl⟩ hS (by have hz9 := hS.1; rintro q (h | h) <;> first | exact Or.inr (by omega) | exact h.elim | exact Or.inl h | (simp only [ftA] at h ⊢; omega)) (fun v H1 locs hpo hfr hS => ?_)
      obtain ⟨rfl, rfl⟩ := hpo
      refine W.widen (k := 0) (n := 0) (Nat.le_of_ble_eq_true rfl) (Nat.le_of_ble_eq_true rfl) ?_
      refine mh_top (y := .int (bI (decide (d3 < 6)))) (by rw [isIx_nI (by omega)]) ?_
      refine mb_if_eq (tgt := 96) hB dX11_acts_88 (by decide) (fun h_88 => ?_) (fun h_88 => ?_)
      · skip
        have h_88 := of_decide_eq_false h_88
        refine lv_iconst (v := nI 0) hx hb dX11_acts_96 (by decide) ?_
        refine mh_zret hB ⟨Nat.le_of_ble_eq_true rfl, Nat.le_of_ble_eq_true rfl⟩ hS dX11_acts_97 (by first | rfl | decide | (split <;> rfl)) ⟨?_, zsh, ?_⟩
        · rw [show actB zq 2 d2 d3 d4 = false from by (simp only [actB, decide_eq_false_iff_not]; omega)]; rfl
        · rw [actQ_f (show actB zq 2 d2 d3 d4 = false from by (simp only [actB, decide_eq_false_iff_not]; omega))]; exact hR
      · skip
        have h_88 := of_decide_eq_true h_88
        refine lv_iload hx hb dX11_acts_91 (lv_at hl 5 rfl) ?_
        refine mn_if_ne (tgt := 98) hB dX11_acts_93 (by decide) (by omega) (fun h_93 => ?_) (fun h_93 => ?_)
        · skip
          refine lv_aload_n hx hb dX11_acts_98 rfl (lv_at hl 1 rfl) ?_
          refine lv_iload_n hx hb dX11_acts_99 rfl (lv_at hl 3 rfl) ?_
          refine lv_iload_n hx hb dX11_acts_100 rfl (lv_at hl 4 rfl) ?_
          refine lv_iload hx hb dX11_acts_101 (lv_at hl 5 rfl) ?_
          refine cl_X11_205 (As := [.int (nI d2), .int (nI d3), .int (nI d4)]) (rest := []) hB (c_X11_gives l g H0 r zq zsp zrm zst zsl zsv ztx zln zth zsg zbg zwd zhg zin zop zbe zwi zhi zbk zot zer zen zpo zpi zgr zsh zsn d2 d3 (nI d4) hR (by have := hW.2.2.1; omega) (by omega)) hR.o rfl hl.1 (Nat.le_of_ble_eq_true rfl) dX11_acts_103 ⟨Nat.le_of_ble_eq_true rfl, Nat.le_of_ble_eq_true rfl⟩ ⟨Nat.le_of_ble_eq_true rfl, Nat.le_of_ble_eq_true rfl⟩ hS (by have hz9 := hS.1; rintro q (h | h) <;> first | exact Or.inr (by omega) | exact h.elim | exact Or.inl h | (simp only [ftA] at h ⊢; omega)) (fun v H1 locs hpo hfr hS => ?_)
          obtain ⟨rfl, hR⟩ := hpo
          generalize H1 = H at hfr hS hR ⊢
          refine W.widen (k := 0) (n := 0) (Nat.le_of_ble_eq_true rfl) (Nat.le_of_ble_eq_true rfl) ?_
          refine lv_pop hx hb dX11_acts_106 rfl ?_
          refine lv_iconst (v := nI 1) hx hb dX11_acts_107 (by decide) ?_
          refine mh_zret hB ⟨Nat.le_of_ble_eq_true rfl, Nat.le_of_ble_eq_true rfl⟩ hS dX11_acts_108 (by first | rfl | decide | (split <;> rfl)) ⟨?_, zsh, ?_⟩
          · rw [show actB zq 2 d2 d3 d4 = true from by (simp only [actB, decide_eq_true_eq]; omega)]; rfl
          · rw [actQ_t (show actB zq 2 d2 d3 d4 = true from by (simp only [actB, decide_eq_true_eq]; omega))]; exact hR
        · skip
          refine lv_iconst (v := nI 0) hx hb dX11_acts_96 (by decide) ?_
          refine mh_zret hB ⟨Nat.le_of_ble_eq_true rfl, Nat.le_of_ble_eq_true rfl⟩ hS dX11_acts_97 (by first | rfl | decide | (split <;> rfl)) ⟨?_, zsh, ?_⟩
          · rw [show actB zq 2 d2 d3 d4 = false from by (simp only [actB, decide_eq_false_iff_not]; omega)]; rfl
          · rw [actQ_f (show actB zq 2 d2 d3 d4 = false from by (simp only [actB, decide_eq_false_iff_not]; omega))]; exact hR
  · skip
    refine lv_tableIn (tgt := 109) (off := 99) hx hb dX11_acts_10 (by decide) (by decide) (by decide) (by decide) ?_
    refine lv_iload_n hx hb dX11_acts_109 rfl (lv_at hl 3 rfl) ?_
    refine cl_X11_175 (As := [.int (nI d2)]) (rest := []) hB (c_X11_isFrame l g H0 (nI d2)) rfl hl.1 (Nat.le_of_ble_eq_true rfl) dX11_acts_110 ⟨Nat.le_of_ble_eq_true rfl, Nat.le_of_ble_eq_true rfl⟩ ⟨Nat.le_of_ble_eq_true rfl, Nat.le_of_ble_eq_true rfl⟩ hS (by have hz9 := hS.1; rintro q (h | h) <;> first | exact Or.inr (by omega) | exact h.elim | exact Or.inl h | (simp only [ftA] at h ⊢; omega)) (fun v H1 locs hpo hfr hS => ?_)
    obtain ⟨rfl, rfl⟩ := hpo
    refine W.widen (k := 0) (n := 0) (Nat.le_of_ble_eq_true rfl) (Nat.le_of_ble_eq_true rfl) ?_
    refine mh_top (y := .int (bI (decide (d2 < 3)))) (by rw [isIx_nI (by omega)]) ?_
    refine mb_if_eq (tgt := 129) hB dX11_acts_113 (by decide) (fun h_113 => ?_) (fun h_113 => ?_)
    · skip
      have h_113 := of_decide_eq_false h_113
      refine lv_iconst (v := nI 0) hx hb dX11_acts_129 (by decide) ?_
      refine mh_zret hB ⟨Nat.le_of_ble_eq_true rfl, Nat.le_of_ble_eq_true rfl⟩ hS dX11_acts_130 (by first | rfl | decide | (split <;> rfl)) ⟨?_, zsh, ?_⟩
      · rw [show actB zq 3 d2 d3 d4 = false from by (simp only [actB, decide_eq_false_iff_not]; omega)]; rfl
      · rw [actQ_f (show actB zq 3 d2 d3 d4 = false from by (simp only [actB, decide_eq_false_iff_not]; omega))]; exact hR
    · skip
      have h_113 := of_decide_eq_true h_113
      refine lv_aload_n hx hb dX11_acts_116 rfl (lv_at hl 1 rfl) ?_
      refine lv_iload_n hx hb dX11_acts_117 rfl (lv_at hl 3 rfl) ?_
      refine cl_X11_75 (As := [.int (nI d2)]) (rest := []) hB (c_X11_patches l g H0 r zq zsp zrm zst zsl zsv ztx zln zth zsg zbg zwd zhg zin zop zbe zwi zhi zbk zot zer zen zpo zpi zgr zsh zsn d2 hR (by omega) (hW.fr (by omega))) hR.o rfl hl.1 (Nat.le_of_ble_eq_true rfl) dX11_acts_118 ⟨Nat.le_of_ble_eq_true rfl, Nat.le_of_ble_eq_true rfl⟩ ⟨Nat.le_of_ble_eq_true rfl, Nat.le_of_ble_eq_true rfl⟩ hS (by have hz9 := hS.1; rintro q (h | h) <;> first | exact Or.inr (by omega) | exact h.elim | exact Or.inl h | (simp only [ftA] at h ⊢; omega)) (fun v H1 locs hpo hfr hS => ?_)
      obtain ⟨rfl, rfl⟩ := hpo
      refine W.widen (k := 0) (n := 0) (Nat.le_of_ble_eq_true rfl) (Nat.le_of_ble_eq_true rfl) ?_
      refine mn_if_eq (tgt := 129) hB dX11_acts_121 (by decide) (by have := WF.sz (hW.fr (f := d2) (by omega)); omega) (fun h_121 => ?_) (fun h_121 => ?_)
      · skip
        refine lv_iconst (v := nI 0) hx hb dX11_acts_129 (by decide) ?_
        refine mh_zret hB ⟨Nat.le_of_ble_eq_true rfl, Nat.le_of_ble_eq_true rfl⟩ hS dX11_acts_130 (by first | rfl | decide | (split <;> rfl)) ⟨?_, zsh, ?_⟩
        · rw [show actB zq 3 d2 d3 d4 = false from by (simp only [actB, decide_eq_false_iff_not]; omega)]; rfl
        · rw [actQ_f (show actB zq 3 d2 d3 d4 = false from by (simp only [actB, decide_eq_false_iff_not]; omega))]; exact hR
      · skip
        refine lv_iload hx hb dX11_acts_124 (lv_at hl 0 rfl) ?_
        refine mn_if_le (tgt := 131) hB dX11_acts_126 (by decide) (by omega) (fun h_126 => ?_) (fun h_126 => ?_)
        · skip
          refine lv_aload_n hx hb dX11_acts_131 rfl (lv_at hl 1 rfl) ?_
          refine lv_iload_n hx hb dX11_acts_132 rfl (lv_at hl 3 rfl) ?_
          refine cl_X11_224 (As := [.int (nI d2)]) (rest := []) hB (c_X11_takesApart l g H0 r zq zsp zrm zst zsl zsv ztx zln zth zsg zbg zwd zhg zin zop zbe zwi zhi zbk zot zer zen zpo zpi zgr zsh zsn d2 hR (by omega) (by omega)) hR.o rfl hl.1 (Nat.le_of_ble_eq_true rfl) dX11_acts_133 ⟨Nat.le_of_ble_eq_true rfl, Nat.le_of_ble_eq_true rfl⟩ ⟨Nat.le_of_ble_eq_true rfl, Nat.le_of_ble_eq_true rfl⟩ hS (by have hz9 := hS.1; rintro q (h | h) <;> first | exact Or.inr (by omega) | exact h.elim | exact Or.inl h | (simp only [ftA] at h ⊢; omega)) (fun v H1 locs hpo hfr hS => ?_)
          obtain ⟨rfl, hR⟩ := hpo
          generalize H1 = H at hfr hS hR ⊢
          refine W.widen (k := 0) (n := 0) (Nat.le_of_ble_eq_true rfl) (Nat.le_of_ble_eq_true rfl) ?_
          refine lv_pop hx hb dX11_acts_136 rfl ?_
          refine lv_iconst (v := nI 1) hx hb dX11_acts_137 (by decide) ?_
          refine mh_zret hB ⟨Nat.le_of_ble_eq_true rfl, Nat.le_of_ble_eq_true rfl⟩ hS dX11_acts_138 (by first | rfl | decide | (split <;> rfl)) ⟨?_, zsh, ?_⟩
          · rw [show actB zq 3 d2 d3 d4 = true from by (simp only [actB, decide_eq_true_eq]; omega)]; rfl
          · rw [actQ_t (show actB zq 3 d2 d3 d4 = true from by (simp only [actB, decide_eq_true_eq]; omega))]; exact hR
        · skip
          refine lv_iconst (v := nI 0) hx hb dX11_acts_129 (by decide) ?_
          refine mh_zret hB ⟨Nat.le_of_ble_eq_true rfl, Nat.le_of_ble_eq_true rfl⟩ hS dX11_acts_130 (by first | rfl | decide | (split <;> rfl)) ⟨?_, zsh, ?_⟩
          · rw [show actB zq 3 d2 d3 d4 = false from by (simp only [actB, decide_eq_false_iff_not]; omega)]; rfl
          · rw [actQ_f (show actB zq 3 d2 d3 d4 = false from by (simp only [actB, decide_eq_false_iff_not]; omega))]; exact hR
  · skip
    refine lv_tableIn (tgt := 139) (off := 129) hx hb dX11_acts_10 (by decide) (by decide) (by decide) (by decide) ?_
    refine lv_iload_n hx hb dX11_acts_139 rfl (lv_at hl 3 rfl) ?_
    refine cl_X11_175 (As := [.int (nI d2)]) (rest := []) hB (c_X11_isFrame l g H0 (nI d2)) rfl hl.1 (Nat.le_of_ble_eq_true rfl) dX11_acts_140 ⟨Nat.le_of_ble_eq_true rfl, Nat.le_of_ble_eq_true rfl⟩ ⟨Nat.le_of_ble_eq_true rfl, Nat.le_of_ble_eq_true rfl⟩ hS (by have hz9 := hS.1; rintro q (h | h) <;> first | exact Or.inr (by omega) | exact h.elim | exact Or.inl h | (simp only [ftA] at h ⊢; omega)) (fun v H1 locs hpo hfr hS => ?_)
    obtain ⟨rfl, rfl⟩ := hpo
    refine W.widen (k := 0) (n := 0) (Nat.le_of_ble_eq_true rfl) (Nat.le_of_ble_eq_true rfl) ?_
    refine mh_top (y := .int (bI (decide (d2 < 3)))) (by rw [isIx_nI (by omega)]) ?_
    refine mb_if_eq (tgt := 154) hB dX11_acts_143 (by decide) (fun h_143 => ?_) (fun h_143 => ?_)
    · skip
      have h_143 := of_decide_eq_false h_143
      refine lv_iconst (v := nI 0) hx hb dX11_acts_154 (by decide) ?_
      refine mh_zret hB ⟨Nat.le_of_ble_eq_true rfl, Nat.le_of_ble_eq_true rfl⟩ hS dX11_acts_155 (by first | rfl | decide | (split <;> rfl)) ⟨?_, zsh, ?_⟩
      · rw [show actB zq 4 d2 d3 d4 = false from by (simp only [actB, decide_eq_false_iff_not]; omega)]; rfl
      · rw [actQ_f (show actB zq 4 d2 d3 d4 = false from by (simp only [actB, decide_eq_false_iff_not]; omega))]; exact hR
    · skip
      have h_143 := of_decide_eq_true h_143
      refine lv_aload_n hx hb dX11_acts_146 rfl (lv_at hl 1 rfl) ?_
      refine lv_iload_n hx hb dX11_acts_147 rfl (lv_at hl 3 rfl) ?_
      refine cl_X11_235 (As := [.int (nI d2)]) (rest := []) hB (c_X11_isFinished l g H0 r zq zsp zrm zst zsl zsv ztx zln zth zsg zbg zwd zhg zin zop zbe zwi zhi zbk zot zer zen zpo zpi zgr zsh zsn d2 hR (by omega) (hW.fr (by omega))) hR.o rfl hl.1 (Nat.le_of_ble_eq_true rfl) dX11_acts_148 ⟨Nat.le_of_ble_eq_true rfl, Nat.le_of_ble_eq_true rfl⟩ ⟨Nat.le_of_ble_eq_true rfl, Nat.le_of_ble_eq_true rfl⟩ hS (by have hz9 := hS.1; rintro q (h | h) <;> first | exact Or.inr (by omega) | exact h.elim | exact Or.inl h | (simp only [ftA] at h ⊢; omega)) (fun v H1 locs hpo hfr hS => ?_)
      obtain ⟨rfl, rfl⟩ := hpo
      refine W.widen (k := 0) (n := 0) (Nat.le_of_ble_eq_true rfl) (Nat.le_of_ble_eq_true rfl) ?_
      refine mb_if_ne (tgt := 156) hB dX11_acts_151 (by decide) (fun h_151 => ?_) (fun h_151 => ?_)
      · skip
        have h_151 := of_decide_eq_true h_151
        refine lv_aload_n hx hb dX11_acts_156 rfl (lv_at hl 1 rfl) ?_
        refine lv_iload_n hx hb dX11_acts_157 rfl (lv_at hl 3 rfl) ?_
        refine lv_iload hx hb dX11_acts_158 (lv_at hl 0 rfl) ?_
        refine cl_X11_238 (As := [.int (nI d2), .int (nI ((10 * d3) + d4))]) (rest := []) hB (c_X11_raffles l g H0 r zq zsp zrm zst zsl zsv ztx zln zth zsg zbg zwd zhg zin zop zbe zwi zhi zbk zot zer zen zpo zpi zgr zsh zsn d2 ((10 * d3) + d4) hR (by omega) (by omega) (by omega) (by omega)) hR.o rfl hl.1 (Nat.le_of_ble_eq_true rfl) dX11_acts_160 ⟨Nat.le_of_ble_eq_true rfl, Nat.le_of_ble_eq_true rfl⟩ ⟨Nat.le_of_ble_eq_true rfl, Nat.le_of_ble_eq_true rfl⟩ hS (by have hz9 := hS.1; rintro q (h | h) <;> first | exact Or.inr (by omega) | exact h.elim | exact Or.inl h | (simp only [ftA] at h ⊢; omega)) (fun v H1 locs hpo hfr hS => ?_)
        obtain ⟨rfl, hR⟩ := hpo
        generalize H1 = H at hfr hS hR ⊢
        refine W.widen (k := 0) (n := 0) (Nat.le_of_ble_eq_true rfl) (Nat.le_of_ble_eq_true rfl) ?_
        refine lv_pop hx hb dX11_acts_163 rfl ?_
        refine lv_iconst (v := nI 1) hx hb dX11_acts_164 (by decide) ?_
        refine mh_zret hB ⟨Nat.le_of_ble_eq_true rfl, Nat.le_of_ble_eq_true rfl⟩ hS dX11_acts_165 (by first | rfl | decide | (split <;> rfl)) ⟨?_, (lowOf (shrQ zq d2 ((10 * d3) + d4)) (lowOf (shr1 zq d2 ((10 * d3) + d4)) zsh 5) 5), ?_⟩
        · rw [show actB zq 4 d2 d3 d4 = true from by (simp only [actB, decide_eq_true_eq]; omega)]; rfl
        · rw [actQ_t (show actB zq 4 d2 d3 d4 = true from by (simp only [actB, decide_eq_true_eq]; omega))]; exact hR
      · skip
        have h_151 := of_decide_eq_false h_151
        refine lv_iconst (v := nI 0) hx hb dX11_acts_154 (by decide) ?_
        refine mh_zret hB ⟨Nat.le_of_ble_eq_true rfl, Nat.le_of_ble_eq_true rfl⟩ hS dX11_acts_155 (by first | rfl | decide | (split <;> rfl)) ⟨?_, zsh, ?_⟩
        · rw [show actB zq 4 d2 d3 d4 = false from by (simp only [actB, decide_eq_false_iff_not]; omega)]; rfl
        · rw [actQ_f (show actB zq 4 d2 d3 d4 = false from by (simp only [actB, decide_eq_false_iff_not]; omega))]; exact hR
  · skip
    refine lv_tableIn (tgt := 166) (off := 156) hx hb dX11_acts_10 (by decide) (by decide) (by decide) (by decide) ?_
    refine lv_iload_n hx hb dX11_acts_166 rfl (lv_at hl 3 rfl) ?_
    refine lv_iload hx hb dX11_acts_167 (lv_at hl 0 rfl) ?_
    refine mn_iadd hB dX11_acts_169 ?_
    refine mn_if_le (tgt := 175) hB dX11_acts_170 (by decide) (by omega) (fun h_170 => ?_) (fun h_170 => ?_)
    · skip
      refine lv_aload_n hx hb dX11_acts_175 rfl (lv_at hl 1 rfl) ?_
      refine cl_X11_241 (As := []) (rest := []) hB (c_X11_returns l g H0 r zq zsp zrm zst zsl zsv ztx zln zth zsg zbg zwd zhg zin zop zbe zwi zhi zbk zot zer zen zpo zpi zgr zsh zsn hR) hR.o rfl hl.1 (Nat.le_of_ble_eq_true rfl) dX11_acts_176 ⟨Nat.le_of_ble_eq_true rfl, Nat.le_of_ble_eq_true rfl⟩ ⟨Nat.le_of_ble_eq_true rfl, Nat.le_of_ble_eq_true rfl⟩ hS (by have hz9 := hS.1; rintro q (h | h) <;> first | exact Or.inr (by omega) | exact h.elim | exact Or.inl h | (simp only [ftA] at h ⊢; omega)) (fun v H1 locs hpo hfr hS => ?_)
      obtain ⟨rfl, hR⟩ := hpo
      generalize H1 = H at hfr hS hR ⊢
      refine W.widen (k := 0) (n := 0) (Nat.le_of_ble_eq_true rfl) (Nat.le_of_ble_eq_true rfl) ?_
      refine lv_pop hx hb dX11_acts_179 rfl ?_
      refine lv_iconst (v := nI 1) hx hb dX11_acts_180 (by decide) ?_
      refine mh_zret hB ⟨Nat.le_of_ble_eq_true rfl, Nat.le_of_ble_eq_true rfl⟩ hS dX11_acts_181 (by first | rfl | decide | (split <;> rfl)) ⟨?_, zsh, ?_⟩
      · rw [show actB zq 5 d2 d3 d4 = true from by (simp only [actB, decide_eq_true_eq]; omega)]; rfl
      · rw [actQ_t (show actB zq 5 d2 d3 d4 = true from by (simp only [actB, decide_eq_true_eq]; omega))]; exact hR
    · skip
      refine lv_iconst (v := nI 0) hx hb dX11_acts_173 (by decide) ?_
      refine mh_zret hB ⟨Nat.le_of_ble_eq_true rfl, Nat.le_of_ble_eq_true rfl⟩ hS dX11_acts_174 (by first | rfl | decide | (split <;> rfl)) ⟨?_, zsh, ?_⟩
      · rw [show actB zq 5 d2 d3 d4 = false from by (simp only [actB, decide_eq_false_iff_not]; omega)]; rfl
      · rw [actQ_f (show actB zq 5 d2 d3 d4 = false from by (simp only [actB, decide_eq_false_iff_not]; omega))]; exact hR
  · skip
    refine lv_tableOut (tgt := 182) hx hb dX11_acts_10 (by decide) (by decide) ?_
    refine lv_iload_n hx hb dX11_acts_182 rfl (lv_at hl 3 rfl) ?_
    refine cl_X11_175 (As := [.int (nI d2)]) (rest := []) hB (c_X11_isFrame l g H0 (nI d2)) rfl hl.1 (Nat.le_of_ble_eq_true rfl) dX11_acts_183 ⟨Nat.le_of_ble_eq_true rfl, Nat.le_of_ble_eq_true rfl⟩ ⟨Nat.le_of_ble_eq_true rfl, Nat.le_of_ble_eq_true rfl⟩ hS (by have hz9 := hS.1; rintro q (h | h) <;> first | exact Or.inr (by omega) | exact h.elim | exact Or.inl h | (simp only [ftA] at h ⊢; omega)) (fun v H1 locs hpo hfr hS => ?_)
    obtain ⟨rfl, rfl⟩ := hpo
    refine W.widen (k := 0) (n := 0) (Nat.le_of_ble_eq_true rfl) (Nat.le_of_ble_eq_true rfl) ?_
    refine mh_top (y := .int (bI (decide (d2 < 3)))) (by rw [isIx_nI (by omega)]) ?_
    refine mb_if_eq (tgt := 212) hB dX11_acts_186 (by decide) (fun h_186 => ?_) (fun h_186 => ?_)
    · skip
      have h_186 := of_decide_eq_false h_186
      refine lv_iconst (v := nI 0) hx hb dX11_acts_212 (by decide) ?_
      refine mh_zret hB ⟨Nat.le_of_ble_eq_true rfl, Nat.le_of_ble_eq_true rfl⟩ hS dX11_acts_213 (by first | rfl | decide | (split <;> rfl)) ⟨?_, zsh, ?_⟩
      · rw [show actB zq 6 d2 d3 d4 = false from by (simp only [actB, decide_eq_false_iff_not]; omega)]; rfl
      · rw [actQ_f (show actB zq 6 d2 d3 d4 = false from by (simp only [actB, decide_eq_false_iff_not]; omega))]; exact hR
    · skip
      have h_186 := of_decide_eq_true h_186
      refine lv_iload_n hx hb dX11_acts_189 rfl (lv_at hl 4 rfl) ?_
      refine cl_X11_153 (As := [.int (nI d3)]) (rest := []) hB (c_X11_isColour l g H0 (nI d3)) rfl hl.1 (Nat.le_of_ble_eq_true rfl) dX11_acts_190 ⟨Nat.le_of_ble_eq_true rfl, Nat.le_of_ble_eq_true rfl⟩ ⟨Nat.le_of_ble_eq_true rfl, Nat.le_of_ble_eq_true rfl⟩ hS (by have hz9 := hS.1; rintro q (h | h) <;> first | exact Or.inr (by omega) | exact h.elim | exact Or.inl h | (simp only [ftA] at h ⊢; omega)) (fun v H1 locs hpo hfr hS => ?_)
      obtain ⟨rfl, rfl⟩ := hpo
      refine W.widen (k := 0) (n := 0) (Nat.le_of_ble_eq_true rfl) (Nat.le_of_ble_eq_true rfl) ?_
      refine mh_top (y := .int (bI (decide (d3 < 6)))) (by rw [isIx_nI (by omega)]) ?_
      refine mb_if_eq (tgt := 212) hB dX11_acts_193 (by decide) (fun h_193 => ?_) (fun h_193 => ?_)
      · skip
        have h_193 := of_decide_eq_false h_193
        refine lv_iconst (v := nI 0) hx hb dX11_acts_212 (by decide) ?_
        refine mh_zret hB ⟨Nat.le_of_ble_eq_true rfl, Nat.le_of_ble_eq_true rfl⟩ hS dX11_acts_213 (by first | rfl | decide | (split <;> rfl)) ⟨?_, zsh, ?_⟩
        · rw [show actB zq 6 d2 d3 d4 = false from by (simp only [actB, decide_eq_false_iff_not]; omega)]; rfl
        · rw [actQ_f (show actB zq 6 d2 d3 d4 = false from by (simp only [actB, decide_eq_false_iff_not]; omega))]; exact hR
      · skip
        have h_193 := of_decide_eq_true h_193
        refine lv_iload hx hb dX11_acts_196 (lv_at hl 5 rfl) ?_
        refine cl_X11_153 (As := [.int (nI d4)]) (rest := []) hB (c_X11_isColour l g H0 (nI d4)) rfl hl.1 (Nat.le_of_ble_eq_true rfl) dX11_acts_198 ⟨Nat.le_of_ble_eq_true rfl, Nat.le_of_ble_eq_true rfl⟩ ⟨Nat.le_of_ble_eq_true rfl, Nat.le_of_ble_eq_true rfl⟩ hS (by have hz9 := hS.1; rintro q (h | h) <;> first | exact Or.inr (by omega) | exact h.elim | exact Or.inl h | (simp only [ftA] at h ⊢; omega)) (fun v H1 locs hpo hfr hS => ?_)
        obtain ⟨rfl, rfl⟩ := hpo
        refine W.widen (k := 0) (n := 0) (Nat.le_of_ble_eq_true rfl) (Nat.le_of_ble_eq_true rfl) ?_
        refine mh_top (y := .int (bI (decide (d4 < 6)))) (by rw [isIx_nI (by omega)]) ?_
        refine mb_if_eq (tgt := 212) hB dX11_acts_201 (by decide) (fun h_201 => ?_) (fun h_201 => ?_)
        · skip
          have h_201 := of_decide_eq_false h_201
          refine lv_iconst (v := nI 0) hx hb dX11_acts_212 (by decide) ?_
          refine mh_zret hB ⟨Nat.le_of_ble_eq_true rfl, Nat.le_of_ble_eq_true rfl⟩ hS dX11_acts_213 (by first | rfl | decide | (split <;> rfl)) ⟨?_, zsh, ?_⟩
          · rw [show actB zq 6 d2 d3 d4 = false from by (simp only [actB, decide_eq_false_iff_not]; omega)]; rfl
          · rw [actQ_f (show actB zq 6 d2 d3 d4 = false from by (simp only [actB, decide_eq_false_iff_not]; omega))]; exact hR
        · skip
          have h_201 := of_decide_eq_true h_201
          refine lv_aload_n hx hb dX11_acts_204 rfl (lv_at hl 1 rfl) ?_
          refine lv_iload_n hx hb dX11_acts_205 rfl (lv_at hl 3 rfl) ?_
          refine cl_X11_209 (As := [.int (nI d2)]) (rest := []) hB (c_X11_canRecolour l g H0 r zq zsp zrm zst zsl zsv ztx zln zth zsg zbg zwd zhg zin zop zbe zwi zhi zbk zot zer zen zpo zpi zgr zsh zsn d2 hR (by omega) (hW.fr (by omega))) hR.o rfl hl.1 (Nat.le_of_ble_eq_true rfl) dX11_acts_206 ⟨Nat.le_of_ble_eq_true rfl, Nat.le_of_ble_eq_true rfl⟩ ⟨Nat.le_of_ble_eq_true rfl, Nat.le_of_ble_eq_true rfl⟩ hS (by have hz9 := hS.1; rintro q (h | h) <;> first | exact Or.inr (by omega) | exact h.elim | exact Or.inl h | (simp only [ftA] at h ⊢; omega)) (fun v H1 locs hpo hfr hS => ?_)
          obtain ⟨rfl, rfl⟩ := hpo
          refine W.widen (k := 0) (n := 0) (Nat.le_of_ble_eq_true rfl) (Nat.le_of_ble_eq_true rfl) ?_
          refine mb_if_ne (tgt := 214) hB dX11_acts_209 (by decide) (fun h_209 => ?_) (fun h_209 => ?_)
          · skip
            have h_209 := of_decide_eq_true h_209
            refine lv_aload_n hx hb dX11_acts_214 rfl (lv_at hl 1 rfl) ?_
            refine lv_iload_n hx hb dX11_acts_215 rfl (lv_at hl 3 rfl) ?_
            refine lv_iload_n hx hb dX11_acts_216 rfl (lv_at hl 4 rfl) ?_
            refine lv_iload hx hb dX11_acts_217 (lv_at hl 5 rfl) ?_
            refine cl_X11_212 (As := [.int (nI d2), .int (nI d3), .int (nI d4)]) (rest := []) hB (c_X11_recolours l g H0 r zq zsp zrm zst zsl zsv ztx zln zth zsg zbg zwd zhg zin zop zbe zwi zhi zbk zot zer zen zpo zpi zgr zsh zsn d2 d3 d4 hR (by omega) (by omega) (by omega) (by omega)) hR.o rfl hl.1 (Nat.le_of_ble_eq_true rfl) dX11_acts_219 ⟨Nat.le_of_ble_eq_true rfl, Nat.le_of_ble_eq_true rfl⟩ ⟨Nat.le_of_ble_eq_true rfl, Nat.le_of_ble_eq_true rfl⟩ hS (by have hz9 := hS.1; rintro q (h | h) <;> first | exact Or.inr (by omega) | exact h.elim | exact Or.inl h | (simp only [ftA] at h ⊢; omega)) (fun v H1 locs hpo hfr hS => ?_)
            obtain ⟨rfl, hR⟩ := hpo
            generalize H1 = H at hfr hS hR ⊢
            refine W.widen (k := 0) (n := 0) (Nat.le_of_ble_eq_true rfl) (Nat.le_of_ble_eq_true rfl) ?_
            refine lv_pop hx hb dX11_acts_222 rfl ?_
            refine lv_iconst (v := nI 1) hx hb dX11_acts_223 (by decide) ?_
            refine mh_zret hB ⟨Nat.le_of_ble_eq_true rfl, Nat.le_of_ble_eq_true rfl⟩ hS dX11_acts_224 (by first | rfl | decide | (split <;> rfl)) ⟨?_, zsh, ?_⟩
            · rw [show actB zq 6 d2 d3 d4 = true from by (simp only [actB, decide_eq_true_eq]; omega)]; rfl
            · rw [actQ_t (show actB zq 6 d2 d3 d4 = true from by (simp only [actB, decide_eq_true_eq]; omega))]; exact hR
          · skip
            have h_209 := of_decide_eq_false h_209
            refine lv_iconst (v := nI 0) hx hb dX11_acts_212 (by decide) ?_
            refine mh_zret hB ⟨Nat.le_of_ble_eq_true rfl, Nat.le_of_ble_eq_true rfl⟩ hS dX11_acts_213 (by first | rfl | decide | (split <;> rfl)) ⟨?_, zsh, ?_⟩
            · rw [show actB zq 6 d2 d3 d4 = false from by (simp only [actB, decide_eq_false_iff_not]; omega)]; rfl
            · rw [actQ_f (show actB zq 6 d2 d3 d4 = false from by (simp only [actB, decide_eq_false_iff_not]; omega))]; exact hR

def rm_c_X11_succeeds : Room := { frames := 6, cells := 0, slots := 0, locals := 140 }
set_option maxRecDepth 100000 in
set_option maxHeartbeats 400000 in
theorem c_X11_succeeds (l : Launch) (g : GG) (H0 : Heap) (r : Nat) (zq : Nat → Int32) (zsp : Nat → Int32) (zrm : Nat → Int32) (zst : Int32) (zsl : Nat → Int32) (zsv : Nat → Int32) (ztx : Nat → Int32) (zln : Int32) (zth : Int32) (zsg : Nat → Int32) (zbg : Nat → Int32) (zwd : Nat → Int32) (zhg : Nat → Int32) (zin : Nat → Int32) (zop : Int32) (zbe : Int32) (zwi : Int32) (zhi : Int32) (zbk : Nat → Int32) (zot : Nat → Int32) (zer : Int32) (zen : Int32) (zpo : Nat → Int32) (zpi : Int32) (zgr : Int32) (zsh : Nat → Int32) (zsn : Int32) (g0 : Nat) (hR : ModAt g r zq zsp zrm zst zsl zsv ztx zln zth zsg zbg zwd zhg zin zop zbe zwi zhi zbk zot zer zen zpo zpi zgr zsh zsn H0) (hW : WF zq) (hg : g0 < 10000) : Ct l yX11_succeeds cX11_succeeds 5 (some .boolean) rm_c_X11_succeeds g [.ref r, .int (nI g0)] H0 (ftA (fun q => r ≤ q ∧ q < r + 16) H0.size) (fun v H1 => v = some (.int (bI (cmdB zq g0))) ∧ ∃ (zsh2 : Nat → Int32), ModAt g r (cmdQ zq g0) zsp zrm zst zsl zsv ztx zln zth zsg zbg zwd zhg zin zop zbe zwi zhi zbk zot zer zen zpo zpi zgr zsh2 zsn H1) := by
  refine Ct.of (by decide) (fun _ h => Or.inr h) (Nat.le_of_ble_eq_true rfl) ?_
  intro p e s m below meth c ls hB hin hS hH hl
  have hx := hB.x
  have hb := hB.b
  have hl : lv_has ls 5 [(0, .ref r), (1, .int (nI g0))] := hl
  have hnm := hW.2.2.1
  refine lv_iload_n hx hb dX11_succeeds_0 rfl (lv_at hl 1 rfl) ?_
  refine lv_sipush (v := nI 1000) hx hb dX11_succeeds_1 (by decide +kernel) ?_
  refine mn_idiv hB dX11_succeeds_4 (by omega) (by omega) (by omega) ?_
  refine lv_istore_n (lv' := [(2, .int (nI (g0 / 1000))), (0, .ref r), (1, .int (nI g0))]) hx hb dX11_succeeds_5 rfl hl (by decide) rfl (fun ls hl => ?_)
  refine lv_iload_n hx hb dX11_succeeds_6 rfl (lv_at hl 2 rfl) ?_
  refine lv_bipush (v := nI 100) hx hb dX11_succeeds_7 (by decide) ?_
  refine mn_idiv hB dX11_succeeds_9 (by omega) (by omega) (by omega) ?_
  refine lv_bipush (v := nI 10) hx hb dX11_succeeds_10 (by decide) ?_
  refine mn_irem hB dX11_succeeds_12 (by omega) (by omega) (by omega) ?_
  refine lv_istore_n (lv' := [(3, .int (nI ((g0 / 100) % 10))), (2, .int (nI (g0 / 1000))), (0, .ref r), (1, .int (nI g0))]) hx hb dX11_succeeds_13 rfl hl (by decide) rfl (fun ls hl => ?_)
  refine lv_iload_n hx hb dX11_succeeds_14 rfl (lv_at hl 3 rfl) ?_
  refine lv_bipush (v := nI 100) hx hb dX11_succeeds_15 (by decide) ?_
  refine mn_irem hB dX11_succeeds_17 (by omega) (by omega) (by omega) ?_
  refine lv_istore (lv' := [(4, .int (nI (g0 % 100))), (3, .int (nI ((g0 / 100) % 10))), (2, .int (nI (g0 / 1000))), (0, .ref r), (1, .int (nI g0))]) hx hb dX11_succeeds_18 hl (by decide) rfl (fun ls hl => ?_)
  refine lv_iload_n hx hb dX11_succeeds_20 rfl (lv_at hl 2 rfl) ?_
  refine lv_i2l (v := (nI (g0 / 1000)).toInt64) hx hb dX11_succeeds_21 rfl ?_
  refine lv_lconst (v := 1) hx hb dX11_succeeds_22 (by decide) ?_
  refine lv_ldc2 (v := (6)) hx hb hB.ow (hB.K.2 _ kw_1165 _) dX11_succeeds_23 ?_
  refine cl_X11_63 (As := [.long ((nI (g0 / 1000)).toInt64), .long 1, .long (6)]) (rest := []) hB (c_X11_in l g H0 ((nI (g0 / 1000)).toInt64) 1 (6)) rfl hl.1 (Nat.le_of_ble_eq_true rfl) dX11_succeeds_26 ⟨Nat.le_of_ble_eq_true rfl, Nat.le_of_ble_eq_true rfl⟩ ⟨Nat.le_of_ble_eq_true rfl, Nat.le_of_ble_eq_true rfl⟩ hS (by have hz9 := hS.1; rintro q (h | h) <;> first | exact Or.inr (by omega) | exact h.elim | exact Or.inl h | (simp only [ftA] at h ⊢; omega)) (fun v H1 locs hpo hfr hS => ?_)
  obtain ⟨rfl, rfl⟩ := hpo
  refine W.widen (k := 0) (n := 0) (Nat.le_of_ble_eq_true rfl) (Nat.le_of_ble_eq_true rfl) ?_
  refine mh_top (y := .int (bI (cmdA g0))) (by rw [inL_16 (by omega)]; rfl) ?_
  refine mb_if_eq (tgt := 49) hB dX11_succeeds_29 (by decide) (fun h_29 => ?_) (fun h_29 => ?_)
  · skip
    refine lv_iload_n hx hb dX11_succeeds_49 rfl (lv_at hl 2 rfl) ?_
    refine lv_bipush (v := nI 7) hx hb dX11_succeeds_50 (by decide) ?_
    refine mn_icmp_ne (tgt := 83) hB dX11_succeeds_52 (by decide) (by omega) (by omega) (fun h_52 => ?_) (fun h_52 => ?_)
    · skip
      refine lv_iload_n hx hb dX11_succeeds_83 rfl (lv_at hl 2 rfl) ?_
      refine lv_bipush (v := nI 8) hx hb dX11_succeeds_84 (by decide) ?_
      refine mn_icmp_ne (tgt := 116) hB dX11_succeeds_86 (by decide) (by omega) (by omega) (fun h_86 => ?_) (fun h_86 => ?_)
      · skip
        refine lv_iload_n hx hb dX11_succeeds_116 rfl (lv_at hl 2 rfl) ?_
        refine lv_bipush (v := nI 9) hx hb dX11_succeeds_117 (by decide) ?_
        refine mn_icmp_ne (tgt := 148) hB dX11_succeeds_119 (by decide) (by omega) (by omega) (fun h_119 => ?_) (fun h_119 => ?_)
        · skip
          refine lv_iconst (v := nI 0) hx hb dX11_succeeds_148 (by decide) ?_
          refine mh_zret hB ⟨Nat.le_of_ble_eq_true rfl, Nat.le_of_ble_eq_true rfl⟩ hS dX11_succeeds_149 (by first | rfl | decide | (split <;> rfl)) ⟨?_, zsh, ?_⟩
          · rw [cmd9 h_29 h_52 h_86]; first | (rw [decide_eq_true (by refine ⟨by omega, by omega, ?_⟩; assumption)]; rfl) | (rw [decide_eq_false (by rintro ⟨z7, z8, z9⟩; first | exact z9 (by assumption) | omega)]; rfl)
          · rw [cmdQ_f h_29]; exact hR
        · skip
          refine lv_aload_n hx hb dX11_succeeds_122 rfl (lv_at hl 3 rfl) ?_
          refine lv_iload_n hx hb dX11_succeeds_123 rfl (lv_at hl 1 rfl) ?_
          refine cl_X11_145 (As := [.int (nI ((g0 / 100) % 10))]) (rest := []) hB (c_X11_isMember l g H0 r zq zsp zrm zst zsl zsv ztx zln zth zsg zbg zwd zhg zin zop zbe zwi zhi zbk zot zer zen zpo zpi zgr zsh zsn (nI ((g0 / 100) % 10)) hR (by omega)) hR.o rfl hl.1 (Nat.le_of_ble_eq_true rfl) dX11_succeeds_124 ⟨Nat.le_of_ble_eq_true rfl, Nat.le_of_ble_eq_true rfl⟩ ⟨Nat.le_of_ble_eq_true rfl, Nat.le_of_ble_eq_true rfl⟩ hS (by have hz9 := hS.1; rintro q (h | h) <;> first | exact Or.inr (by omega) | exact h.elim | exact Or.inl h | (simp only [ftA] at h ⊢; omega)) (fun v H1 locs hpo hfr hS => ?_)
          obtain ⟨rfl, rfl⟩ := hpo
          refine W.widen (k := 0) (n := 0) (Nat.le_of_ble_eq_true rfl) (Nat.le_of_ble_eq_true rfl) ?_
          refine mh_top (y := .int (bI (decide (g0 / 100 % 10 < nmQ zq)))) (by rw [isIx_nI (by omega)]) ?_
          refine mb_if_eq (tgt := 148) hB dX11_succeeds_127 (by decide) (fun h_127 => ?_) (fun h_127 => ?_)
          · skip
            have h_127 := of_decide_eq_false h_127
            refine lv_iconst (v := nI 0) hx hb dX11_succeeds_148 (by decide) ?_
            refine mh_zret hB ⟨Nat.le_of_ble_eq_true rfl, Nat.le_of_ble_eq_true rfl⟩ hS dX11_succeeds_149 (by first | rfl | decide | (split <;> rfl)) ⟨?_, zsh, ?_⟩
            · rw [cmd9 h_29 h_52 h_86]; first | (rw [decide_eq_true (by refine ⟨by omega, by omega, ?_⟩; assumption)]; rfl) | (rw [decide_eq_false (by rintro ⟨z7, z8, z9⟩; first | exact z9 (by assumption) | omega)]; rfl)
            · rw [cmdQ_f h_29]; exact hR
          · skip
            have h_127 := of_decide_eq_true h_127
            refine lv_aload_n hx hb dX11_succeeds_130 rfl (lv_at hl 3 rfl) ?_
            refine gf_X11_7 hB hR.o rfl dX11_succeeds_131 ?_
            refine lv_bipush (v := nI 10) hx hb dX11_succeeds_134 (by decide) ?_
            refine lv_iload_n hx hb dX11_succeeds_136 rfl (lv_at hl 1 rfl) ?_
            refine mn_iadd hB dX11_succeeds_137 ?_
            refine mn_iald hB hR.a_zq (by omega) (by omega) dX11_succeeds_138 ?_
            refine lv_iload hx hb dX11_succeeds_139 (lv_at hl 0 rfl) ?_
            refine lv_icmp_lt (tgt := 148) hx hb dX11_succeeds_141 (by decide) (fun h_141 => ?_) (fun h_141 => ?_)
            · skip
              refine lv_iconst (v := nI 0) hx hb dX11_succeeds_148 (by decide) ?_
              refine mh_zret hB ⟨Nat.le_of_ble_eq_true rfl, Nat.le_of_ble_eq_true rfl⟩ hS dX11_succeeds_149 (by first | rfl | decide | (split <;> rfl)) ⟨?_, zsh, ?_⟩
              · rw [cmd9 h_29 h_52 h_86]; first | (rw [decide_eq_true (by refine ⟨by omega, by omega, ?_⟩; assumption)]; rfl) | (rw [decide_eq_false (by rintro ⟨z7, z8, z9⟩; first | exact z9 (by assumption) | omega)]; rfl)
              · rw [cmdQ_f h_29]; exact hR
            · skip
              refine lv_iconst (v := nI 1) hx hb dX11_succeeds_144 (by decide) ?_
              refine lv_goto (tgt := 149) hx hb dX11_succeeds_145 (by decide) ?_
              refine mh_zret hB ⟨Nat.le_of_ble_eq_true rfl, Nat.le_of_ble_eq_true rfl⟩ hS dX11_succeeds_149 (by first | rfl | decide | (split <;> rfl)) ⟨?_, zsh, ?_⟩
              · rw [cmd9 h_29 h_52 h_86]; first | (rw [decide_eq_true (by refine ⟨by omega, by omega, ?_⟩; assumption)]; rfl) | (rw [decide_eq_false (by rintro ⟨z7, z8, z9⟩; first | exact z9 (by assumption) | omega)]; rfl)
              · rw [cmdQ_f h_29]; exact hR
      · skip
        refine lv_iload_n hx hb dX11_succeeds_89 rfl (lv_at hl 1 rfl) ?_
        refine cl_X11_153 (As := [.int (nI ((g0 / 100) % 10))]) (rest := []) hB (c_X11_isColour l g H0 (nI ((g0 / 100) % 10))) rfl hl.1 (Nat.le_of_ble_eq_true rfl) dX11_succeeds_90 ⟨Nat.le_of_ble_eq_true rfl, Nat.le_of_ble_eq_true rfl⟩ ⟨Nat.le_of_ble_eq_true rfl, Nat.le_of_ble_eq_true rfl⟩ hS (by have hz9 := hS.1; rintro q (h | h) <;> first | exact Or.inr (by omega) | exact h.elim | exact Or.inl h | (simp only [ftA] at h ⊢; omega)) (fun v H1 locs hpo hfr hS => ?_)
        obtain ⟨rfl, rfl⟩ := hpo
        refine W.widen (k := 0) (n := 0) (Nat.le_of_ble_eq_true rfl) (Nat.le_of_ble_eq_true rfl) ?_
        refine mh_top (y := .int (bI (decide (g0 / 100 % 10 < 6)))) (by rw [isIx_nI (by omega)]) ?_
        refine mb_if_eq (tgt := 114) hB dX11_succeeds_93 (by decide) (fun h_93 => ?_) (fun h_93 => ?_)
        · skip
          have h_93 := of_decide_eq_false h_93
          refine lv_iconst (v := nI 0) hx hb dX11_succeeds_114 (by decide) ?_
          refine mh_zret hB ⟨Nat.le_of_ble_eq_true rfl, Nat.le_of_ble_eq_true rfl⟩ hS dX11_succeeds_115 (by first | rfl | decide | (split <;> rfl)) ⟨?_, zsh, ?_⟩
          · rw [cmd8 h_29 h_52 h_86]; first | (rw [decide_eq_true (by refine ⟨by omega, ?_⟩; assumption)]; rfl) | (rw [decide_eq_false (by rintro ⟨z8, z9⟩; first | exact z9 (by assumption) | omega)]; rfl)
          · rw [cmdQ_f h_29]; exact hR
        · skip
          have h_93 := of_decide_eq_true h_93
          refine lv_aload_n hx hb dX11_succeeds_96 rfl (lv_at hl 3 rfl) ?_
          refine gf_X11_7 hB hR.o rfl dX11_succeeds_97 ?_
          refine lv_bipush (v := nI 50) hx hb dX11_succeeds_100 (by decide) ?_
          refine lv_iload_n hx hb dX11_succeeds_102 rfl (lv_at hl 1 rfl) ?_
          refine mn_iadd hB dX11_succeeds_103 ?_
          refine mn_iald hB hR.a_zq (by omega) (by omega) dX11_succeeds_104 ?_
          refine lv_iload hx hb dX11_succeeds_105 (lv_at hl 0 rfl) ?_
          refine lv_icmp_lt (tgt := 114) hx hb dX11_succeeds_107 (by decide) (fun h_107 => ?_) (fun h_107 => ?_)
          · skip
            refine lv_iconst (v := nI 0) hx hb dX11_succeeds_114 (by decide) ?_
            refine mh_zret hB ⟨Nat.le_of_ble_eq_true rfl, Nat.le_of_ble_eq_true rfl⟩ hS dX11_succeeds_115 (by first | rfl | decide | (split <;> rfl)) ⟨?_, zsh, ?_⟩
            · rw [cmd8 h_29 h_52 h_86]; first | (rw [decide_eq_true (by refine ⟨by omega, ?_⟩; assumption)]; rfl) | (rw [decide_eq_false (by rintro ⟨z8, z9⟩; first | exact z9 (by assumption) | omega)]; rfl)
            · rw [cmdQ_f h_29]; exact hR
          · skip
            refine lv_iconst (v := nI 1) hx hb dX11_succeeds_110 (by decide) ?_
            refine lv_goto (tgt := 115) hx hb dX11_succeeds_111 (by decide) ?_
            refine mh_zret hB ⟨Nat.le_of_ble_eq_true rfl, Nat.le_of_ble_eq_true rfl⟩ hS dX11_succeeds_115 (by first | rfl | decide | (split <;> rfl)) ⟨?_, zsh, ?_⟩
            · rw [cmd8 h_29 h_52 h_86]; first | (rw [decide_eq_true (by refine ⟨by omega, ?_⟩; assumption)]; rfl) | (rw [decide_eq_false (by rintro ⟨z8, z9⟩; first | exact z9 (by assumption) | omega)]; rfl)
            · rw [cmdQ_f h_29]; exact hR
    · skip
      refine lv_iload_n hx hb dX11_succeeds_55 rfl (lv_at hl 1 rfl) ?_
      refine cl_X11_175 (As := [.int (nI ((g0 / 100) % 10))]) (rest := []) hB (c_X11_isFrame l g H0 (nI ((g0 / 100) % 10))) rfl hl.1 (Nat.le_of_ble_eq_true rfl) dX11_succeeds_56 ⟨Nat.le_of_ble_eq_true rfl, Nat.le_of_ble_eq_true rfl⟩ ⟨Nat.le_of_ble_eq_true rfl, Nat.le_of_ble_eq_true rfl⟩ hS (by have hz9 := hS.1; rintro q (h | h) <;> first | exact Or.inr (by omega) | exact h.elim | exact Or.inl h | (simp only [ftA] at h ⊢; omega)) (fun v H1 locs hpo hfr hS => ?_)
      obtain ⟨rfl, rfl⟩ := hpo
      refine W.widen (k := 0) (n := 0) (Nat.le_of_ble_eq_true rfl) (Nat.le_of_ble_eq_true rfl) ?_
      refine mh_top (y := .int (bI (decide (g0 / 100 % 10 < 3)))) (by rw [isIx_nI (by omega)]) ?_
      refine mb_if_eq (tgt := 81) hB dX11_succeeds_59 (by decide) (fun h_59 => ?_) (fun h_59 => ?_)
      · skip
        have h_59 := of_decide_eq_false h_59
        refine lv_iconst (v := nI 0) hx hb dX11_succeeds_81 (by decide) ?_
        refine mh_zret hB ⟨Nat.le_of_ble_eq_true rfl, Nat.le_of_ble_eq_true rfl⟩ hS dX11_succeeds_82 (by first | rfl | decide | (split <;> rfl)) ⟨?_, zsh, ?_⟩
        · rw [cmd7 h_29 h_52]; first | (rw [decide_eq_true (by omega)]; rfl) | (rw [decide_eq_false (by omega)]; rfl)
        · rw [cmdQ_f h_29]; exact hR
      · skip
        have h_59 := of_decide_eq_true h_59
        refine lv_aload_n hx hb dX11_succeeds_62 rfl (lv_at hl 3 rfl) ?_
        refine gf_X11_7 hB hR.o rfl dX11_succeeds_63 ?_
        refine lv_iload_n hx hb dX11_succeeds_66 rfl (lv_at hl 1 rfl) ?_
        refine lv_iconst (v := nI 2) hx hb dX11_succeeds_67 (by decide) ?_
        refine cl_X11_71 (As := [.int (nI ((g0 / 100) % 10)), .int (nI 2)]) (rest := [.ref (r + 1)]) hB (c_X11_at l g H0 ((g0 / 100) % 10) 2) rfl hl.1 (Nat.le_of_ble_eq_true rfl) dX11_succeeds_68 ⟨Nat.le_of_ble_eq_true rfl, Nat.le_of_ble_eq_true rfl⟩ ⟨Nat.le_of_ble_eq_true rfl, Nat.le_of_ble_eq_true rfl⟩ hS (by have hz9 := hS.1; rintro q (h | h) <;> first | exact Or.inr (by omega) | exact h.elim | exact Or.inl h | (simp only [ftA] at h ⊢; omega)) (fun v H1 locs hpo hfr hS => ?_)
        obtain ⟨rfl, rfl⟩ := hpo
        refine W.widen (k := 0) (n := 0) (Nat.le_of_ble_eq_true rfl) (Nat.le_of_ble_eq_true rfl) ?_
        refine mn_iald hB hR.a_zq (by omega) (by omega) dX11_succeeds_71 ?_
        refine mh_top (y := .int (nI (swF zq (g0 / 100 % 10)))) (by rw [(hW.fr (by omega)).s]) ?_
        refine lv_iload hx hb dX11_succeeds_72 (lv_at hl 0 rfl) ?_
        refine mn_icmp_lt (tgt := 81) hB dX11_succeeds_74 (by decide) (by have := WF.sw (hW.fr (f := g0 / 100 % 10) (by omega)); have := WF.sz (hW.fr (f := g0 / 100 % 10) (by omega)); omega) (by omega) (fun h_74 => ?_) (fun h_74 => ?_)
        · skip
          refine lv_iconst (v := nI 0) hx hb dX11_succeeds_81 (by decide) ?_
          refine mh_zret hB ⟨Nat.le_of_ble_eq_true rfl, Nat.le_of_ble_eq_true rfl⟩ hS dX11_succeeds_82 (by first | rfl | decide | (split <;> rfl)) ⟨?_, zsh, ?_⟩
          · rw [cmd7 h_29 h_52]; first | (rw [decide_eq_true (by omega)]; rfl) | (rw [decide_eq_false (by omega)]; rfl)
          · rw [cmdQ_f h_29]; exact hR
        · skip
          refine lv_iconst (v := nI 1) hx hb dX11_succeeds_77 (by decide) ?_
          refine lv_goto (tgt := 82) hx hb dX11_succeeds_78 (by decide) ?_
          refine mh_zret hB ⟨Nat.le_of_ble_eq_true rfl, Nat.le_of_ble_eq_true rfl⟩ hS dX11_succeeds_82 (by first | rfl | decide | (split <;> rfl)) ⟨?_, zsh, ?_⟩
          · rw [cmd7 h_29 h_52]; first | (rw [decide_eq_true (by omega)]; rfl) | (rw [decide_eq_false (by omega)]; rfl)
          · rw [cmdQ_f h_29]; exact hR
  · skip
    have hca : 1 ≤ g0 / 1000 ∧ g0 / 1000 ≤ 6 := of_decide_eq_true h_29
    refine lv_aload_n hx hb dX11_succeeds_32 rfl (lv_at hl 3 rfl) ?_
    refine lv_iload_n hx hb dX11_succeeds_33 rfl (lv_at hl 2 rfl) ?_
    refine lv_iload_n hx hb dX11_succeeds_34 rfl (lv_at hl 1 rfl) ?_
    refine lv_iload hx hb dX11_succeeds_35 (lv_at hl 0 rfl) ?_
    refine lv_bipush (v := nI 10) hx hb dX11_succeeds_37 (by decide) ?_
    refine mn_idiv hB dX11_succeeds_39 (by omega) (by omega) (by omega) ?_
    refine lv_iload hx hb dX11_succeeds_40 (lv_at hl 0 rfl) ?_
    refine lv_bipush (v := nI 10) hx hb dX11_succeeds_42 (by decide) ?_
    refine mn_irem hB dX11_succeeds_44 (by omega) (by omega) (by omega) ?_
    refine cl_X11_249 (As := [.int (nI (g0 / 1000)), .int (nI ((g0 / 100) % 10)), .int (nI ((g0 % 100) / 10)), .int (nI ((g0 % 100) % 10))]) (rest := []) hB (c_X11_acts l g H0 r zq zsp zrm zst zsl zsv ztx zln zth zsg zbg zwd zhg zin zop zbe zwi zhi zbk zot zer zen zpo zpi zgr zsh zsn (g0 / 1000) ((g0 / 100) % 10) ((g0 % 100) / 10) ((g0 % 100) % 10) hR (by omega) (by omega) (by omega) (by omega) (by omega) (by omega)) hR.o rfl hl.1 (Nat.le_of_ble_eq_true rfl) dX11_succeeds_45 ⟨Nat.le_of_ble_eq_true rfl, Nat.le_of_ble_eq_true rfl⟩ ⟨Nat.le_of_ble_eq_true rfl, Nat.le_of_ble_eq_true rfl⟩ hS (by have hz9 := hS.1; rintro q (h | h) <;> first | exact Or.inr (by omega) | exact h.elim | exact Or.inl h | (simp only [ftA] at h ⊢; omega)) (fun v H1 locs hpo hfr hS => ?_)
    obtain ⟨rfl, zsh2_1, hR⟩ := hpo
    generalize H1 = H at hfr hS hR ⊢
    refine W.widen (k := 0) (n := 0) (Nat.le_of_ble_eq_true rfl) (Nat.le_of_ble_eq_true rfl) ?_
    refine mh_zret hB ⟨Nat.le_of_ble_eq_true rfl, Nat.le_of_ble_eq_true rfl⟩ hS dX11_succeeds_48 (by cases actB zq (g0 / 1000) (g0 / 100 % 10) (g0 % 100 / 10) (g0 % 100 % 10) <;> rfl) ⟨?_, zsh2_1, ?_⟩
    · rw [(cmd6 h_29).1]
    · rw [(cmd6 h_29).2]; exact hR

def rm_c_X11_evening : Room := { frames := 5, cells := 0, slots := 0, locals := 115 }
set_option maxRecDepth 100000 in
set_option maxHeartbeats 400000 in
theorem c_X11_evening (l : Launch) (g : GG) (H0 : Heap) (r : Nat) (zq : Nat → Int32) (zsp : Nat → Int32) (zrm : Nat → Int32) (zst : Int32) (zsl : Nat → Int32) (zsv : Nat → Int32) (ztx : Nat → Int32) (zln : Int32) (zth : Int32) (zsg : Nat → Int32) (zbg : Nat → Int32) (zwd : Nat → Int32) (zhg : Nat → Int32) (zin : Nat → Int32) (zop : Int32) (zbe : Int32) (zwi : Int32) (zhi : Int32) (zbk : Nat → Int32) (zot : Nat → Int32) (zer : Int32) (zen : Int32) (zpo : Nat → Int32) (zpi : Int32) (zgr : Int32) (zsh : Nat → Int32) (sn : Nat) (r0 : Nat) (hR : ModAt g r zq zsp zrm zst zsl zsv ztx zln zth zsg zbg zwd zhg zin zop zbe zwi zhi zbk zot zer zen zpo zpi zgr zsh (nI sn) H0) (hW : WF zq) (hr : r0 < 2147483648) : Ct l yX11_evening cX11_evening 3 (some .int) rm_c_X11_evening g [.ref r, .int (nI r0)] H0 (ftA (fun q => r ≤ q ∧ q < r + 16) H0.size) (fun v H1 => v = some (.int (nI (evA zq r0))) ∧ ∃ (zsh2 : Nat → Int32), ModAt g r (evQ zq r0) zsp zrm zst zsl zsv ztx zln zth zsg zbg zwd zhg zin zop zbe zwi zhi zbk zot zer zen zpo zpi zgr zsh2 (nI (sn + evS zq r0)) H1) := by
  refine Ct.of (by decide) (fun _ h => Or.inr h) (Nat.le_of_ble_eq_true rfl) ?_
  intro p e s m below meth c ls hB hin hS hH hl
  have hx := hB.x
  have hb := hB.b
  have hl : lv_has ls 3 [(0, .ref r), (1, .int (nI r0))] := hl
  have hnm := hW.2.2.1
  refine lv_aload_n hx hb dX11_evening_0 rfl (lv_at hl 0 rfl) ?_
  refine gf_X11_7 hB hR.o rfl dX11_evening_1 ?_
  refine lv_iconst (v := nI 0) hx hb dX11_evening_4 (by decide) ?_
  refine mn_iald hB hR.a_zq (by omega) (by omega) dX11_evening_5 ?_
  refine mh_top (y := .int (nI (nmQ zq))) (by rw [hW.1]) ?_
  refine mn_if_ne (tgt := 11) hB dX11_evening_6 (by decide) (by omega) (fun h_6 => ?_) (fun h_6 => ?_)
  · skip
    refine lv_iload_n hx hb dX11_evening_11 rfl (lv_at hl 1 rfl) ?_
    refine lv_iconst (v := nI 4) hx hb dX11_evening_12 (by decide) ?_
    refine mn_irem hB dX11_evening_13 (by omega) (by omega) (by omega) ?_
    refine mn_if_ne (tgt := 51) hB dX11_evening_14 (by decide) (by omega) (fun h_14 => ?_) (fun h_14 => ?_)
    · skip
      refine lv_iload_n hx hb dX11_evening_51 rfl (lv_at hl 1 rfl) ?_
      refine lv_bipush (v := nI 64) hx hb dX11_evening_52 (by decide) ?_
      refine mn_idiv hB dX11_evening_54 (by omega) (by omega) (by omega) ?_
      refine lv_iconst (v := nI 3) hx hb dX11_evening_55 (by decide) ?_
      refine mn_irem hB dX11_evening_56 (by omega) (by omega) (by omega) ?_
      refine lv_istore_n (lv' := [(2, .int (nI ((r0 / 64) % 3))), (0, .ref r), (1, .int (nI r0))]) hx hb dX11_evening_57 rfl hl (by decide) rfl (fun ls hl => ?_)
      refine lv_aload_n hx hb dX11_evening_58 rfl (lv_at hl 1 rfl) ?_
      refine lv_iload_n hx hb dX11_evening_59 rfl (lv_at hl 0 rfl) ?_
      refine cl_X11_75 (As := [.int (nI ((r0 / 64) % 3))]) (rest := []) hB (c_X11_patches l g H0 r zq zsp zrm zst zsl zsv ztx zln zth zsg zbg zwd zhg zin zop zbe zwi zhi zbk zot zer zen zpo zpi zgr zsh (nI sn) ((r0 / 64) % 3) hR (by omega) (hW.fr (by omega))) hR.o rfl hl.1 (Nat.le_of_ble_eq_true rfl) dX11_evening_60 ⟨Nat.le_of_ble_eq_true rfl, Nat.le_of_ble_eq_true rfl⟩ ⟨Nat.le_of_ble_eq_true rfl, Nat.le_of_ble_eq_true rfl⟩ hS (by have hz9 := hS.1; rintro q (h | h) <;> first | exact Or.inr (by omega) | exact h.elim | exact Or.inl h | (simp only [ftA] at h ⊢; omega)) (fun v H1 locs hpo hfr hS => ?_)
      obtain ⟨rfl, rfl⟩ := hpo
      refine W.widen (k := 0) (n := 0) (Nat.le_of_ble_eq_true rfl) (Nat.le_of_ble_eq_true rfl) ?_
      refine mn_if_ne (tgt := 68) hB dX11_evening_63 (by decide) (by have := WF.sz (hW.fr (f := r0 / 64 % 3) (by omega)); omega) (fun h_63 => ?_) (fun h_63 => ?_)
      · skip
        refine lv_aload_n hx hb dX11_evening_68 rfl (lv_at hl 1 rfl) ?_
        refine lv_dup hx hb dX11_evening_69 rfl ?_
        refine gf_X11_264 hB hR.o rfl dX11_evening_70 ?_
        refine lv_aload_n hx hb dX11_evening_73 rfl (lv_at hl 1 rfl) ?_
        refine lv_iload_n hx hb dX11_evening_74 rfl (lv_at hl 0 rfl) ?_
        refine lv_iconst (v := nI 1) hx hb dX11_evening_75 (by decide) ?_
        refine lv_iload_n hx hb dX11_evening_76 rfl (lv_at hl 2 rfl) ?_
        refine lv_iconst (v := nI 4) hx hb dX11_evening_77 (by decide) ?_
        refine mn_idiv hB dX11_evening_78 (by omega) (by omega) (by omega) ?_
        refine lv_bipush (v := nI 9) hx hb dX11_evening_79 (by decide) ?_
        refine mn_irem hB dX11_evening_81 (by omega) (by omega) (by omega) ?_
        refine mn_iadd hB dX11_evening_82 ?_
        refine cl_X11_218 (As := [.int (nI ((r0 / 64) % 3)), .int (nI (1 + ((r0 / 4) % 9)))]) (rest := [.int (nI sn), .ref r]) hB (c_X11_sews l g H0 r zq zsp zrm zst zsl zsv ztx zln zth zsg zbg zwd zhg zin zop zbe zwi zhi zbk zot zer zen zpo zpi zgr zsh (nI sn) ((r0 / 64) % 3) (1 + ((r0 / 4) % 9)) hR (by omega) (by omega) (by omega) (by omega)) hR.o rfl hl.1 (Nat.le_of_ble_eq_true rfl) dX11_evening_83 ⟨Nat.le_of_ble_eq_true rfl, Nat.le_of_ble_eq_true rfl⟩ ⟨Nat.le_of_ble_eq_true rfl, Nat.le_of_ble_eq_true rfl⟩ hS (by have hz9 := hS.1; rintro q (h | h) <;> first | exact Or.inr (by omega) | exact h.elim | exact Or.inl h | (simp only [ftA] at h ⊢; omega)) (fun v H1 locs hpo hfr hS => ?_)
        obtain ⟨rfl, hR⟩ := hpo
        generalize H1 = H at hfr hS hR ⊢
        refine W.widen (k := 0) (n := 0) (Nat.le_of_ble_eq_true rfl) (Nat.le_of_ble_eq_true rfl) ?_
        have hW2 : WF (sewE (r0 / 64 % 3) (1 + r0 / 4 % 9) zq) := sewE_WF (by omega) hW (by omega)
        refine mn_iadd hB dX11_evening_86 ?_
        refine pf_X11_264 hB hR.o (by first | exact Or.inl rfl | (simp only [ftA]; omega) | (simp [ftA]; omega)) hS rfl rfl (Nat.le_of_ble_eq_true rfl) dX11_evening_87 (fun H locs hwr => ?_)
        obtain ⟨hR, hS⟩ := hR.w_zsn hwr
        refine lv_aload_n hx hb dX11_evening_90 rfl (lv_at hl 1 rfl) ?_
        refine lv_iload_n hx hb dX11_evening_91 rfl (lv_at hl 0 rfl) ?_
        refine cl_X11_235 (As := [.int (nI ((r0 / 64) % 3))]) (rest := []) hB (c_X11_isFinished l g H r (sewE ((r0 / 64) % 3) (1 + ((r0 / 4) % 9)) zq) zsp zrm zst zsl zsv ztx zln zth zsg zbg zwd zhg zin zop zbe zwi zhi zbk zot zer zen zpo zpi zgr zsh (nI (sn + (sewN ((r0 / 64) % 3) (tnQ zq) (1 + ((r0 / 4) % 9)) zq))) ((r0 / 64) % 3) hR (by omega) (hW2.fr (by omega))) hR.o rfl hl.1 (Nat.le_of_ble_eq_true rfl) dX11_evening_92 ⟨Nat.le_of_ble_eq_true rfl, Nat.le_of_ble_eq_true rfl⟩ ⟨Nat.le_of_ble_eq_true rfl, Nat.le_of_ble_eq_true rfl⟩ hS (by have hz9 := hS.1; rintro q (h | h) <;> first | exact Or.inr (by omega) | exact h.elim | exact Or.inl h | (simp only [ftA] at h ⊢; omega)) (fun v H1 locs hpo hfr hS => ?_)
        obtain ⟨rfl, rfl⟩ := hpo
        refine W.widen (k := 0) (n := 0) (Nat.le_of_ble_eq_true rfl) (Nat.le_of_ble_eq_true rfl) ?_
        refine mb_if_ne (tgt := 100) hB dX11_evening_95 (by decide) (fun h_95 => ?_) (fun h_95 => ?_)
        · skip
          have h_95 := of_decide_eq_true h_95
          refine lv_aload_n hx hb dX11_evening_100 rfl (lv_at hl 1 rfl) ?_
          refine lv_iload_n hx hb dX11_evening_101 rfl (lv_at hl 0 rfl) ?_
          refine lv_bipush (v := nI 100) hx hb dX11_evening_102 (by decide) ?_
          refine cl_X11_238 (As := [.int (nI ((r0 / 64) % 3)), .int (nI 100)]) (rest := []) hB (c_X11_raffles l g H r (sewE ((r0 / 64) % 3) (1 + ((r0 / 4) % 9)) zq) zsp zrm zst zsl zsv ztx zln zth zsg zbg zwd zhg zin zop zbe zwi zhi zbk zot zer zen zpo zpi zgr zsh (nI (sn + (sewN ((r0 / 64) % 3) (tnQ zq) (1 + ((r0 / 4) % 9)) zq))) ((r0 / 64) % 3) 100 hR (hW2) (by omega) (by omega) (h_95.1)) hR.o rfl hl.1 (Nat.le_of_ble_eq_true rfl) dX11_evening_104 ⟨Nat.le_of_ble_eq_true rfl, Nat.le_of_ble_eq_true rfl⟩ ⟨Nat.le_of_ble_eq_true rfl, Nat.le_of_ble_eq_true rfl⟩ hS (by have hz9 := hS.1; rintro q (h | h) <;> first | exact Or.inr (by omega) | exact h.elim | exact Or.inl h | (simp only [ftA] at h ⊢; omega)) (fun v H1 locs hpo hfr hS => ?_)
          obtain ⟨rfl, hR⟩ := hpo
          generalize H1 = H at hfr hS hR ⊢
          refine W.widen (k := 0) (n := 0) (Nat.le_of_ble_eq_true rfl) (Nat.le_of_ble_eq_true rfl) ?_
          refine lv_pop hx hb dX11_evening_107 rfl ?_
          refine lv_iconst (v := nI 1) hx hb dX11_evening_108 (by decide) ?_
          refine mh_iret hB ⟨Nat.le_of_ble_eq_true rfl, Nat.le_of_ble_eq_true rfl⟩ hS dX11_evening_109 ⟨?_, (lowOf (shrQ (sewE ((r0 / 64) % 3) (1 + ((r0 / 4) % 9)) zq) ((r0 / 64) % 3) 100) (lowOf (shr1 (sewE ((r0 / 64) % 3) (1 + ((r0 / 4) % 9)) zq) ((r0 / 64) % 3) 100) zsh 5) 5), ?_⟩
          · unfold evA evF
            (repeat' split) <;> first | rfl | (exfalso; omega)
          · have e1 : evQ zq r0 = rafQ (sewE (r0 / 64 % 3) (1 + r0 / 4 % 9) zq) (r0 / 64 % 3) 100 := by unfold evQ evF; (repeat' split) <;> first | rfl | (exfalso; omega)
            have e2 : evS zq r0 = sewN (r0 / 64 % 3) (tnQ zq) (1 + r0 / 4 % 9) zq := by unfold evS evF; (repeat' split) <;> first | rfl | (exfalso; omega)
            rw [e1, e2]; exact hR
        · skip
          have h_95 := of_decide_eq_false h_95
          refine lv_iconst (v := nI 0) hx hb dX11_evening_98 (by decide) ?_
          refine mh_iret hB ⟨Nat.le_of_ble_eq_true rfl, Nat.le_of_ble_eq_true rfl⟩ hS dX11_evening_99 ⟨?_, zsh, ?_⟩
          · unfold evA evF
            (repeat' split) <;> first | rfl | (exfalso; omega)
          · have e1 : evQ zq r0 = sewE (r0 / 64 % 3) (1 + r0 / 4 % 9) zq := by unfold evQ evF; (repeat' split) <;> first | rfl | (exfalso; omega)
            have e2 : evS zq r0 = sewN (r0 / 64 % 3) (tnQ zq) (1 + r0 / 4 % 9) zq := by unfold evS evF; (repeat' split) <;> first | rfl | (exfalso; omega)
            rw [e1, e2]; exact hR
      · skip
        refine lv_iconst (v := nI 0) hx hb dX11_evening_66 (by decide) ?_
        refine mh_iret hB ⟨Nat.le_of_ble_eq_true rfl, Nat.le_of_ble_eq_true rfl⟩ hS dX11_evening_67 ⟨?_, zsh, ?_⟩
        · unfold evA evF
          (repeat' split) <;> first | rfl | (exfalso; omega)
        · have e1 : evQ zq r0 = zq := by unfold evQ evF; (repeat' split) <;> first | rfl | (exfalso; omega)
          have e2 : evS zq r0 = 0 := by unfold evS evF; (repeat' split) <;> first | rfl | (exfalso; omega)
          rw [e1, e2]; exact hR
    · skip
      refine lv_aload_n hx hb dX11_evening_17 rfl (lv_at hl 0 rfl) ?_
      refine lv_iload_n hx hb dX11_evening_18 rfl (lv_at hl 1 rfl) ?_
      refine lv_iconst (v := nI 4) hx hb dX11_evening_19 (by decide) ?_
      refine mn_idiv hB dX11_evening_20 (by omega) (by omega) (by omega) ?_
      refine lv_aload_n hx hb dX11_evening_21 rfl (lv_at hl 0 rfl) ?_
      refine gf_X11_7 hB hR.o rfl dX11_evening_22 ?_
      refine lv_iconst (v := nI 0) hx hb dX11_evening_25 (by decide) ?_
      refine mn_iald hB hR.a_zq (by omega) (by omega) dX11_evening_26 ?_
      refine mh_top (y := .int (nI (nmQ zq))) (by rw [hW.1]) ?_
      refine mn_irem hB dX11_evening_27 (by omega) (by omega) (by omega) ?_
      refine lv_iload_n hx hb dX11_evening_28 rfl (lv_at hl 1 rfl) ?_
      refine lv_sipush (v := nI 512) hx hb dX11_evening_29 (by decide +kernel) ?_
      refine mn_idiv hB dX11_evening_32 (by omega) (by omega) (by omega) ?_
      refine lv_bipush (v := nI 6) hx hb dX11_evening_33 (by decide) ?_
      refine mn_irem hB dX11_evening_35 (by omega) (by omega) (by omega) ?_
      refine lv_iconst (v := nI 1) hx hb dX11_evening_36 (by decide) ?_
      refine lv_iload_n hx hb dX11_evening_37 rfl (lv_at hl 1 rfl) ?_
      refine lv_bipush (v := nI 32) hx hb dX11_evening_38 (by decide) ?_
      refine mn_idiv hB dX11_evening_40 (by omega) (by omega) (by omega) ?_
      refine lv_bipush (v := nI 9) hx hb dX11_evening_41 (by decide) ?_
      refine mn_irem hB dX11_evening_43 (by omega) (by omega) (by omega) ?_
      refine mn_iadd hB dX11_evening_44 ?_
      refine cl_X11_205 (As := [.int (nI ((r0 / 4) % (nmQ zq))), .int (nI ((r0 / 512) % 6)), .int (nI (1 + ((r0 / 32) % 9)))]) (rest := []) hB (c_X11_gives l g H0 r zq zsp zrm zst zsl zsv ztx zln zth zsg zbg zwd zhg zin zop zbe zwi zhi zbk zot zer zen zpo zpi zgr zsh (nI sn) ((r0 / 4) % (nmQ zq)) ((r0 / 512) % 6) (nI (1 + ((r0 / 32) % 9))) hR (by have := Nat.mod_lt (r0 / 4) (show 0 < nmQ zq by omega); omega) (by omega)) hR.o rfl hl.1 (Nat.le_of_ble_eq_true rfl) dX11_evening_45 ⟨Nat.le_of_ble_eq_true rfl, Nat.le_of_ble_eq_true rfl⟩ ⟨Nat.le_of_ble_eq_true rfl, Nat.le_of_ble_eq_true rfl⟩ hS (by have hz9 := hS.1; rintro q (h | h) <;> first | exact Or.inr (by omega) | exact h.elim | exact Or.inl h | (simp only [ftA] at h ⊢; omega)) (fun v H1 locs hpo hfr hS => ?_)
      obtain ⟨rfl, hR⟩ := hpo
      generalize H1 = H at hfr hS hR ⊢
      refine W.widen (k := 0) (n := 0) (Nat.le_of_ble_eq_true rfl) (Nat.le_of_ble_eq_true rfl) ?_
      refine lv_pop hx hb dX11_evening_48 rfl ?_
      refine lv_iconst (v := nI 0) hx hb dX11_evening_49 (by decide) ?_
      refine mh_iret hB ⟨Nat.le_of_ble_eq_true rfl, Nat.le_of_ble_eq_true rfl⟩ hS dX11_evening_50 ⟨?_, zsh, ?_⟩
      · unfold evA evF
        (repeat' split) <;> first | rfl | (exfalso; omega)
      · have e1 : evQ zq r0 = givQ zq (r0 / 4 % nmQ zq) (r0 / 512 % 6) (nI (1 + r0 / 32 % 9)) := by unfold evQ evF; (repeat' split) <;> first | rfl | (exfalso; omega)
        have e2 : evS zq r0 = 0 := by unfold evS evF; (repeat' split) <;> first | rfl | (exfalso; omega)
        rw [e1, e2]; exact hR
  · skip
    refine lv_iconst (v := nI 0) hx hb dX11_evening_9 (by decide) ?_
    refine mh_iret hB ⟨Nat.le_of_ble_eq_true rfl, Nat.le_of_ble_eq_true rfl⟩ hS dX11_evening_10 ⟨?_, zsh, ?_⟩
    · unfold evA evF
      (repeat' split) <;> first | rfl | (exfalso; omega)
    · have e1 : evQ zq r0 = zq := by unfold evQ evF; (repeat' split) <;> first | rfl | (exfalso; omega)
      have e2 : evS zq r0 = 0 := by unfold evS evF; (repeat' split) <;> first | rfl | (exfalso; omega)
      rw [e1, e2]; exact hR
