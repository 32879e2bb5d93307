def rm_c_X11_canFinish : Room := { frames := 4, cells := 0, slots := 0, locals := 93 }
set_option maxRecDepth 100000 in
set_option maxHeartbeats 400000 in
theorem c_X11_canFinish (l : Launch) (g : GG) (H0 : Heap) (r : Nat) (zq : Nat → Int32) (zsp : Nat → Int32) (zrm : Nat → Int32) (zst : Int32) (zsl : Nat → Int32) (zsv : Nat → Int32) (ztx : Nat → Int32) (zln : Int32) (zth : Int32) (zsg : Nat → Int32) (zbg : Nat → Int32) (zwd : Nat → Int32) (zhg : Nat → Int32) (zin : Nat → Int32) (zop : Int32) (zbe : Int32) (zwi : Int32) (zhi : Int32) (zbk : Nat → Int32) (zot : Nat → Int32) (zer : Int32) (zen : Int32) (zpo : Nat → Int32) (zpi : Int32) (zgr : Int32) (zsh : Nat → Int32) (zsn : Int32) (hR : ModAt g r zq zsp zrm zst zsl zsv ztx zln zth zsg zbg zwd zhg zin zop zbe zwi zhi zbk zot zer zen zpo zpi zgr zsh zsn H0) (hW : WF zq) : Ct l yX11_canFinish cX11_canFinish 8 (some .int) rm_c_X11_canFinish g [.ref r] H0 (ftA (fun q => r ≤ q ∧ q < r + 16) H0.size) (fun v H1 => v = some (.int (nI ((cfB zq 7).1))) ∧ ModAt g r zq zsp zrm zst zsl zsv ztx zln (nI 0) zsg zbg zwd zhg zin zop zbe zwi zhi zbk zot zer zen zpo zpi zgr zsh zsn H1) := by
  refine Ct.of (by decide) (fun _ h => Or.inr h) (Nat.le_of_ble_eq_true rfl) ?_
  intro p e s m below meth c ls hB hin hS hH hl
  have hx := hB.x
  have hb := hB.b
  have hl : lv_has ls 8 [(0, .ref r)] := hl
  refine lv_aload_n hx hb dX11_canFinish_0 rfl (lv_at hl 0 rfl) ?_
  refine lv_iconst (v := nI 0) hx hb dX11_canFinish_1 (by decide) ?_
  refine pf_X11_56 hB hR.o (by first | exact Or.inl rfl | (simp only [ftA]; omega) | (simp [ftA]; omega)) hS rfl rfl (Nat.le_of_ble_eq_true rfl) dX11_canFinish_2 (fun H locs hwr => ?_)
  obtain ⟨hR, hS⟩ := hR.w_zth hwr
  refine lv_iconst (v := nI 0) hx hb dX11_canFinish_5 (by decide) ?_
  refine lv_istore_n (lv' := [(1, .int (nI 0)), (0, .ref r)]) hx hb dX11_canFinish_6 rfl hl (by decide) rfl (fun ls hl => ?_)
  refine lv_iconst (v := nI 0) hx hb dX11_canFinish_7 (by decide) ?_
  refine lv_istore_n (lv' := [(2, .int (nI 0)), (1, .int (nI 0)), (0, .ref r)]) hx hb dX11_canFinish_8 rfl hl (by decide) rfl (fun ls hl => ?_)
  refine lv_iconst (v := nI 1) hx hb dX11_canFinish_9 (by decide) ?_
  refine lv_istore_n (lv' := [(3, .int (nI 1)), (2, .int (nI 0)), (1, .int (nI 0)), (0, .ref r)]) hx hb dX11_canFinish_10 rfl hl (by decide) rfl (fun ls hl => ?_)
  refine mh_loop (σ := Nat) (fun xx9 H locs ls => match xx9 with | s9 => s9 ≤ 7 ∧ ModAt g r zq zsp zrm zst zsl zsv ztx zln (nI 0) zsg zbg zwd zhg zin zop zbe zwi zhi zbk zot zer zen zpo zpi zgr zsh zsn H ∧ va_S (ftA (fun q => r ≤ q ∧ q < r + 16) H0.size) H0 H locs ∧ lv_has ls 8 [(0, .ref r), (1, .int (nI ((cfB zq s9).1))), (2, .int (nI ((cfB zq s9).2))), (3, .int (nI (s9 + 1)))]) (fun xx9 => match xx9 with | s9 => 7 - s9) ?_ 0 ⟨(by omega), hR, hS, lv_sub hl [3, 2, 1, 0] rfl⟩
  rintro s9 H locs ls ⟨hs9, hR, hS, hl⟩ ih
  have ih11 := ih
  have hcf := cfB_le zq s9
  refine lv_iload_n hx hb dX11_canFinish_11 rfl (lv_at hl 3 rfl) ?_
  refine lv_bipush (v := nI 8) hx hb dX11_canFinish_12 (by decide) ?_
  refine mn_icmp_ge (tgt := 175) hB dX11_canFinish_14 (by decide) (by omega) (by omega) (fun h_14 => ?_) (fun h_14 => ?_)
  · skip
    have hin9 : s9 = 7 := by omega
    subst hin9
    refine lv_iload_n hx hb dX11_canFinish_175 rfl (lv_at hl 1 rfl) ?_
    refine mh_iret hB ⟨Nat.le_of_ble_eq_true rfl, Nat.le_of_ble_eq_true rfl⟩ hS dX11_canFinish_176 ⟨?_, ?_⟩
    · rfl
    · exact hR
  · skip
    refine lv_iconst (v := nI 0) hx hb dX11_canFinish_17 (by decide) ?_
    refine lv_istore (lv' := [(4, .int (nI 0)), (0, .ref r), (1, .int (nI ((cfB zq s9).1))), (2, .int (nI ((cfB zq s9).2))), (3, .int (nI (s9 + 1)))]) hx hb dX11_canFinish_18 hl (by decide) rfl (fun ls hl => ?_)
    refine lv_iconst (v := nI 1) hx hb dX11_canFinish_20 (by decide) ?_
    refine mh_top (y := .int (bI true)) (rfl) ?_
    refine lv_istore (lv' := [(5, .int (bI true)), (4, .int (nI 0)), (0, .ref r), (1, .int (nI ((cfB zq s9).1))), (2, .int (nI ((cfB zq s9).2))), (3, .int (nI (s9 + 1)))]) hx hb dX11_canFinish_21 hl (by decide) rfl (fun ls hl => ?_)
    refine lv_iconst (v := nI 0) hx hb dX11_canFinish_23 (by decide) ?_
    refine lv_istore (lv' := [(6, .int (nI 0)), (5, .int (bI true)), (4, .int (nI 0)), (0, .ref r), (1, .int (nI ((cfB zq s9).1))), (2, .int (nI ((cfB zq s9).2))), (3, .int (nI (s9 + 1)))]) hx hb dX11_canFinish_24 hl (by decide) rfl (fun ls hl => ?_)
    refine mh_loop (σ := Nat) (fun xx9 H locs ls => match xx9 with | i9 => i9 ≤ 3 ∧ ModAt g r zq zsp zrm zst zsl zsv ztx zln (nI 0) zsg zbg zwd zhg zin zop zbe zwi zhi zbk zot zer zen zpo zpi zgr zsh zsn H ∧ va_S (ftA (fun q => r ≤ q ∧ q < r + 16) H0.size) H0 H locs ∧ lv_has ls 8 [(0, .ref r), (1, .int (nI ((cfB zq s9).1))), (2, .int (nI ((cfB zq s9).2))), (3, .int (nI (s9 + 1))), (4, .int (nI (cntR (bitS (s9 + 1)) 0 i9))), (5, .int (bI (canF zq (s9 + 1) i9))), (6, .int (nI i9))]) (fun xx9 => match xx9 with | i9 => 3 - i9) ?_ 0 ⟨(by omega), hR, hS, lv_sub hl [3, 4, 5, 6, 2, 1, 0] rfl⟩
    rintro i9 H locs ls ⟨hi9, hR, hS, hl⟩ ih
    have ih26 := ih
    refine lv_iload hx hb dX11_canFinish_26 (lv_at hl 6 rfl) ?_
    refine lv_iconst (v := nI 3) hx hb dX11_canFinish_28 (by decide) ?_
    refine mn_icmp_ge (tgt := 96) hB dX11_canFinish_29 (by decide) (by omega) (by omega) (fun h_29 => ?_) (fun h_29 => ?_)
    · skip
      have hin9 : i9 = 3 := by omega
      subst hin9
      refine lv_iconst (v := nI 0) hx hb dX11_canFinish_96 (by decide) ?_
      refine lv_istore (lv' := [(6, .int (nI 0)), (0, .ref r), (1, .int (nI ((cfB zq s9).1))), (2, .int (nI ((cfB zq s9).2))), (3, .int (nI (s9 + 1))), (4, .int (nI (cntR (bitS (s9 + 1)) 0 3))), (5, .int (bI (canF zq (s9 + 1) 3)))]) hx hb dX11_canFinish_97 hl (by decide) rfl (fun ls hl => ?_)
      refine mh_loop (σ := Nat) (fun xx9 H locs ls => match xx9 with | c9 => c9 ≤ 6 ∧ ModAt g r zq zsp zrm zst zsl zsv ztx zln (nI 0) zsg zbg zwd zhg zin zop zbe zwi zhi zbk zot zer zen zpo zpi zgr zsh zsn H ∧ va_S (ftA (fun q => r ≤ q ∧ q < r + 16) H0.size) H0 H locs ∧ lv_has ls 8 [(0, .ref r), (1, .int (nI ((cfB zq s9).1))), (2, .int (nI ((cfB zq s9).2))), (3, .int (nI (s9 + 1))), (4, .int (nI (cntR (bitS (s9 + 1)) 0 3))), (5, .int (bI (canC zq (s9 + 1) c9))), (6, .int (nI c9))]) (fun xx9 => match xx9 with | c9 => 6 - c9) ?_ 0 ⟨(by omega), hR, hS, lv_sub hl [1, 2, 3, 4, 5, 6, 0] rfl⟩
      rintro c9 H locs ls ⟨hc9, hR, hS, hl⟩ ih
      have ih99 := ih
      refine lv_iload hx hb dX11_canFinish_99 (lv_at hl 6 rfl) ?_
      refine lv_bipush (v := nI 6) hx hb dX11_canFinish_101 (by decide) ?_
      refine mn_icmp_ge (tgt := 134) hB dX11_canFinish_103 (by decide) (by omega) (by omega) (fun h_103 => ?_) (fun h_103 => ?_)
      · skip
        have hin9 : c9 = 6 := by omega
        subst hin9
        have hc3 := cntR_le (bitS (s9 + 1)) 0 3
        refine lv_iload hx hb dX11_canFinish_134 (lv_at hl 5 rfl) ?_
        refine mb_if_eq (tgt := 149) hB dX11_canFinish_136 (by decide) (fun h_136 => ?_) (fun h_136 => ?_)
        · skip
          refine lv_iload_n hx hb dX11_canFinish_149 rfl (lv_at hl 1 rfl) ?_
          refine mh_top (y := .int (nI (cfB zq (s9 + 1)).1)) (by first | (rw [cfB_t (by assumption) (by omega)]; done) | (rw [cfB_f (by first | exact Or.inl (by assumption) | exact Or.inr (by omega))]; done)) ?_
          refine lv_istore_n (lv' := [(1, .int (nI ((cfB zq (s9 + 1)).1))), (0, .ref r), (2, .int (nI ((cfB zq s9).2))), (3, .int (nI (s9 + 1))), (4, .int (nI (cntR (bitS (s9 + 1)) 0 3))), (5, .int (bI (canC zq (s9 + 1) 6))), (6, .int (nI 6))]) hx hb dX11_canFinish_150 rfl hl (by decide) rfl (fun ls hl => ?_)
          refine lv_iload hx hb dX11_canFinish_151 (lv_at hl 5 rfl) ?_
          refine mb_if_eq (tgt := 167) hB dX11_canFinish_153 (by decide) (fun h_153 => ?_) (fun h => by rw [h_136] at h; cases h)
          refine lv_iload_n hx hb dX11_canFinish_167 rfl (lv_at hl 2 rfl) ?_
          refine mh_top (y := .int (nI (cfB zq (s9 + 1)).2)) (by first | (rw [cfB_t (by assumption) (by omega)]; done) | (rw [cfB_f (by first | exact Or.inl (by assumption) | exact Or.inr (by omega))]; done)) ?_
          refine lv_istore_n (lv' := [(2, .int (nI ((cfB zq (s9 + 1)).2))), (1, .int (nI ((cfB zq (s9 + 1)).1))), (0, .ref r), (3, .int (nI (s9 + 1))), (4, .int (nI (cntR (bitS (s9 + 1)) 0 3))), (5, .int (bI (canC zq (s9 + 1) 6))), (6, .int (nI 6))]) hx hb dX11_canFinish_168 rfl hl (by decide) rfl (fun ls hl => ?_)
          refine lv_iinc (v := nI (s9 + 1 + 1)) (lv' := [(3, .int (nI (s9 + 1 + 1))), (2, .int (nI ((cfB zq (s9 + 1)).2))), (1, .int (nI ((cfB zq (s9 + 1)).1))), (0, .ref r), (4, .int (nI (cntR (bitS (s9 + 1)) 0 3))), (5, .int (bI (canC zq (s9 + 1) 6))), (6, .int (nI 6))]) hx hb dX11_canFinish_169 hl (k := 3) rfl (nI_1 _) (by decide) rfl (fun ls hl => ?_)
          refine lv_goto (tgt := 11) hx hb dX11_canFinish_172 (by decide) ?_
          refine ih11 (s9 + 1) _ _ _ ⟨(by omega), hR, hS, lv_sub hl [3, 2, 1, 0] rfl⟩ (by dsimp only; omega)
        · skip
          refine lv_iload hx hb dX11_canFinish_139 (lv_at hl 4 rfl) ?_
          refine lv_iload_n hx hb dX11_canFinish_141 rfl (lv_at hl 2 rfl) ?_
          refine mn_icmp_le (tgt := 149) hB dX11_canFinish_142 (by decide) (by omega) (by omega) (fun h_142 => ?_) (fun h_142 => ?_)
          · skip
            refine lv_iload_n hx hb dX11_canFinish_149 rfl (lv_at hl 1 rfl) ?_
            refine mh_top (y := .int (nI (cfB zq (s9 + 1)).1)) (by first | (rw [cfB_t (by assumption) (by omega)]; done) | (rw [cfB_f (by first | exact Or.inl (by assumption) | exact Or.inr (by omega))]; done)) ?_
            refine lv_istore_n (lv' := [(1, .int (nI ((cfB zq (s9 + 1)).1))), (0, .ref r), (2, .int (nI ((cfB zq s9).2))), (3, .int (nI (s9 + 1))), (4, .int (nI (cntR (bitS (s9 + 1)) 0 3))), (5, .int (bI (canC zq (s9 + 1) 6))), (6, .int (nI 6))]) hx hb dX11_canFinish_150 rfl hl (by decide) rfl (fun ls hl => ?_)
            refine lv_iload hx hb dX11_canFinish_151 (lv_at hl 5 rfl) ?_
            refine mb_if_eq (tgt := 167) hB dX11_canFinish_153 (by decide) (fun h => by rw [h_136] at h; cases h) (fun h_153 => ?_)
            refine lv_iload hx hb dX11_canFinish_156 (lv_at hl 4 rfl) ?_
            refine lv_iload_n hx hb dX11_canFinish_158 rfl (lv_at hl 2 rfl) ?_
            refine mn_icmp_le (tgt := 167) hB dX11_canFinish_159 (by decide) (by omega) (by omega) (fun h_159 => ?_) (fun h => by exfalso; omega)
            refine lv_iload_n hx hb dX11_canFinish_167 rfl (lv_at hl 2 rfl) ?_
            refine mh_top (y := .int (nI (cfB zq (s9 + 1)).2)) (by first | (rw [cfB_t (by assumption) (by omega)]; done) | (rw [cfB_f (by first | exact Or.inl (by assumption) | exact Or.inr (by omega))]; done)) ?_
            refine lv_istore_n (lv' := [(2, .int (nI ((cfB zq (s9 + 1)).2))), (1, .int (nI ((cfB zq (s9 + 1)).1))), (0, .ref r), (3, .int (nI (s9 + 1))), (4, .int (nI (cntR (bitS (s9 + 1)) 0 3))), (5, .int (bI (canC zq (s9 + 1) 6))), (6, .int (nI 6))]) hx hb dX11_canFinish_168 rfl hl (by decide) rfl (fun ls hl => ?_)
            refine lv_iinc (v := nI (s9 + 1 + 1)) (lv' := [(3, .int (nI (s9 + 1 + 1))), (2, .int (nI ((cfB zq (s9 + 1)).2))), (1, .int (nI ((cfB zq (s9 + 1)).1))), (0, .ref r), (4, .int (nI (cntR (bitS (s9 + 1)) 0 3))), (5, .int (bI (canC zq (s9 + 1) 6))), (6, .int (nI 6))]) hx hb dX11_canFinish_169 hl (k := 3) rfl (nI_1 _) (by decide) rfl (fun ls hl => ?_)
            refine lv_goto (tgt := 11) hx hb dX11_canFinish_172 (by decide) ?_
            refine ih11 (s9 + 1) _ _ _ ⟨(by omega), hR, hS, lv_sub hl [3, 2, 1, 0] rfl⟩ (by dsimp only; omega)
          · skip
            refine lv_iload_n hx hb dX11_canFinish_145 rfl (lv_at hl 3 rfl) ?_
            refine lv_goto (tgt := 150) hx hb dX11_canFinish_146 (by decide) ?_
            refine mh_top (y := .int (nI (cfB zq (s9 + 1)).1)) (by first | (rw [cfB_t (by assumption) (by omega)]; done) | (rw [cfB_f (by first | exact Or.inl (by assumption) | exact Or.inr (by omega))]; done)) ?_
            refine lv_istore_n (lv' := [(1, .int (nI ((cfB zq (s9 + 1)).1))), (0, .ref r), (2, .int (nI ((cfB zq s9).2))), (3, .int (nI (s9 + 1))), (4, .int (nI (cntR (bitS (s9 + 1)) 0 3))), (5, .int (bI (canC zq (s9 + 1) 6))), (6, .int (nI 6))]) hx hb dX11_canFinish_150 rfl hl (by decide) rfl (fun ls hl => ?_)
            refine lv_iload hx hb dX11_canFinish_151 (lv_at hl 5 rfl) ?_
            refine mb_if_eq (tgt := 167) hB dX11_canFinish_153 (by decide) (fun h => by rw [h_136] at h; cases h) (fun h_153 => ?_)
            refine lv_iload hx hb dX11_canFinish_156 (lv_at hl 4 rfl) ?_
            refine lv_iload_n hx hb dX11_canFinish_158 rfl (lv_at hl 2 rfl) ?_
            refine mn_icmp_le (tgt := 167) hB dX11_canFinish_159 (by decide) (by omega) (by omega) (fun h => by exfalso; omega) (fun h_159 => ?_)
            refine lv_iload hx hb dX11_canFinish_162 (lv_at hl 4 rfl) ?_
            refine lv_goto (tgt := 168) hx hb dX11_canFinish_164 (by decide) ?_
            refine mh_top (y := .int (nI (cfB zq (s9 + 1)).2)) (by first | (rw [cfB_t (by assumption) (by omega)]; done) | (rw [cfB_f (by first | exact Or.inl (by assumption) | exact Or.inr (by omega))]; done)) ?_
            refine lv_istore_n (lv' := [(2, .int (nI ((cfB zq (s9 + 1)).2))), (1, .int (nI ((cfB zq (s9 + 1)).1))), (0, .ref r), (3, .int (nI (s9 + 1))), (4, .int (nI (cntR (bitS (s9 + 1)) 0 3))), (5, .int (bI (canC zq (s9 + 1) 6))), (6, .int (nI 6))]) hx hb dX11_canFinish_168 rfl hl (by decide) rfl (fun ls hl => ?_)
            refine lv_iinc (v := nI (s9 + 1 + 1)) (lv' := [(3, .int (nI (s9 + 1 + 1))), (2, .int (nI ((cfB zq (s9 + 1)).2))), (1, .int (nI ((cfB zq (s9 + 1)).1))), (0, .ref r), (4, .int (nI (cntR (bitS (s9 + 1)) 0 3))), (5, .int (bI (canC zq (s9 + 1) 6))), (6, .int (nI 6))]) hx hb dX11_canFinish_169 hl (k := 3) rfl (nI_1 _) (by decide) rfl (fun ls hl => ?_)
            refine lv_goto (tgt := 11) hx hb dX11_canFinish_172 (by decide) ?_
            refine ih11 (s9 + 1) _ _ _ ⟨(by omega), hR, hS, lv_sub hl [3, 2, 1, 0] rfl⟩ (by dsimp only; omega)
      · skip
        refine lv_iload hx hb dX11_canFinish_106 (lv_at hl 5 rfl) ?_
        refine mb_if_eq (tgt := 125) hB dX11_canFinish_108 (by decide) (fun h_108 => ?_) (fun h_108 => ?_)
        · skip
          refine lv_iconst (v := nI 0) hx hb dX11_canFinish_125 (by decide) ?_
          refine mh_top (y := .int (bI false)) (rfl) ?_
          refine mh_top (y := .int (bI (canC zq (s9 + 1) (c9 + 1)))) (by show _ = Value.int (bI (canC zq (s9 + 1) c9 && decide (misR zq (s9 + 1) c9 = 0))); rw [h_108]; first | rfl | (rw [decide_eq_true (by assumption)]; rfl) | (rw [decide_eq_false (by assumption)]; rfl)) ?_
          refine lv_istore (lv' := [(5, .int (bI (canC zq (s9 + 1) (c9 + 1)))), (0, .ref r), (1, .int (nI ((cfB zq s9).1))), (2, .int (nI ((cfB zq s9).2))), (3, .int (nI (s9 + 1))), (4, .int (nI (cntR (bitS (s9 + 1)) 0 3))), (6, .int (nI c9))]) hx hb dX11_canFinish_126 hl (by decide) rfl (fun ls hl => ?_)
          refine lv_iinc (v := nI (c9 + 1)) (lv' := [(6, .int (nI (c9 + 1))), (5, .int (bI (canC zq (s9 + 1) (c9 + 1)))), (0, .ref r), (1, .int (nI ((cfB zq s9).1))), (2, .int (nI ((cfB zq s9).2))), (3, .int (nI (s9 + 1))), (4, .int (nI (cntR (bitS (s9 + 1)) 0 3)))]) hx hb dX11_canFinish_128 hl (k := 6) rfl (nI_1 _) (by decide) rfl (fun ls hl => ?_)
          refine lv_goto (tgt := 99) hx hb dX11_canFinish_131 (by decide) ?_
          refine ih99 (c9 + 1) _ _ _ ⟨(by omega), hR, hS, lv_sub hl [2, 3, 4, 5, 6, 1, 0] rfl⟩ (by dsimp only; omega)
        · skip
          refine lv_aload_n hx hb dX11_canFinish_111 rfl (lv_at hl 0 rfl) ?_
          refine lv_iload_n hx hb dX11_canFinish_112 rfl (lv_at hl 3 rfl) ?_
          refine lv_iload hx hb dX11_canFinish_113 (lv_at hl 6 rfl) ?_
          refine cl_X11_246 (As := [.int (nI (s9 + 1)), .int (nI c9)]) (rest := []) hB (c_X11_missing l g H r zq zsp zrm zst zsl zsv ztx zln (nI 0) zsg zbg zwd zhg zin zop zbe zwi zhi zbk zot zer zen zpo zpi zgr zsh zsn (s9 + 1) c9 hR (by omega) (by omega) (by omega)) hR.o rfl hl.1 (Nat.le_of_ble_eq_true rfl) dX11_canFinish_115 ⟨Nat.le_of_ble_eq_true rfl, Nat.le_of_ble_eq_true rfl⟩ ⟨Nat.le_of_ble_eq_true rfl, Nat.le_of_ble_eq_true rfl⟩ hS (by have hz9 := hS.1; rintro q (h | h) <;> first | exact Or.inr (by omega) | exact h.elim | exact Or.inl h | (simp only [ftA] at h ⊢; omega)) (fun v H1 locs hpo hfr hS => ?_)
          obtain ⟨rfl, rfl⟩ := hpo
          refine W.widen (k := 0) (n := 0) (Nat.le_of_ble_eq_true rfl) (Nat.le_of_ble_eq_true rfl) ?_
          refine lv_if_ne (tgt := 125) hx hb dX11_canFinish_118 (by decide) (fun h_118 => ?_) (fun h_118 => ?_)
          · skip
            refine lv_iconst (v := nI 0) hx hb dX11_canFinish_125 (by decide) ?_
            refine mh_top (y := .int (bI false)) (rfl) ?_
            refine mh_top (y := .int (bI (canC zq (s9 + 1) (c9 + 1)))) (by show _ = Value.int (bI (canC zq (s9 + 1) c9 && decide (misR zq (s9 + 1) c9 = 0))); rw [h_108]; first | rfl | (rw [decide_eq_true (by assumption)]; rfl) | (rw [decide_eq_false (by assumption)]; rfl)) ?_
            refine lv_istore (lv' := [(5, .int (bI (canC zq (s9 + 1) (c9 + 1)))), (0, .ref r), (1, .int (nI ((cfB zq s9).1))), (2, .int (nI ((cfB zq s9).2))), (3, .int (nI (s9 + 1))), (4, .int (nI (cntR (bitS (s9 + 1)) 0 3))), (6, .int (nI c9))]) hx hb dX11_canFinish_126 hl (by decide) rfl (fun ls hl => ?_)
            refine lv_iinc (v := nI (c9 + 1)) (lv' := [(6, .int (nI (c9 + 1))), (5, .int (bI (canC zq (s9 + 1) (c9 + 1)))), (0, .ref r), (1, .int (nI ((cfB zq s9).1))), (2, .int (nI ((cfB zq s9).2))), (3, .int (nI (s9 + 1))), (4, .int (nI (cntR (bitS (s9 + 1)) 0 3)))]) hx hb dX11_canFinish_128 hl (k := 6) rfl (nI_1 _) (by decide) rfl (fun ls hl => ?_)
            refine lv_goto (tgt := 99) hx hb dX11_canFinish_131 (by decide) ?_
            refine ih99 (c9 + 1) _ _ _ ⟨(by omega), hR, hS, lv_sub hl [2, 3, 4, 5, 6, 1, 0] rfl⟩ (by dsimp only; omega)
          · skip
            refine lv_iconst (v := nI 1) hx hb dX11_canFinish_121 (by decide) ?_
            refine mh_top (y := .int (bI true)) (rfl) ?_
            refine lv_goto (tgt := 126) hx hb dX11_canFinish_122 (by decide) ?_
            refine mh_top (y := .int (bI (canC zq (s9 + 1) (c9 + 1)))) (by show _ = Value.int (bI (canC zq (s9 + 1) c9 && decide (misR zq (s9 + 1) c9 = 0))); rw [h_108]; first | rfl | (rw [decide_eq_true (by assumption)]; rfl) | (rw [decide_eq_false (by assumption)]; rfl)) ?_
            refine lv_istore (lv' := [(5, .int (bI (canC zq (s9 + 1) (c9 + 1)))), (0, .ref r), (1, .int (nI ((cfB zq s9).1))), (2, .int (nI ((cfB zq s9).2))), (3, .int (nI (s9 + 1))), (4, .int (nI (cntR (bitS (s9 + 1)) 0 3))), (6, .int (nI c9))]) hx hb dX11_canFinish_126 hl (by decide) rfl (fun ls hl => ?_)
            refine lv_iinc (v := nI (c9 + 1)) (lv' := [(6, .int (nI (c9 + 1))), (5, .int (bI (canC zq (s9 + 1) (c9 + 1)))), (0, .ref r), (1, .int (nI ((cfB zq s9).1))), (2, .int (nI ((cfB zq s9).2))), (3, .int (nI (s9 + 1))), (4, .int (nI (cntR (bitS (s9 + 1)) 0 3)))]) hx hb dX11_canFinish_128 hl (k := 6) rfl (nI_1 _) (by decide) rfl (fun ls hl => ?_)
            refine lv_goto (tgt := 99) hx hb dX11_canFinish_131 (by decide) ?_
            refine ih99 (c9 + 1) _ _ _ ⟨(by omega), hR, hS, lv_sub hl [2, 3, 4, 5, 6, 1, 0] rfl⟩ (by dsimp only; omega)
    · skip
      refine lv_iload_n hx hb dX11_canFinish_32 rfl (lv_at hl 3 rfl) ?_
      refine lv_iload hx hb dX11_canFinish_33 (lv_at hl 6 rfl) ?_
      refine lv_ishr hx hb dX11_canFinish_35 ?_
      refine lv_iconst (v := nI 1) hx hb dX11_canFinish_36 (by decide) ?_
      refine lv_iand hx hb dX11_canFinish_37 ?_
      refine mh_top (y := .int (nI ((s9 + 1) / 2 ^ i9 % 2))) (by rw [bit_lem (s9 + 1) (by omega) i9 (by omega)]) ?_
      refine lv_iconst (v := nI 1) hx hb dX11_canFinish_38 (by decide) ?_
      refine mn_icmp_ne (tgt := 46) hB dX11_canFinish_39 (by decide) (by omega) (by omega) (fun h_39 => ?_) (fun h_39 => ?_)
      · skip
        refine lv_iconst (v := nI 0) hx hb dX11_canFinish_46 (by decide) ?_
        refine mh_top (y := .int (bI false)) (rfl) ?_
        refine lv_istore (lv' := [(7, .int (bI false)), (0, .ref r), (1, .int (nI ((cfB zq s9).1))), (2, .int (nI ((cfB zq s9).2))), (3, .int (nI (s9 + 1))), (4, .int (nI (cntR (bitS (s9 + 1)) 0 i9))), (5, .int (bI (canF zq (s9 + 1) i9))), (6, .int (nI i9))]) hx hb dX11_canFinish_47 hl (by decide) rfl (fun ls hl => ?_)
        refine lv_iload hx hb dX11_canFinish_49 (lv_at hl 5 rfl) ?_
        refine lv_iload hx hb dX11_canFinish_51 (lv_at hl 0 rfl) ?_
        refine mb_if_eq (tgt := 60) hB dX11_canFinish_53 (by decide) (fun h_53 => ?_) (fun h => by cases h)
        refine lv_iconst (v := nI 0) hx hb dX11_canFinish_60 (by decide) ?_
        refine mn_iadd hB dX11_canFinish_61 ?_
        refine mh_top (y := .int (nI (cntR (bitS (s9 + 1)) 0 (i9 + 1)))) (by simp only [cntR, bitS, Nat.zero_add, decide_eq_true_eq]; (repeat' split) <;> first | rfl | (exfalso; omega)) ?_
        refine lv_istore (lv' := [(4, .int (nI (cntR (bitS (s9 + 1)) 0 (i9 + 1)))), (7, .int (bI false)), (0, .ref r), (1, .int (nI ((cfB zq s9).1))), (2, .int (nI ((cfB zq s9).2))), (3, .int (nI (s9 + 1))), (5, .int (bI (canF zq (s9 + 1) i9))), (6, .int (nI i9))]) hx hb dX11_canFinish_62 hl (by decide) rfl (fun ls hl => ?_)
        refine lv_iload hx hb dX11_canFinish_64 (lv_at hl 6 rfl) ?_
        refine mb_if_eq (tgt := 87) hB dX11_canFinish_66 (by decide) (fun h_66 => ?_) (fun h_66 => ?_)
        · skip
          refine lv_iconst (v := nI 0) hx hb dX11_canFinish_87 (by decide) ?_
          refine mh_top (y := .int (bI false)) (rfl) ?_
          refine mh_top (y := .int (bI (canF zq (s9 + 1) (i9 + 1)))) (by show _ = Value.int (bI (canF zq (s9 + 1) i9 && (!bitS (s9 + 1) i9 || decide (0 < szF zq i9)))); rw [h_66]; first | rfl | (rw [show bitS (s9 + 1) i9 = false from decide_eq_false (by omega)]; rfl) | (rw [show bitS (s9 + 1) i9 = true from decide_eq_true (by omega)]; first | (rw [decide_eq_true (by omega)]; rfl) | (rw [decide_eq_false (by omega)]; rfl))) ?_
          refine lv_istore (lv' := [(5, .int (bI (canF zq (s9 + 1) (i9 + 1)))), (4, .int (nI (cntR (bitS (s9 + 1)) 0 (i9 + 1)))), (7, .int (bI false)), (0, .ref r), (1, .int (nI ((cfB zq s9).1))), (2, .int (nI ((cfB zq s9).2))), (3, .int (nI (s9 + 1))), (6, .int (nI i9))]) hx hb dX11_canFinish_88 hl (by decide) rfl (fun ls hl => ?_)
          refine lv_iinc (v := nI (i9 + 1)) (lv' := [(6, .int (nI (i9 + 1))), (5, .int (bI (canF zq (s9 + 1) (i9 + 1)))), (4, .int (nI (cntR (bitS (s9 + 1)) 0 (i9 + 1)))), (7, .int (bI false)), (0, .ref r), (1, .int (nI ((cfB zq s9).1))), (2, .int (nI ((cfB zq s9).2))), (3, .int (nI (s9 + 1)))]) hx hb dX11_canFinish_90 hl (k := 7) rfl (nI_1 _) (by decide) rfl (fun ls hl => ?_)
          refine lv_goto (tgt := 26) hx hb dX11_canFinish_93 (by decide) ?_
          refine ih26 (i9 + 1) _ _ _ ⟨(by omega), hR, hS, lv_sub hl [4, 5, 6, 7, 2, 1, 0] rfl⟩ (by dsimp only; omega)
        · skip
          refine lv_iload hx hb dX11_canFinish_69 (lv_at hl 1 rfl) ?_
          refine mb_if_eq (tgt := 83) hB dX11_canFinish_71 (by decide) (fun h_71 => ?_) (fun h => by cases h)
          refine lv_iconst (v := nI 1) hx hb dX11_canFinish_83 (by decide) ?_
          refine mh_top (y := .int (bI true)) (rfl) ?_
          refine lv_goto (tgt := 88) hx hb dX11_canFinish_84 (by decide) ?_
          refine mh_top (y := .int (bI (canF zq (s9 + 1) (i9 + 1)))) (by show _ = Value.int (bI (canF zq (s9 + 1) i9 && (!bitS (s9 + 1) i9 || decide (0 < szF zq i9)))); rw [h_66]; first | rfl | (rw [show bitS (s9 + 1) i9 = false from decide_eq_false (by omega)]; rfl) | (rw [show bitS (s9 + 1) i9 = true from decide_eq_true (by omega)]; first | (rw [decide_eq_true (by omega)]; rfl) | (rw [decide_eq_false (by omega)]; rfl))) ?_
          refine lv_istore (lv' := [(5, .int (bI (canF zq (s9 + 1) (i9 + 1)))), (4, .int (nI (cntR (bitS (s9 + 1)) 0 (i9 + 1)))), (7, .int (bI false)), (0, .ref r), (1, .int (nI ((cfB zq s9).1))), (2, .int (nI ((cfB zq s9).2))), (3, .int (nI (s9 + 1))), (6, .int (nI i9))]) hx hb dX11_canFinish_88 hl (by decide) rfl (fun ls hl => ?_)
          refine lv_iinc (v := nI (i9 + 1)) (lv' := [(6, .int (nI (i9 + 1))), (5, .int (bI (canF zq (s9 + 1) (i9 + 1)))), (4, .int (nI (cntR (bitS (s9 + 1)) 0 (i9 + 1)))), (7, .int (bI false)), (0, .ref r), (1, .int (nI ((cfB zq s9).1))), (2, .int (nI ((cfB zq s9).2))), (3, .int (nI (s9 + 1)))]) hx hb dX11_canFinish_90 hl (k := 7) rfl (nI_1 _) (by decide) rfl (fun ls hl => ?_)
          refine lv_goto (tgt := 26) hx hb dX11_canFinish_93 (by decide) ?_
          refine ih26 (i9 + 1) _ _ _ ⟨(by omega), hR, hS, lv_sub hl [4, 5, 6, 7, 2, 1, 0] rfl⟩ (by dsimp only; omega)
      · skip
        refine lv_iconst (v := nI 1) hx hb dX11_canFinish_42 (by decide) ?_
        refine mh_top (y := .int (bI true)) (rfl) ?_
        refine lv_goto (tgt := 47) hx hb dX11_canFinish_43 (by decide) ?_
        refine lv_istore (lv' := [(7, .int (bI true)), (0, .ref r), (1, .int (nI ((cfB zq s9).1))), (2, .int (nI ((cfB zq s9).2))), (3, .int (nI (s9 + 1))), (4, .int (nI (cntR (bitS (s9 + 1)) 0 i9))), (5, .int (bI (canF zq (s9 + 1) i9))), (6, .int (nI i9))]) hx hb dX11_canFinish_47 hl (by decide) rfl (fun ls hl => ?_)
        refine lv_iload hx hb dX11_canFinish_49 (lv_at hl 5 rfl) ?_
        refine lv_iload hx hb dX11_canFinish_51 (lv_at hl 0 rfl) ?_
        refine mb_if_eq (tgt := 60) hB dX11_canFinish_53 (by decide) (fun h => by cases h) (fun h_53 => ?_)
        refine lv_iconst (v := nI 1) hx hb dX11_canFinish_56 (by decide) ?_
        refine lv_goto (tgt := 61) hx hb dX11_canFinish_57 (by decide) ?_
        refine mn_iadd hB dX11_canFinish_61 ?_
        refine mh_top (y := .int (nI (cntR (bitS (s9 + 1)) 0 (i9 + 1)))) (by simp only [cntR, bitS, Nat.zero_add, decide_eq_true_eq]; (repeat' split) <;> first | rfl | (exfalso; omega)) ?_
        refine lv_istore (lv' := [(4, .int (nI (cntR (bitS (s9 + 1)) 0 (i9 + 1)))), (7, .int (bI true)), (0, .ref r), (1, .int (nI ((cfB zq s9).1))), (2, .int (nI ((cfB zq s9).2))), (3, .int (nI (s9 + 1))), (5, .int (bI (canF zq (s9 + 1) i9))), (6, .int (nI i9))]) hx hb dX11_canFinish_62 hl (by decide) rfl (fun ls hl => ?_)
        refine lv_iload hx hb dX11_canFinish_64 (lv_at hl 6 rfl) ?_
        refine mb_if_eq (tgt := 87) hB dX11_canFinish_66 (by decide) (fun h_66 => ?_) (fun h_66 => ?_)
        · skip
          refine lv_iconst (v := nI 0) hx hb dX11_canFinish_87 (by decide) ?_
          refine mh_top (y := .int (bI false)) (rfl) ?_
          refine mh_top (y := .int (bI (canF zq (s9 + 1) (i9 + 1)))) (by show _ = Value.int (bI (canF zq (s9 + 1) i9 && (!bitS (s9 + 1) i9 || decide (0 < szF zq i9)))); rw [h_66]; first | rfl | (rw [show bitS (s9 + 1) i9 = false from decide_eq_false (by omega)]; rfl) | (rw [show bitS (s9 + 1) i9 = true from decide_eq_true (by omega)]; first | (rw [decide_eq_true (by omega)]; rfl) | (rw [decide_eq_false (by omega)]; rfl))) ?_
          refine lv_istore (lv' := [(5, .int (bI (canF zq (s9 + 1) (i9 + 1)))), (4, .int (nI (cntR (bitS (s9 + 1)) 0 (i9 + 1)))), (7, .int (bI true)), (0, .ref r), (1, .int (nI ((cfB zq s9).1))), (2, .int (nI ((cfB zq s9).2))), (3, .int (nI (s9 + 1))), (6, .int (nI i9))]) hx hb dX11_canFinish_88 hl (by decide) rfl (fun ls hl => ?_)
          refine lv_iinc (v := nI (i9 + 1)) (lv' := [(6, .int (nI (i9 + 1))), (5, .int (bI (canF zq (s9 + 1) (i9 + 1)))), (4, .int (nI (cntR (bitS (s9 + 1)) 0 (i9 + 1)))), (7, .int (bI true)), (0, .ref r), (1, .int (nI ((cfB zq s9).1))), (2, .int (nI ((cfB zq s9).2))), (3, .int (nI (s9 + 1)))]) hx hb dX11_canFinish_90 hl (k := 7) rfl (nI_1 _) (by decide) rfl (fun ls hl => ?_)
          refine lv_goto (tgt := 26) hx hb dX11_canFinish_93 (by decide) ?_
          refine ih26 (i9 + 1) _ _ _ ⟨(by omega), hR, hS, lv_sub hl [4, 5, 6, 7, 2, 1, 0] rfl⟩ (by dsimp only; omega)
        · skip
          refine lv_iload hx hb dX11_canFinish_69 (lv_at hl 1 rfl) ?_
          refine mb_if_eq (tgt := 83) hB dX11_canFinish_71 (by decide) (fun h => by cases h) (fun h_71 => ?_)
          refine lv_aload_n hx hb dX11_canFinish_74 rfl (lv_at hl 2 rfl) ?_
          refine lv_iload hx hb dX11_canFinish_75 (lv_at hl 7 rfl) ?_
          refine cl_X11_75 (As := [.int (nI i9)]) (rest := []) hB (c_X11_patches l g H r zq zsp zrm zst zsl zsv ztx zln (nI 0) zsg zbg zwd zhg zin zop zbe zwi zhi zbk zot zer zen zpo zpi zgr zsh zsn i9 hR (by omega) (hW.fr (by omega))) hR.o rfl hl.1 (Nat.le_of_ble_eq_true rfl) dX11_canFinish_77 ⟨Nat.le_of_ble_eq_true rfl, Nat.le_of_ble_eq_true rfl⟩ ⟨Nat.le_of_ble_eq_true rfl, Nat.le_of_ble_eq_true rfl⟩ hS (by have hz9 := hS.1; rintro q (h | h) <;> first | exact Or.inr (by omega) | exact h.elim | exact Or.inl h | (simp only [ftA] at h ⊢; omega)) (fun v H1 locs hpo hfr hS => ?_)
          obtain ⟨rfl, rfl⟩ := hpo
          refine W.widen (k := 0) (n := 0) (Nat.le_of_ble_eq_true rfl) (Nat.le_of_ble_eq_true rfl) ?_
          refine mn_if_le (tgt := 87) hB dX11_canFinish_80 (by decide) (by have := WF.sz (hW.fr (f := i9) (by omega)); omega) (fun h_80 => ?_) (fun h_80 => ?_)
          · skip
            refine lv_iconst (v := nI 0) hx hb dX11_canFinish_87 (by decide) ?_
            refine mh_top (y := .int (bI false)) (rfl) ?_
            refine mh_top (y := .int (bI (canF zq (s9 + 1) (i9 + 1)))) (by show _ = Value.int (bI (canF zq (s9 + 1) i9 && (!bitS (s9 + 1) i9 || decide (0 < szF zq i9)))); rw [h_66]; first | rfl | (rw [show bitS (s9 + 1) i9 = false from decide_eq_false (by omega)]; rfl) | (rw [show bitS (s9 + 1) i9 = true from decide_eq_true (by omega)]; first | (rw [decide_eq_true (by omega)]; rfl) | (rw [decide_eq_false (by omega)]; rfl))) ?_
            refine lv_istore (lv' := [(5, .int (bI (canF zq (s9 + 1) (i9 + 1)))), (4, .int (nI (cntR (bitS (s9 + 1)) 0 (i9 + 1)))), (7, .int (bI true)), (0, .ref r), (1, .int (nI ((cfB zq s9).1))), (2, .int (nI ((cfB zq s9).2))), (3, .int (nI (s9 + 1))), (6, .int (nI i9))]) hx hb dX11_canFinish_88 hl (by decide) rfl (fun ls hl => ?_)
            refine lv_iinc (v := nI (i9 + 1)) (lv' := [(6, .int (nI (i9 + 1))), (5, .int (bI (canF zq (s9 + 1) (i9 + 1)))), (4, .int (nI (cntR (bitS (s9 + 1)) 0 (i9 + 1)))), (7, .int (bI true)), (0, .ref r), (1, .int (nI ((cfB zq s9).1))), (2, .int (nI ((cfB zq s9).2))), (3, .int (nI (s9 + 1)))]) hx hb dX11_canFinish_90 hl (k := 7) rfl (nI_1 _) (by decide) rfl (fun ls hl => ?_)
            refine lv_goto (tgt := 26) hx hb dX11_canFinish_93 (by decide) ?_
            refine ih26 (i9 + 1) _ _ _ ⟨(by omega), hR, hS, lv_sub hl [4, 5, 6, 7, 2, 1, 0] rfl⟩ (by dsimp only; omega)
          · skip
            refine lv_iconst (v := nI 1) hx hb dX11_canFinish_83 (by decide) ?_
            refine mh_top (y := .int (bI true)) (rfl) ?_
            refine lv_goto (tgt := 88) hx hb dX11_canFinish_84 (by decide) ?_
            refine mh_top (y := .int (bI (canF zq (s9 + 1) (i9 + 1)))) (by show _ = Value.int (bI (canF zq (s9 + 1) i9 && (!bitS (s9 + 1) i9 || decide (0 < szF zq i9)))); rw [h_66]; first | rfl | (rw [show bitS (s9 + 1) i9 = false from decide_eq_false (by omega)]; rfl) | (rw [show bitS (s9 + 1) i9 = true from decide_eq_true (by omega)]; first | (rw [decide_eq_true (by omega)]; rfl) | (rw [decide_eq_false (by omega)]; rfl))) ?_
            refine lv_istore (lv' := [(5, .int (bI (canF zq (s9 + 1) (i9 + 1)))), (4, .int (nI (cntR (bitS (s9 + 1)) 0 (i9 + 1)))), (7, .int (bI true)), (0, .ref r), (1, .int (nI ((cfB zq s9).1))), (2, .int (nI ((cfB zq s9).2))), (3, .int (nI (s9 + 1))), (6, .int (nI i9))]) hx hb dX11_canFinish_88 hl (by decide) rfl (fun ls hl => ?_)
            refine lv_iinc (v := nI (i9 + 1)) (lv' := [(6, .int (nI (i9 + 1))), (5, .int (bI (canF zq (s9 + 1) (i9 + 1)))), (4, .int (nI (cntR (bitS (s9 + 1)) 0 (i9 + 1)))), (7, .int (bI true)), (0, .ref r), (1, .int (nI ((cfB zq s9).1))), (2, .int (nI ((cfB zq s9).2))), (3, .int (nI (s9 + 1)))]) hx hb dX11_canFinish_90 hl (k := 7) rfl (nI_1 _) (by decide) rfl (fun ls hl => ?_)
            refine lv_goto (tgt := 26) hx hb dX11_canFinish_93 (by decide) ?_
            refine ih26 (i9 + 1) _ _ _ ⟨(by omega), hR, hS, lv_sub hl [4, 5, 6, 7, 2, 1, 0] rfl⟩ (by dsimp only; omega)
