def rm_c_X11_returns : Room := { frames := 1, cells := 0, slots := 0, locals := 23 }
set_option maxRecDepth 100000 in
set_option maxHeartbeats 400000 in
theorem c_X11_returns (l : Launch) (g : GG) (H0 : Heap) (r : Nat) (zq : Nat → Int32) (zsp : Nat → Int32) (zrm : Nat → Int32) (zst : Int32) (zsl : Nat → Int32) (zsv : Nat → Int32) (ztx : Nat → Int32) (zln : Int32) (zth : Int32) (zsg : Nat → Int32) (zbg : Nat → Int32) (zwd : Nat → Int32) (zhg : Nat → Int32) (zin : Nat → Int32) (zop : Int32) (zbe : Int32) (zwi : Int32) (zhi : Int32) (zbk : Nat → Int32) (zot : Nat → Int32) (zer : Int32) (zen : Int32) (zpo : Nat → Int32) (zpi : Int32) (zgr : Int32) (zsh : Nat → Int32) (zsn : Int32) (hR : ModAt g r zq zsp zrm zst zsl zsv ztx zln zth zsg zbg zwd zhg zin zop zbe zwi zhi zbk zot zer zen zpo zpi zgr zsh zsn H0) : Ct l yX11_returns cX11_returns 7 (some .int) rm_c_X11_returns g [.ref r] H0 (ftA (fun q => r ≤ q ∧ q < r + 16) H0.size) (fun v H1 => v = some (.int (retT zq 6)) ∧ ModAt g r (retO zq 6) zsp zrm zst zsl zsv ztx zln zth zsg zbg zwd zhg zin zop zbe zwi zhi zbk zot zer zen zpo zpi zgr zsh zsn H1) := by
  refine Ct.of (by decide) (fun _ h => Or.inr h) (Nat.le_of_ble_eq_true rfl) ?_
  intro p e s m below meth c ls hB hin hS hH hl
  have hx := hB.x
  have hb := hB.b
  have hl : lv_has ls 7 [(0, .ref r)] := hl
  refine lv_iconst (v := nI 0) hx hb dX11_returns_0 (by decide) ?_
  refine lv_istore_n (lv' := [(1, .int (nI 0)), (0, .ref r)]) hx hb dX11_returns_1 rfl hl (by decide) rfl (fun ls hl => ?_)
  refine lv_iconst (v := nI 0) hx hb dX11_returns_2 (by decide) ?_
  refine lv_istore_n (lv' := [(2, .int (nI 0)), (1, .int (nI 0)), (0, .ref r)]) hx hb dX11_returns_3 rfl hl (by decide) rfl (fun ls hl => ?_)
  refine mh_loop (σ := Nat) (fun xx9 H locs ls => match xx9 with | c9 => c9 ≤ 6 ∧ ModAt g r (retO zq c9) zsp zrm zst zsl zsv ztx zln zth zsg zbg zwd zhg zin zop zbe zwi zhi zbk zot zer zen zpo zpi zgr zsh zsn H ∧ va_S (ftA (fun q => r ≤ q ∧ q < r + 16) H0.size) H0 H locs ∧ lv_has ls 7 [(0, .ref r), (1, .int (retT zq c9)), (2, .int (nI c9))]) (fun xx9 => match xx9 with | c9 => 6 - c9) ?_ 0 ⟨(by omega), hR, hS, lv_sub hl [2, 1, 0] rfl⟩
  rintro c9 H locs ls ⟨hc9, hR, hS, hl⟩ ih
  have ih4 := ih
  refine lv_iload_n hx hb dX11_returns_4 rfl (lv_at hl 2 rfl) ?_
  refine lv_bipush (v := nI 6) hx hb dX11_returns_5 (by decide) ?_
  refine mn_icmp_ge (tgt := 158) hB dX11_returns_7 (by decide) (by omega) (by omega) (fun h_7 => ?_) (fun h_7 => ?_)
  · skip
    have hin9 : c9 = 6 := by omega
    subst hin9
    refine lv_iload_n hx hb dX11_returns_158 rfl (lv_at hl 1 rfl) ?_
    refine mh_iret hB ⟨Nat.le_of_ble_eq_true rfl, Nat.le_of_ble_eq_true rfl⟩ hS dX11_returns_159 ⟨?_, ?_⟩
    · rfl
    · exact hR
  · skip
    refine lv_aload_n hx hb dX11_returns_10 rfl (lv_at hl 0 rfl) ?_
    refine gf_X11_7 hB hR.o rfl dX11_returns_11 ?_
    refine lv_bipush (v := nI 50) hx hb dX11_returns_14 (by decide) ?_
    refine lv_iload_n hx hb dX11_returns_16 rfl (lv_at hl 2 rfl) ?_
    refine mn_iadd hB dX11_returns_17 ?_
    refine mn_iald hB hR.a_zq (by omega) (by omega) dX11_returns_18 ?_
    refine lv_istore_n (lv' := [(3, .int ((retO zq c9) (50 + c9))), (0, .ref r), (1, .int (retT zq c9)), (2, .int (nI c9))]) hx hb dX11_returns_19 rfl hl (by decide) rfl (fun ls hl => ?_)
    refine lv_aload_n hx hb dX11_returns_20 rfl (lv_at hl 1 rfl) ?_
    refine lv_iload_n hx hb dX11_returns_21 rfl (lv_at hl 3 rfl) ?_
    refine cl_X11_162 (As := [.int (nI c9)]) (rest := []) hB (c_X11_givenOf l g H r (retO zq c9) zsp zrm zst zsl zsv ztx zln zth zsg zbg zwd zhg zin zop zbe zwi zhi zbk zot zer zen zpo zpi zgr zsh zsn c9 hR (by omega)) hR.o rfl hl.1 (Nat.le_of_ble_eq_true rfl) dX11_returns_22 ⟨Nat.le_of_ble_eq_true rfl, Nat.le_of_ble_eq_true rfl⟩ ⟨Nat.le_of_ble_eq_true rfl, Nat.le_of_ble_eq_true rfl⟩ hS (by have hz9 := hS.1; rintro q (h | h) <;> first | exact Or.inr (by omega) | exact h.elim | exact Or.inl h | (simp only [ftA] at h ⊢; omega)) (fun v H1 locs hpo hfr hS => ?_)
    obtain ⟨rfl, rfl⟩ := hpo
    refine W.widen (k := 0) (n := 0) (Nat.le_of_ble_eq_true rfl) (Nat.le_of_ble_eq_true rfl) ?_
    refine mh_top (y := .int (gvnQ (retO zq c9) c9)) (rfl) ?_
    refine lv_istore (lv' := [(4, .int (gvnQ (retO zq c9) c9)), (3, .int ((retO zq c9) (50 + c9))), (0, .ref r), (1, .int (retT zq c9)), (2, .int (nI c9))]) hx hb dX11_returns_25 hl (by decide) rfl (fun ls hl => ?_)
    refine lv_iconst (v := nI 0) hx hb dX11_returns_27 (by decide) ?_
    refine lv_istore (lv' := [(5, .int (nI 0)), (4, .int (gvnQ (retO zq c9) c9)), (3, .int ((retO zq c9) (50 + c9))), (0, .ref r), (1, .int (retT zq c9)), (2, .int (nI c9))]) hx hb dX11_returns_28 hl (by decide) rfl (fun ls hl => ?_)
    refine mh_loop (σ := Nat) (fun xx9 H locs ls => match xx9 with | i8 => i8 ≤ 5 ∧ (i8 = 0 ∨ ¬ (gvnQ (retO zq c9) c9) ≤ 0) ∧ ModAt g r (retI c9 ((retO zq c9) (50 + c9)) (gvnQ (retO zq c9) c9) (retO zq c9) i8) zsp zrm zst zsl zsv ztx zln zth zsg zbg zwd zhg zin zop zbe zwi zhi zbk zot zer zen zpo zpi zgr zsh zsn H ∧ va_S (ftA (fun q => r ≤ q ∧ q < r + 16) H0.size) H0 H locs ∧ lv_has ls 7 [(0, .ref r), (1, .int (retA c9 ((retO zq c9) (50 + c9)) (gvnQ (retO zq c9) c9) (retO zq c9) (retT zq c9) i8)), (2, .int (nI c9)), (3, .int ((retO zq c9) (50 + c9))), (4, .int (gvnQ (retO zq c9) c9)), (5, .int (nI i8))]) (fun xx9 => match xx9 with | i8 => 5 - i8) ?_ 0 ⟨(by omega), (Or.inl rfl), hR, hS, lv_sub hl [3, 4, 5, 2, 1, 0] rfl⟩
    rintro i8 H locs ls ⟨hi8, hg9, hR, hS, hl⟩ ih
    have ih30 := ih
    refine lv_iload hx hb dX11_returns_30 (lv_at hl 5 rfl) ?_
    refine lv_iconst (v := nI 5) hx hb dX11_returns_32 (by decide) ?_
    refine mn_icmp_ge (tgt := 121) hB dX11_returns_33 (by decide) (by omega) (by omega) (fun h_33 => ?_) (fun h_33 => ?_)
    · skip
      have hin9 : i8 = retL (retO zq c9) c9 := by
        unfold retL
        by_cases z9 : gvnQ (retO zq c9) c9 ≤ 0
        · rw [if_pos z9]; exact hg9.resolve_right (fun y9 => y9 z9)
        · rw [if_neg z9]; first | omega | exact absurd h_38 z9
      subst hin9
      refine lv_aload_n hx hb dX11_returns_121 rfl (lv_at hl 0 rfl) ?_
      refine gf_X11_7 hB hR.o rfl dX11_returns_122 ?_
      refine lv_bipush (v := nI 56) hx hb dX11_returns_125 (by decide) ?_
      refine lv_iload_n hx hb dX11_returns_127 rfl (lv_at hl 2 rfl) ?_
      refine mn_iadd hB dX11_returns_128 ?_
      refine lv_dup2_11 hx hb dX11_returns_129 rfl rfl ?_
      refine mn_iald hB hR.a_zq (by omega) (by omega) dX11_returns_130 ?_
      refine lv_aload_n hx hb dX11_returns_131 rfl (lv_at hl 0 rfl) ?_
      refine gf_X11_7 hB hR.o rfl dX11_returns_132 ?_
      refine lv_bipush (v := nI 50) hx hb dX11_returns_135 (by decide) ?_
      refine lv_iload_n hx hb dX11_returns_137 rfl (lv_at hl 2 rfl) ?_
      refine mn_iadd hB dX11_returns_138 ?_
      refine mn_iald hB hR.a_zq (by omega) (by omega) dX11_returns_139 ?_
      refine lv_iadd hx hb dX11_returns_140 ?_
      refine mn_iast hB hR.a_zq (by first | exact Or.inl rfl | (simp only [ftA]; omega) | (simp [ftA]; omega)) hS (by omega) (by omega) dX11_returns_141 (fun H locs hwr => ?_)
      obtain ⟨hR, hS⟩ := hR.w_zq hwr
      refine lv_aload_n hx hb dX11_returns_142 rfl (lv_at hl 0 rfl) ?_
      refine gf_X11_7 hB hR.o rfl dX11_returns_143 ?_
      refine lv_bipush (v := nI 50) hx hb dX11_returns_146 (by decide) ?_
      refine lv_iload_n hx hb dX11_returns_148 rfl (lv_at hl 2 rfl) ?_
      refine mn_iadd hB dX11_returns_149 ?_
      refine lv_iconst (v := nI 0) hx hb dX11_returns_150 (by decide) ?_
      refine mn_iast hB hR.a_zq (by first | exact Or.inl rfl | (simp only [ftA]; omega) | (simp [ftA]; omega)) hS (by omega) (by omega) dX11_returns_151 (fun H locs hwr => ?_)
      obtain ⟨hR, hS⟩ := hR.w_zq hwr
      refine lv_iinc (v := nI (c9 + 1)) (lv' := [(2, .int (nI (c9 + 1))), (0, .ref r), (1, .int (retA c9 ((retO zq c9) (50 + c9)) (gvnQ (retO zq c9) c9) (retO zq c9) (retT zq c9) (retL (retO zq c9) c9))), (3, .int ((retO zq c9) (50 + c9))), (4, .int (gvnQ (retO zq c9) c9)), (5, .int (nI (retL (retO zq c9) c9)))]) hx hb dX11_returns_152 hl (k := 2) rfl (nI_1 _) (by decide) rfl (fun ls hl => ?_)
      refine lv_goto (tgt := 4) hx hb dX11_returns_155 (by decide) ?_
      refine ih4 (c9 + 1) _ _ _ ⟨(by omega), hR, hS, lv_sub hl [1, 2, 0] rfl⟩ (by dsimp only; omega)
    · skip
      refine lv_iload hx hb dX11_returns_36 (lv_at hl 4 rfl) ?_
      refine lv_if_le (tgt := 121) hx hb dX11_returns_38 (by decide) (fun h_38 => ?_) (fun h_38 => ?_)
      · skip
        have hin9 : i8 = retL (retO zq c9) c9 := by
          unfold retL
          by_cases z9 : gvnQ (retO zq c9) c9 ≤ 0
          · rw [if_pos z9]; exact hg9.resolve_right (fun y9 => y9 z9)
          · rw [if_neg z9]; first | omega | exact absurd h_38 z9
        subst hin9
        refine lv_aload_n hx hb dX11_returns_121 rfl (lv_at hl 0 rfl) ?_
        refine gf_X11_7 hB hR.o rfl dX11_returns_122 ?_
        refine lv_bipush (v := nI 56) hx hb dX11_returns_125 (by decide) ?_
        refine lv_iload_n hx hb dX11_returns_127 rfl (lv_at hl 2 rfl) ?_
        refine mn_iadd hB dX11_returns_128 ?_
        refine lv_dup2_11 hx hb dX11_returns_129 rfl rfl ?_
        refine mn_iald hB hR.a_zq (by omega) (by omega) dX11_returns_130 ?_
        refine lv_aload_n hx hb dX11_returns_131 rfl (lv_at hl 0 rfl) ?_
        refine gf_X11_7 hB hR.o rfl dX11_returns_132 ?_
        refine lv_bipush (v := nI 50) hx hb dX11_returns_135 (by decide) ?_
        refine lv_iload_n hx hb dX11_returns_137 rfl (lv_at hl 2 rfl) ?_
        refine mn_iadd hB dX11_returns_138 ?_
        refine mn_iald hB hR.a_zq (by omega) (by omega) dX11_returns_139 ?_
        refine lv_iadd hx hb dX11_returns_140 ?_
        refine mn_iast hB hR.a_zq (by first | exact Or.inl rfl | (simp only [ftA]; omega) | (simp [ftA]; omega)) hS (by omega) (by omega) dX11_returns_141 (fun H locs hwr => ?_)
        obtain ⟨hR, hS⟩ := hR.w_zq hwr
        refine lv_aload_n hx hb dX11_returns_142 rfl (lv_at hl 0 rfl) ?_
        refine gf_X11_7 hB hR.o rfl dX11_returns_143 ?_
        refine lv_bipush (v := nI 50) hx hb dX11_returns_146 (by decide) ?_
        refine lv_iload_n hx hb dX11_returns_148 rfl (lv_at hl 2 rfl) ?_
        refine mn_iadd hB dX11_returns_149 ?_
        refine lv_iconst (v := nI 0) hx hb dX11_returns_150 (by decide) ?_
        refine mn_iast hB hR.a_zq (by first | exact Or.inl rfl | (simp only [ftA]; omega) | (simp [ftA]; omega)) hS (by omega) (by omega) dX11_returns_151 (fun H locs hwr => ?_)
        obtain ⟨hR, hS⟩ := hR.w_zq hwr
        refine lv_iinc (v := nI (c9 + 1)) (lv' := [(2, .int (nI (c9 + 1))), (0, .ref r), (1, .int (retA c9 ((retO zq c9) (50 + c9)) (gvnQ (retO zq c9) c9) (retO zq c9) (retT zq c9) (retL (retO zq c9) c9))), (3, .int ((retO zq c9) (50 + c9))), (4, .int (gvnQ (retO zq c9) c9)), (5, .int (nI (retL (retO zq c9) c9)))]) hx hb dX11_returns_152 hl (k := 2) rfl (nI_1 _) (by decide) rfl (fun ls hl => ?_)
        refine lv_goto (tgt := 4) hx hb dX11_returns_155 (by decide) ?_
        refine ih4 (c9 + 1) _ _ _ ⟨(by omega), hR, hS, lv_sub hl [1, 2, 0] rfl⟩ (by dsimp only; omega)
      · skip
        refine lv_iload_n hx hb dX11_returns_41 rfl (lv_at hl 3 rfl) ?_
        refine lv_i2l (v := (((retO zq c9) (50 + c9))).toInt64) hx hb dX11_returns_42 rfl ?_
        refine lv_aload_n hx hb dX11_returns_43 rfl (lv_at hl 0 rfl) ?_
        refine gf_X11_7 hB hR.o rfl dX11_returns_44 ?_
        refine lv_bipush (v := nI 15) hx hb dX11_returns_47 (by decide) ?_
        refine lv_bipush (v := nI 6) hx hb dX11_returns_49 (by decide) ?_
        refine lv_iload hx hb dX11_returns_51 (lv_at hl 5 rfl) ?_
        refine mn_imul hB dX11_returns_53 ?_
        refine mn_iadd hB dX11_returns_54 ?_
        refine lv_iload_n hx hb dX11_returns_55 rfl (lv_at hl 2 rfl) ?_
        refine mn_iadd hB dX11_returns_56 ?_
        refine mn_iald hB hR.a_zq (by omega) (by omega) dX11_returns_57 ?_
        refine lv_i2l (v := ((retI c9 ((retO zq c9) (50 + c9)) (gvnQ (retO zq c9) c9) (retO zq c9) i8) ((15 + (6 * i8)) + c9)).toInt64) hx hb dX11_returns_58 rfl ?_
        refine lv_lmul hx hb dX11_returns_59 ?_
        refine lv_iload hx hb dX11_returns_60 (lv_at hl 4 rfl) ?_
        refine lv_i2l (v := ((gvnQ (retO zq c9) c9)).toInt64) hx hb dX11_returns_62 rfl ?_
        refine lv_ldiv hx hb dX11_returns_63 (l64ne h_38) ?_
        refine lv_l2i (v := ((((((retO zq c9) (50 + c9))).toInt64) * (((retI c9 ((retO zq c9) (50 + c9)) (gvnQ (retO zq c9) c9) (retO zq c9) i8) ((15 + (6 * i8)) + c9)).toInt64)) / (((gvnQ (retO zq c9) c9)).toInt64)).toInt32) hx hb dX11_returns_64 rfl ?_
        refine mh_top (y := .int (retN (retI c9 ((retO zq c9) (50 + c9)) (gvnQ (retO zq c9) c9) (retO zq c9) i8) c9 ((retO zq c9) (50 + c9)) (gvnQ (retO zq c9) c9) i8)) (rfl) ?_
        refine lv_istore (lv' := [(6, .int (retN (retI c9 ((retO zq c9) (50 + c9)) (gvnQ (retO zq c9) c9) (retO zq c9) i8) c9 ((retO zq c9) (50 + c9)) (gvnQ (retO zq c9) c9) i8)), (0, .ref r), (1, .int (retA c9 ((retO zq c9) (50 + c9)) (gvnQ (retO zq c9) c9) (retO zq c9) (retT zq c9) i8)), (2, .int (nI c9)), (3, .int ((retO zq c9) (50 + c9))), (4, .int (gvnQ (retO zq c9) c9)), (5, .int (nI i8))]) hx hb dX11_returns_65 hl (by decide) rfl (fun ls hl => ?_)
        refine lv_aload_n hx hb dX11_returns_67 rfl (lv_at hl 1 rfl) ?_
        refine gf_X11_7 hB hR.o rfl dX11_returns_68 ?_
        refine lv_bipush (v := nI 45) hx hb dX11_returns_71 (by decide) ?_
        refine lv_iload hx hb dX11_returns_73 (lv_at hl 6 rfl) ?_
        refine mn_iadd hB dX11_returns_75 ?_
        refine lv_dup2_11 hx hb dX11_returns_76 rfl rfl ?_
        refine mn_iald hB hR.a_zq (by omega) (by omega) dX11_returns_77 ?_
        refine lv_iload hx hb dX11_returns_78 (lv_at hl 0 rfl) ?_
        refine lv_iadd hx hb dX11_returns_80 ?_
        refine mn_iast hB hR.a_zq (by first | exact Or.inl rfl | (simp only [ftA]; omega) | (simp [ftA]; omega)) hS (by omega) (by omega) dX11_returns_81 (fun H locs hwr => ?_)
        obtain ⟨hR, hS⟩ := hR.w_zq hwr
        refine lv_aload_n hx hb dX11_returns_82 rfl (lv_at hl 1 rfl) ?_
        refine gf_X11_7 hB hR.o rfl dX11_returns_83 ?_
        refine lv_bipush (v := nI 62) hx hb dX11_returns_86 (by decide) ?_
        refine lv_iload_n hx hb dX11_returns_88 rfl (lv_at hl 3 rfl) ?_
        refine mn_iadd hB dX11_returns_89 ?_
        refine lv_dup2_11 hx hb dX11_returns_90 rfl rfl ?_
        refine mn_iald hB hR.a_zq (by omega) (by omega) dX11_returns_91 ?_
        refine lv_iload hx hb dX11_returns_92 (lv_at hl 0 rfl) ?_
        refine lv_iadd hx hb dX11_returns_94 ?_
        refine mn_iast hB hR.a_zq (by first | exact Or.inl rfl | (simp only [ftA]; omega) | (simp [ftA]; omega)) hS (by omega) (by omega) dX11_returns_95 (fun H locs hwr => ?_)
        obtain ⟨hR, hS⟩ := hR.w_zq hwr
        refine lv_aload_n hx hb dX11_returns_96 rfl (lv_at hl 1 rfl) ?_
        refine gf_X11_7 hB hR.o rfl dX11_returns_97 ?_
        refine lv_bipush (v := nI 50) hx hb dX11_returns_100 (by decide) ?_
        refine lv_iload_n hx hb dX11_returns_102 rfl (lv_at hl 3 rfl) ?_
        refine mn_iadd hB dX11_returns_103 ?_
        refine lv_dup2_11 hx hb dX11_returns_104 rfl rfl ?_
        refine mn_iald hB hR.a_zq (by omega) (by omega) dX11_returns_105 ?_
        refine lv_iload hx hb dX11_returns_106 (lv_at hl 0 rfl) ?_
        refine lv_isub hx hb dX11_returns_108 ?_
        refine mn_iast hB hR.a_zq (by first | exact Or.inl rfl | (simp only [ftA]; omega) | (simp [ftA]; omega)) hS (by omega) (by omega) dX11_returns_109 (fun H locs hwr => ?_)
        obtain ⟨hR, hS⟩ := hR.w_zq hwr
        refine lv_iload_n hx hb dX11_returns_110 rfl (lv_at hl 2 rfl) ?_
        refine lv_iload hx hb dX11_returns_111 (lv_at hl 0 rfl) ?_
        refine lv_iadd hx hb dX11_returns_113 ?_
        refine mh_top (y := .int (retA c9 ((retO zq c9) (50 + c9)) (gvnQ (retO zq c9) c9) (retO zq c9) (retT zq c9) (i8 + 1))) (rfl) ?_
        refine lv_istore_n (lv' := [(1, .int (retA c9 ((retO zq c9) (50 + c9)) (gvnQ (retO zq c9) c9) (retO zq c9) (retT zq c9) (i8 + 1))), (6, .int (retN (retI c9 ((retO zq c9) (50 + c9)) (gvnQ (retO zq c9) c9) (retO zq c9) i8) c9 ((retO zq c9) (50 + c9)) (gvnQ (retO zq c9) c9) i8)), (0, .ref r), (2, .int (nI c9)), (3, .int ((retO zq c9) (50 + c9))), (4, .int (gvnQ (retO zq c9) c9)), (5, .int (nI i8))]) hx hb dX11_returns_114 rfl hl (by decide) rfl (fun ls hl => ?_)
        refine lv_iinc (v := nI (i8 + 1)) (lv' := [(5, .int (nI (i8 + 1))), (1, .int (retA c9 ((retO zq c9) (50 + c9)) (gvnQ (retO zq c9) c9) (retO zq c9) (retT zq c9) (i8 + 1))), (6, .int (retN (retI c9 ((retO zq c9) (50 + c9)) (gvnQ (retO zq c9) c9) (retO zq c9) i8) c9 ((retO zq c9) (50 + c9)) (gvnQ (retO zq c9) c9) i8)), (0, .ref r), (2, .int (nI c9)), (3, .int ((retO zq c9) (50 + c9))), (4, .int (gvnQ (retO zq c9) c9))]) hx hb dX11_returns_115 hl (k := 6) rfl (nI_1 _) (by decide) rfl (fun ls hl => ?_)
        refine lv_goto (tgt := 30) hx hb dX11_returns_118 (by decide) ?_
        refine ih30 (i8 + 1) _ _ _ ⟨(by omega), (Or.inr h_38), hR, hS, lv_sub hl [3, 1, 4, 5, 6, 0] rfl⟩ (by dsimp only; omega)

def rm_c_X11_returnCloth : Room := { frames := 2, cells := 0, slots := 0, locals := 49 }
set_option maxRecDepth 100000 in
set_option maxHeartbeats 400000 in
theorem c_X11_returnCloth (l : Launch) (g : GG) (H0 : Heap) (r : Nat) (zq : Nat → Int32) (zsp : Nat → Int32) (zrm : Nat → Int32) (zsl : Nat → Int32) (zsv : Nat → Int32) (ztx : Nat → Int32) (zln : Int32) (zth : Int32) (zsg : Nat → Int32) (zbg : Nat → Int32) (zwd : Nat → Int32) (zhg : Nat → Int32) (zin : Nat → Int32) (zop : Int32) (zbe : Int32) (zwi : Int32) (zhi : Int32) (zbk : Nat → Int32) (zot : Nat → Int32) (zer : Int32) (zen : Int32) (zpo : Nat → Int32) (zpi : Int32) (zgr : Int32) (zsh : Nat → Int32) (zsn : Int32) (n : Nat) (hR : ModAt g r zq zsp zrm (nI n) zsl zsv ztx zln zth zsg zbg zwd zhg zin zop zbe zwi zhi zbk zot zer zen zpo zpi zgr zsh zsn H0) (hn : n ≤ 14) : Ct l yX11_returnCloth cX11_returnCloth 1 (some .int) rm_c_X11_returnCloth g [.ref r] H0 (ftA (fun q => r ≤ q ∧ q < r + 16) H0.size) (fun v H1 => v = some (.int (retT zq 6)) ∧ ModAt g r (retO zq 6) zsp (remA zrm n zq) (nI (nxtS n)) zsl zsv ztx zln (nI 0) zsg zbg zwd zhg zin zop zbe zwi zhi zbk zot zer zen zpo zpi zgr zsh zsn H1) := by
  refine Ct.of (by decide) (fun _ h => Or.inr h) (Nat.le_of_ble_eq_true rfl) ?_
  intro p e s m below meth c ls hB hin hS hH hl
  have hx := hB.x
  have hb := hB.b
  have hl : lv_has ls 1 [(0, .ref r)] := hl
  refine lv_aload_n hx hb dX11_returnCloth_0 rfl (lv_at hl 0 rfl) ?_
  refine lv_iconst (v := nI 0) hx hb dX11_returnCloth_1 (by decide) ?_
  refine pf_X11_56 hB hR.o (by first | exact Or.inl rfl | (simp only [ftA]; omega) | (simp [ftA]; omega)) hS rfl rfl (Nat.le_of_ble_eq_true rfl) dX11_returnCloth_2 (fun H locs hwr => ?_)
  obtain ⟨hR, hS⟩ := hR.w_zth hwr
  refine lv_aload_n hx hb dX11_returnCloth_5 rfl (lv_at hl 0 rfl) ?_
  refine cl_X11_200 (As := []) (rest := []) hB (c_X11_remember l g H r zq zsp zrm zsl zsv ztx zln (nI 0) zsg zbg zwd zhg zin zop zbe zwi zhi zbk zot zer zen zpo zpi zgr zsh zsn n hR (by omega)) hR.o rfl hl.1 (Nat.le_of_ble_eq_true rfl) dX11_returnCloth_6 ⟨Nat.le_of_ble_eq_true rfl, Nat.le_of_ble_eq_true rfl⟩ ⟨Nat.le_of_ble_eq_true rfl, Nat.le_of_ble_eq_true rfl⟩ hS (by have hz9 := hS.1; rintro q (h | h) <;> first | exact Or.inr (by omega) | exact h.elim | exact Or.inl h | (simp only [ftA] at h ⊢; omega)) (fun v H1 locs hpo hfr hS => ?_)
  obtain ⟨rfl, hR⟩ := hpo
  generalize H1 = H at hfr hS hR ⊢
  refine W.widen (k := 0) (n := 0) (Nat.le_of_ble_eq_true rfl) (Nat.le_of_ble_eq_true rfl) ?_
  refine lv_aload_n hx hb dX11_returnCloth_9 rfl (lv_at hl 0 rfl) ?_
  refine cl_X11_241 (As := []) (rest := []) hB (c_X11_returns l g H r zq zsp (remA zrm n zq) (nI (nxtS n)) zsl zsv ztx zln (nI 0) zsg zbg zwd zhg zin zop zbe zwi zhi zbk zot zer zen zpo zpi zgr zsh zsn hR) hR.o rfl hl.1 (Nat.le_of_ble_eq_true rfl) dX11_returnCloth_10 ⟨Nat.le_of_ble_eq_true rfl, Nat.le_of_ble_eq_true rfl⟩ ⟨Nat.le_of_ble_eq_true rfl, Nat.le_of_ble_eq_true rfl⟩ hS (by have hz9 := hS.1; rintro q (h | h) <;> first | exact Or.inr (by omega) | exact h.elim | exact Or.inl h | (simp only [ftA] at h ⊢; omega)) (fun v H1 locs hpo hfr hS => ?_)
  obtain ⟨rfl, hR⟩ := hpo
  generalize H1 = H at hfr hS hR ⊢
  refine W.widen (k := 0) (n := 0) (Nat.le_of_ble_eq_true rfl) (Nat.le_of_ble_eq_true rfl) ?_
  refine mh_iret hB ⟨Nat.le_of_ble_eq_true rfl, Nat.le_of_ble_eq_true rfl⟩ hS dX11_returnCloth_13 ⟨?_, ?_⟩
  · rfl
  · exact hR

def rm_c_X11_undo : Room := { frames := 0, cells := 0, slots := 0, locals := 0 }
set_option maxRecDepth 100000 in
set_option maxHeartbeats 400000 in
theorem c_X11_undo (l : Launch) (g : GG) (H0 : Heap) (r : Nat) (zq : Nat → Int32) (zsp : Nat → Int32) (zrm : Nat → Int32) (zsl : Nat → Int32) (zsv : Nat → Int32) (ztx : Nat → Int32) (zln : Int32) (zth : Int32) (zsg : Nat → Int32) (zbg : Nat → Int32) (zwd : Nat → Int32) (zhg : Nat → Int32) (zin : Nat → Int32) (zop : Int32) (zbe : Int32) (zwi : Int32) (zhi : Int32) (zbk : Nat → Int32) (zot : Nat → Int32) (zer : Int32) (zen : Int32) (zpo : Nat → Int32) (zpi : Int32) (zgr : Int32) (zsh : Nat → Int32) (zsn : Int32) (n : Nat) (hR : ModAt g r zq zsp zrm (nI n) zsl zsv ztx zln zth zsg zbg zwd zhg zin zop zbe zwi zhi zbk zot zer zen zpo zpi zgr zsh zsn H0) (hn0 : 0 < n) (hn : n ≤ 14) : Ct l yX11_undo cX11_undo 2 (some .int) rm_c_X11_undo g [.ref r] H0 (ftA (fun q => r ≤ q ∧ q < r + 16) H0.size) (fun v H1 => v = some (.int (nI (n - 1))) ∧ ModAt g r (fun j9 => zrm (866 * (n - 1) + j9)) zsp zrm (nI (n - 1)) zsl zsv ztx zln (nI 0) zsg zbg zwd zhg zin zop zbe zwi zhi zbk zot zer zen zpo zpi zgr zsh zsn H1) := by
  refine Ct.of (by decide) (fun _ h => Or.inr h) (Nat.le_of_ble_eq_true rfl) ?_
  intro p e s m below meth c ls hB hin hS hH hl
  have hx := hB.x
  have hb := hB.b
  have hl : lv_has ls 2 [(0, .ref r)] := hl
  refine lv_aload_n hx hb dX11_undo_0 rfl (lv_at hl 0 rfl) ?_
  refine lv_iconst (v := nI 0) hx hb dX11_undo_1 (by decide) ?_
  refine pf_X11_56 hB hR.o (by first | exact Or.inl rfl | (simp only [ftA]; omega) | (simp [ftA]; omega)) hS rfl rfl (Nat.le_of_ble_eq_true rfl) dX11_undo_2 (fun H locs hwr => ?_)
  obtain ⟨hR, hS⟩ := hR.w_zth hwr
  refine lv_aload_n hx hb dX11_undo_5 rfl (lv_at hl 0 rfl) ?_
  refine gf_X11_60 hB hR.o rfl dX11_undo_6 ?_
  refine mn_if_ne (tgt := 18) hB dX11_undo_9 (by decide) (by omega) (fun h_9 => ?_) (fun h => by exfalso; omega)
  refine lv_aload_n hx hb dX11_undo_18 rfl (lv_at hl 0 rfl) ?_
  refine lv_dup hx hb dX11_undo_19 rfl ?_
  refine gf_X11_60 hB hR.o rfl dX11_undo_20 ?_
  refine lv_iconst (v := nI 1) hx hb dX11_undo_23 (by decide) ?_
  refine mn_isub hB dX11_undo_24 (by omega) ?_
  refine pf_X11_60 hB hR.o (by first | exact Or.inl rfl | (simp only [ftA]; omega) | (simp [ftA]; omega)) hS rfl rfl (Nat.le_of_ble_eq_true rfl) dX11_undo_25 (fun H locs hwr => ?_)
  obtain ⟨hR, hS⟩ := hR.w_zst hwr
  refine lv_iconst (v := nI 0) hx hb dX11_undo_28 (by decide) ?_
  refine lv_istore_n (lv' := [(1, .int (nI 0)), (0, .ref r)]) hx hb dX11_undo_29 rfl hl (by decide) rfl (fun ls hl => ?_)
  refine mh_loop (σ := Nat) (fun xx9 H locs ls => match xx9 with | i9 => i9 ≤ 866 ∧ ModAt g r (lowOf (fun j9 => zrm (866 * (n - 1) + j9)) zq i9) zsp zrm (nI (n - 1)) zsl zsv ztx zln (nI 0) zsg zbg zwd zhg zin zop zbe zwi zhi zbk zot zer zen zpo zpi zgr zsh zsn H ∧ va_S (ftA (fun q => r ≤ q ∧ q < r + 16) H0.size) H0 H locs ∧ lv_has ls 2 [(0, .ref r), (1, .int (nI i9))]) (fun xx9 => match xx9 with | i9 => 866 - i9) ?_ 0 ⟨(by omega), (by rw [lowOf_0]; exact hR), hS, lv_sub hl [1, 0] rfl⟩
  rintro i9 H locs ls ⟨hi9, hR, hS, hl⟩ ih
  have ih30 := ih
  refine lv_iload_n hx hb dX11_undo_30 rfl (lv_at hl 1 rfl) ?_
  refine lv_sipush (v := nI 866) hx hb dX11_undo_31 (by decide +kernel) ?_
  refine mn_icmp_ge (tgt := 64) hB dX11_undo_34 (by decide) (by omega) (by omega) (fun h_34 => ?_) (fun h_34 => ?_)
  · skip
    have hin9 : i9 = 866 := by omega
    subst hin9
    refine lv_aload_n hx hb dX11_undo_64 rfl (lv_at hl 0 rfl) ?_
    refine gf_X11_60 hB hR.o rfl dX11_undo_65 ?_
    refine mh_iret hB ⟨Nat.le_of_ble_eq_true rfl, Nat.le_of_ble_eq_true rfl⟩ hS dX11_undo_68 ⟨?_, ?_⟩
    · rfl
    · exact hR.eq_zq (fun j7 hj => lowOf_all _ _ hj)
  · skip
    refine lv_aload_n hx hb dX11_undo_37 rfl (lv_at hl 0 rfl) ?_
    refine gf_X11_7 hB hR.o rfl dX11_undo_38 ?_
    refine lv_iload_n hx hb dX11_undo_41 rfl (lv_at hl 1 rfl) ?_
    refine lv_aload_n hx hb dX11_undo_42 rfl (lv_at hl 0 rfl) ?_
    refine gf_X11_16 hB hR.o rfl dX11_undo_43 ?_
    refine lv_sipush (v := nI 866) hx hb dX11_undo_46 (by decide +kernel) ?_
    refine lv_aload_n hx hb dX11_undo_49 rfl (lv_at hl 0 rfl) ?_
    refine gf_X11_60 hB hR.o rfl dX11_undo_50 ?_
    refine mn_imul hB dX11_undo_53 ?_
    refine lv_iload_n hx hb dX11_undo_54 rfl (lv_at hl 1 rfl) ?_
    refine mn_iadd hB dX11_undo_55 ?_
    refine mn_iald hB hR.a_zrm (by omega) (by omega) dX11_undo_56 ?_
    refine mn_iast hB hR.a_zq (by first | exact Or.inl rfl | (simp only [ftA]; omega) | (simp [ftA]; omega)) hS (by omega) (by omega) dX11_undo_57 (fun H locs hwr => ?_)
    obtain ⟨hR, hS⟩ := hR.w_zq hwr
    refine lv_iinc (v := nI (i9 + 1)) (lv' := [(1, .int (nI (i9 + 1))), (0, .ref r)]) hx hb dX11_undo_58 hl (k := 1) rfl (nI_1 _) (by decide) rfl (fun ls hl => ?_)
    refine lv_goto (tgt := 30) hx hb dX11_undo_61 (by decide) ?_
    refine ih30 (i9 + 1) _ _ _ ⟨(by omega), (by rw [← lowOf_up]; exact hR), hS, lv_sub hl [1, 0] rfl⟩ (by dsimp only; omega)

def rm_c_X11_undo_t1 : Room := { frames := 1, cells := 0, slots := 0, locals := 21 }
set_option maxRecDepth 100000 in
set_option maxHeartbeats 400000 in
theorem c_X11_undo_t1 (l : Launch) (g : GG) (H0 : Heap) (r : Nat) (zq : Nat → Int32) (zsp : Nat → Int32) (zrm : Nat → Int32) (zsl : Nat → Int32) (zsv : Nat → Int32) (ztx : Nat → Int32) (zln : Int32) (zth : Int32) (zsg : Nat → Int32) (zbg : Nat → Int32) (zwd : Nat → Int32) (zhg : Nat → Int32) (zin : Nat → Int32) (zop : Int32) (zbe : Int32) (zwi : Int32) (zhi : Int32) (zbk : Nat → Int32) (zot : Nat → Int32) (zer : Int32) (zen : Int32) (zpo : Nat → Int32) (zpi : Int32) (zgr : Int32) (zsh : Nat → Int32) (zsn : Int32) (hR : ModAt g r zq zsp zrm (nI 0) zsl zsv ztx zln zth zsg zbg zwd zhg zin zop zbe zwi zhi zbk zot zer zen zpo zpi zgr zsh zsn H0) : Ct l yX11_undo cX11_undo 2 (some .int) rm_c_X11_undo_t1 g [.ref r] H0 (ftA (fun q => r ≤ q ∧ q < r + 16) H0.size) (fun v H1 => v = some (.int (nI 0)) ∧ ModAt g r zq zsp zrm (nI 0) zsl zsv ztx zln (nI 1) zsg zbg zwd zhg zin zop zbe zwi zhi zbk zot zer zen zpo zpi zgr zsh zsn H1) := by
  refine Ct.of (by decide) (fun _ h => Or.inr h) (Nat.le_of_ble_eq_true rfl) ?_
  intro p e s m below meth c ls hB hin hS hH hl
  have hx := hB.x
  have hb := hB.b
  have hl : lv_has ls 2 [(0, .ref r)] := hl
  refine lv_aload_n hx hb dX11_undo_0 rfl (lv_at hl 0 rfl) ?_
  refine lv_iconst (v := nI 0) hx hb dX11_undo_1 (by decide) ?_
  refine pf_X11_56 hB hR.o (by first | exact Or.inl rfl | (simp only [ftA]; omega) | (simp [ftA]; omega)) hS rfl rfl (Nat.le_of_ble_eq_true rfl) dX11_undo_2 (fun H locs hwr => ?_)
  obtain ⟨hR, hS⟩ := hR.w_zth hwr
  refine lv_aload_n hx hb dX11_undo_5 rfl (lv_at hl 0 rfl) ?_
  refine gf_X11_60 hB hR.o rfl dX11_undo_6 ?_
  refine mn_if_ne (tgt := 18) hB dX11_undo_9 (by decide) (by omega) (fun h => by exfalso; omega) (fun h_9 => ?_)
  refine lv_aload_n hx hb dX11_undo_12 rfl (lv_at hl 0 rfl) ?_
  refine lv_iconst (v := nI 1) hx hb dX11_undo_13 (by decide) ?_
  refine cl_X11_81 (As := [.int (nI 1)]) (rest := []) hB (c_X11_fails l g H r zq zsp zrm (nI 0) zsl zsv ztx zln (nI 0) zsg zbg zwd zhg zin zop zbe zwi zhi zbk zot zer zen zpo zpi zgr zsh zsn (nI 1) hR) hR.o rfl hl.1 (Nat.le_of_ble_eq_true rfl) dX11_undo_14 ⟨Nat.le_of_ble_eq_true rfl, Nat.le_of_ble_eq_true rfl⟩ ⟨Nat.le_of_ble_eq_true rfl, Nat.le_of_ble_eq_true rfl⟩ hS (by have hz9 := hS.1; rintro q (h | h) <;> first | exact Or.inr (by omega) | exact h.elim | exact Or.inl h | (simp only [ftA] at h ⊢; omega)) (fun v H1 locs hpo hfr hS => ?_)
  obtain ⟨rfl, hR⟩ := hpo
  generalize H1 = H at hfr hS hR ⊢
  refine W.widen (k := 0) (n := 0) (Nat.le_of_ble_eq_true rfl) (Nat.le_of_ble_eq_true rfl) ?_
  refine mh_iret hB ⟨Nat.le_of_ble_eq_true rfl, Nat.le_of_ble_eq_true rfl⟩ hS dX11_undo_17 ⟨?_, ?_⟩
  · rfl
  · exact hR

def rm_c_X11_save : Room := { frames := 1, cells := 0, slots := 0, locals := 25 }
set_option maxRecDepth 100000 in
set_option maxHeartbeats 400000 in
theorem c_X11_save (l : Launch) (g : GG) (H0 : Heap) (r : Nat) (zq : Nat → Int32) (zsp : Nat → Int32) (zrm : Nat → Int32) (zst : Int32) (zsl : Nat → Int32) (zsv : Nat → Int32) (ztx : Nat → Int32) (zln : Int32) (zth : Int32) (zsg : Nat → Int32) (zbg : Nat → Int32) (zwd : Nat → Int32) (zhg : Nat → Int32) (zin : Nat → Int32) (zop : Int32) (zbe : Int32) (zwi : Int32) (zhi : Int32) (zbk : Nat → Int32) (zot : Nat → Int32) (zer : Int32) (zen : Int32) (zpo : Nat → Int32) (zpi : Int32) (zgr : Int32) (zsh : Nat → Int32) (zsn : Int32) (k0 : Nat) (hR : ModAt g r zq zsp zrm zst zsl zsv ztx zln zth zsg zbg zwd zhg zin zop zbe zwi zhi zbk zot zer zen zpo zpi zgr zsh zsn H0) (hk : k0 < 2) : Ct l yX11_save cX11_save 3 (some .int) rm_c_X11_save g [.ref r, .int (nI k0)] H0 (ftA (fun q => r ≤ q ∧ q < r + 16) H0.size) (fun v H1 => v = some (.int (zq 0)) ∧ ModAt g r zq zsp zrm zst (remU zsl k0 zq 866) (upd zsv k0 (vp_nar .boolean (nI 1))) ztx zln (nI 0) zsg zbg zwd zhg zin zop zbe zwi zhi zbk zot zer zen zpo zpi zgr zsh zsn H1) := by
  refine Ct.of (by decide) (fun _ h => Or.inr h) (Nat.le_of_ble_eq_true rfl) ?_
  intro p e s m below meth c ls hB hin hS hH hl
  have hx := hB.x
  have hb := hB.b
  have hl : lv_has ls 3 [(0, .ref r), (1, .int (nI k0))] := hl
  refine lv_aload_n hx hb dX11_save_0 rfl (lv_at hl 0 rfl) ?_
  refine lv_iconst (v := nI 0) hx hb dX11_save_1 (by decide) ?_
  refine pf_X11_56 hB hR.o (by first | exact Or.inl rfl | (simp only [ftA]; omega) | (simp [ftA]; omega)) hS rfl rfl (Nat.le_of_ble_eq_true rfl) dX11_save_2 (fun H locs hwr => ?_)
  obtain ⟨hR, hS⟩ := hR.w_zth hwr
  refine lv_iload_n hx hb dX11_save_5 rfl (lv_at hl 1 rfl) ?_
  refine lv_i2l (v := (nI k0).toInt64) hx hb dX11_save_6 rfl ?_
  refine lv_lconst (v := 0) hx hb dX11_save_7 (by decide) ?_
  refine lv_lconst (v := 1) hx hb dX11_save_8 (by decide) ?_
  refine cl_X11_63 (As := [.long ((nI k0).toInt64), .long 0, .long 1]) (rest := []) hB (c_X11_in l g H ((nI k0).toInt64) 0 1) rfl hl.1 (Nat.le_of_ble_eq_true rfl) dX11_save_9 ⟨Nat.le_of_ble_eq_true rfl, Nat.le_of_ble_eq_true rfl⟩ ⟨Nat.le_of_ble_eq_true rfl, Nat.le_of_ble_eq_true rfl⟩ hS (by have hz9 := hS.1; rintro q (h | h) <;> first | exact Or.inr (by omega) | exact h.elim | exact Or.inl h | (simp only [ftA] at h ⊢; omega)) (fun v H1 locs hpo hfr hS => ?_)
  obtain ⟨rfl, rfl⟩ := hpo
  refine W.widen (k := 0) (n := 0) (Nat.le_of_ble_eq_true rfl) (Nat.le_of_ble_eq_true rfl) ?_
  refine mh_top (y := .int (bI (isIx (nI k0) 2))) (by rw [inL_ix _ 2 _ (by decide +kernel)]) ?_
  refine mb_if_ne (tgt := 21) hB dX11_save_12 (by decide) (fun h_12 => ?_) (fun h => by rw [isIx_of hk (by omega)] at h; cases h)
  refine lv_iconst (v := nI 0) hx hb dX11_save_21 (by decide) ?_
  refine lv_istore_n (lv' := [(2, .int (nI 0)), (0, .ref r), (1, .int (nI k0))]) hx hb dX11_save_22 rfl hl (by decide) rfl (fun ls hl => ?_)
  refine mh_loop (σ := Nat) (fun xx9 H locs ls => match xx9 with | i9 => i9 ≤ 866 ∧ ModAt g r zq zsp zrm zst (remU zsl k0 zq i9) zsv ztx zln (nI 0) zsg zbg zwd zhg zin zop zbe zwi zhi zbk zot zer zen zpo zpi zgr zsh zsn H ∧ va_S (ftA (fun q => r ≤ q ∧ q < r + 16) H0.size) H0 H locs ∧ lv_has ls 3 [(0, .ref r), (1, .int (nI k0)), (2, .int (nI i9))]) (fun xx9 => match xx9 with | i9 => 866 - i9) ?_ 0 ⟨(by omega), (by rw [remU_0]; exact hR), hS, lv_sub hl [1, 2, 0] rfl⟩
  rintro i9 H locs ls ⟨hi9, hR, hS, hl⟩ ih
  have ih23 := ih
  refine lv_iload_n hx hb dX11_save_23 rfl (lv_at hl 2 rfl) ?_
  refine lv_sipush (v := nI 866) hx hb dX11_save_24 (by decide +kernel) ?_
  refine mn_icmp_ge (tgt := 54) hB dX11_save_27 (by decide) (by omega) (by omega) (fun h_27 => ?_) (fun h_27 => ?_)
  · skip
    have hin9 : i9 = 866 := by omega
    subst hin9
    refine lv_aload_n hx hb dX11_save_54 rfl (lv_at hl 0 rfl) ?_
    refine gf_X11_22 hB hR.o rfl dX11_save_55 ?_
    refine lv_iload_n hx hb dX11_save_58 rfl (lv_at hl 1 rfl) ?_
    refine lv_iconst (v := nI 1) hx hb dX11_save_59 (by decide) ?_
    refine mn_zast hB hR.a_zsv (by first | exact Or.inl rfl | (simp only [ftA]; omega) | (simp [ftA]; omega)) hS (by omega) (by omega) dX11_save_60 (fun H locs hwr => ?_)
    obtain ⟨hR, hS⟩ := hR.w_zsv hwr
    refine lv_aload_n hx hb dX11_save_61 rfl (lv_at hl 0 rfl) ?_
    refine gf_X11_7 hB hR.o rfl dX11_save_62 ?_
    refine lv_iconst (v := nI 0) hx hb dX11_save_65 (by decide) ?_
    refine mn_iald hB hR.a_zq (by omega) (by omega) dX11_save_66 ?_
    refine mh_iret hB ⟨Nat.le_of_ble_eq_true rfl, Nat.le_of_ble_eq_true rfl⟩ hS dX11_save_67 ⟨?_, ?_⟩
    · rfl
    · exact hR
  · skip
    refine lv_aload_n hx hb dX11_save_30 rfl (lv_at hl 0 rfl) ?_
    refine gf_X11_19 hB hR.o rfl dX11_save_31 ?_
    refine lv_sipush (v := nI 866) hx hb dX11_save_34 (by decide +kernel) ?_
    refine lv_iload_n hx hb dX11_save_37 rfl (lv_at hl 1 rfl) ?_
    refine mn_imul hB dX11_save_38 ?_
    refine lv_iload_n hx hb dX11_save_39 rfl (lv_at hl 2 rfl) ?_
    refine mn_iadd hB dX11_save_40 ?_
    refine lv_aload_n hx hb dX11_save_41 rfl (lv_at hl 0 rfl) ?_
    refine gf_X11_7 hB hR.o rfl dX11_save_42 ?_
    refine lv_iload_n hx hb dX11_save_45 rfl (lv_at hl 2 rfl) ?_
    refine mn_iald hB hR.a_zq (by omega) (by omega) dX11_save_46 ?_
    refine mn_iast hB hR.a_zsl (by first | exact Or.inl rfl | (simp only [ftA]; omega) | (simp [ftA]; omega)) hS (by omega) (by omega) dX11_save_47 (fun H locs hwr => ?_)
    obtain ⟨hR, hS⟩ := hR.w_zsl hwr
    refine lv_iinc (v := nI (i9 + 1)) (lv' := [(2, .int (nI (i9 + 1))), (0, .ref r), (1, .int (nI k0))]) hx hb dX11_save_48 hl (k := 2) rfl (nI_1 _) (by decide) rfl (fun ls hl => ?_)
    refine lv_goto (tgt := 23) hx hb dX11_save_51 (by decide) ?_
    refine ih23 (i9 + 1) _ _ _ ⟨(by omega), (by rw [← remU_up]; exact hR), hS, lv_sub hl [1, 2, 0] rfl⟩ (by dsimp only; omega)

def rm_c_X11_save_t1 : Room := { frames := 1, cells := 0, slots := 0, locals := 25 }
set_option maxRecDepth 100000 in
set_option maxHeartbeats 400000 in
theorem c_X11_save_t1 (l : Launch) (g : GG) (H0 : Heap) (r : Nat) (zq : Nat → Int32) (zsp : Nat → Int32) (zrm : Nat → Int32) (zst : Int32) (zsl : Nat → Int32) (zsv : Nat → Int32) (ztx : Nat → Int32) (zln : Int32) (zth : Int32) (zsg : Nat → Int32) (zbg : Nat → Int32) (zwd : Nat → Int32) (zhg : Nat → Int32) (zin : Nat → Int32) (zop : Int32) (zbe : Int32) (zwi : Int32) (zhi : Int32) (zbk : Nat → Int32) (zot : Nat → Int32) (zer : Int32) (zen : Int32) (zpo : Nat → Int32) (zpi : Int32) (zgr : Int32) (zsh : Nat → Int32) (zsn : Int32) (x : Int32) (hR : ModAt g r zq zsp zrm zst zsl zsv ztx zln zth zsg zbg zwd zhg zin zop zbe zwi zhi zbk zot zer zen zpo zpi zgr zsh zsn H0) (hx1 : isIx x 2 = false) : Ct l yX11_save cX11_save 3 (some .int) rm_c_X11_save_t1 g [.ref r, .int x] H0 (ftA (fun q => r ≤ q ∧ q < r + 16) H0.size) (fun v H1 => v = some (.int (nI 0)) ∧ ModAt g r zq zsp zrm zst zsl zsv ztx zln (nI 1) zsg zbg zwd zhg zin zop zbe zwi zhi zbk zot zer zen zpo zpi zgr zsh zsn H1) := by
  refine Ct.of (by decide) (fun _ h => Or.inr h) (Nat.le_of_ble_eq_true rfl) ?_
  intro p e s m below meth c ls hB hin hS hH hl
  have hx := hB.x
  have hb := hB.b
  have hl : lv_has ls 3 [(0, .ref r), (1, .int x)] := hl
  refine lv_aload_n hx hb dX11_save_0 rfl (lv_at hl 0 rfl) ?_
  refine lv_iconst (v := nI 0) hx hb dX11_save_1 (by decide) ?_
  refine pf_X11_56 hB hR.o (by first | exact Or.inl rfl | (simp only [ftA]; omega) | (simp [ftA]; omega)) hS rfl rfl (Nat.le_of_ble_eq_true rfl) dX11_save_2 (fun H locs hwr => ?_)
  obtain ⟨hR, hS⟩ := hR.w_zth hwr
  refine lv_iload_n hx hb dX11_save_5 rfl (lv_at hl 1 rfl) ?_
  refine lv_i2l (v := (x).toInt64) hx hb dX11_save_6 rfl ?_
  refine lv_lconst (v := 0) hx hb dX11_save_7 (by decide) ?_
  refine lv_lconst (v := 1) hx hb dX11_save_8 (by decide) ?_
  refine cl_X11_63 (As := [.long ((x).toInt64), .long 0, .long 1]) (rest := []) hB (c_X11_in l g H ((x).toInt64) 0 1) rfl hl.1 (Nat.le_of_ble_eq_true rfl) dX11_save_9 ⟨Nat.le_of_ble_eq_true rfl, Nat.le_of_ble_eq_true rfl⟩ ⟨Nat.le_of_ble_eq_true rfl, Nat.le_of_ble_eq_true rfl⟩ hS (by have hz9 := hS.1; rintro q (h | h) <;> first | exact Or.inr (by omega) | exact h.elim | exact Or.inl h | (simp only [ftA] at h ⊢; omega)) (fun v H1 locs hpo hfr hS => ?_)
  obtain ⟨rfl, rfl⟩ := hpo
  refine W.widen (k := 0) (n := 0) (Nat.le_of_ble_eq_true rfl) (Nat.le_of_ble_eq_true rfl) ?_
  refine mh_top (y := .int (bI (isIx x 2))) (by rw [inL_ix _ 2 _ (by decide +kernel)]) ?_
  refine mb_if_ne (tgt := 21) hB dX11_save_12 (by decide) (fun h => by rw [hx1] at h; cases h) (fun h_12 => ?_)
  refine lv_aload_n hx hb dX11_save_15 rfl (lv_at hl 0 rfl) ?_
  refine lv_iconst (v := nI 1) hx hb dX11_save_16 (by decide) ?_
  refine cl_X11_81 (As := [.int (nI 1)]) (rest := []) hB (c_X11_fails l g H r zq zsp zrm zst zsl zsv ztx zln (nI 0) zsg zbg zwd zhg zin zop zbe zwi zhi zbk zot zer zen zpo zpi zgr zsh zsn (nI 1) hR) hR.o rfl hl.1 (Nat.le_of_ble_eq_true rfl) dX11_save_17 ⟨Nat.le_of_ble_eq_true rfl, Nat.le_of_ble_eq_true rfl⟩ ⟨Nat.le_of_ble_eq_true rfl, Nat.le_of_ble_eq_true rfl⟩ hS (by have hz9 := hS.1; rintro q (h | h) <;> first | exact Or.inr (by omega) | exact h.elim | exact Or.inl h | (simp only [ftA] at h ⊢; omega)) (fun v H1 locs hpo hfr hS => ?_)
  obtain ⟨rfl, hR⟩ := hpo
  generalize H1 = H at hfr hS hR ⊢
  refine W.widen (k := 0) (n := 0) (Nat.le_of_ble_eq_true rfl) (Nat.le_of_ble_eq_true rfl) ?_
  refine mh_iret hB ⟨Nat.le_of_ble_eq_true rfl, Nat.le_of_ble_eq_true rfl⟩ hS dX11_save_20 ⟨?_, ?_⟩
  · rfl
  · exact hR

def rm_c_X11_restore : Room := { frames := 1, cells := 0, slots := 0, locals := 25 }
set_option maxRecDepth 100000 in
set_option maxHeartbeats 400000 in
theorem c_X11_restore (l : Launch) (g : GG) (H0 : Heap) (r : Nat) (zq : Nat → Int32) (zsp : Nat → Int32) (zrm : Nat → Int32) (zst : Int32) (zsl : Nat → Int32) (zsv : Nat → Int32) (ztx : Nat → Int32) (zln : Int32) (zth : Int32) (zsg : Nat → Int32) (zbg : Nat → Int32) (zwd : Nat → Int32) (zhg : Nat → Int32) (zin : Nat → Int32) (zop : Int32) (zbe : Int32) (zwi : Int32) (zhi : Int32) (zbk : Nat → Int32) (zot : Nat → Int32) (zer : Int32) (zen : Int32) (zpo : Nat → Int32) (zpi : Int32) (zgr : Int32) (zsh : Nat → Int32) (zsn : Int32) (k0 : Nat) (hR : ModAt g r zq zsp zrm zst zsl zsv ztx zln zth zsg zbg zwd zhg zin zop zbe zwi zhi zbk zot zer zen zpo zpi zgr zsh zsn H0) (hk : k0 < 2) (hsv : zsv k0 = nI 1) : Ct l yX11_restore cX11_restore 3 (some .int) rm_c_X11_restore g [.ref r, .int (nI k0)] H0 (ftA (fun q => r ≤ q ∧ q < r + 16) H0.size) (fun v H1 => v = some (.int (zsl (866 * k0 + 0))) ∧ ModAt g r (fun j9 => zsl (866 * k0 + j9)) zsp zrm (nI 0) zsl zsv ztx zln (nI 0) zsg zbg zwd zhg zin zop zbe zwi zhi zbk zot zer zen zpo zpi zgr zsh zsn H1) := by
  refine Ct.of (by decide) (fun _ h => Or.inr h) (Nat.le_of_ble_eq_true rfl) ?_
  intro p e s m below meth c ls hB hin hS hH hl
  have hx := hB.x
  have hb := hB.b
  have hl : lv_has ls 3 [(0, .ref r), (1, .int (nI k0))] := hl
  refine lv_aload_n hx hb dX11_restore_0 rfl (lv_at hl 0 rfl) ?_
  refine lv_iconst (v := nI 0) hx hb dX11_restore_1 (by decide) ?_
  refine pf_X11_56 hB hR.o (by first | exact Or.inl rfl | (simp only [ftA]; omega) | (simp [ftA]; omega)) hS rfl rfl (Nat.le_of_ble_eq_true rfl) dX11_restore_2 (fun H locs hwr => ?_)
  obtain ⟨hR, hS⟩ := hR.w_zth hwr
  refine lv_iload_n hx hb dX11_restore_5 rfl (lv_at hl 1 rfl) ?_
  refine lv_i2l (v := (nI k0).toInt64) hx hb dX11_restore_6 rfl ?_
  refine lv_lconst (v := 0) hx hb dX11_restore_7 (by decide) ?_
  refine lv_lconst (v := 1) hx hb dX11_restore_8 (by decide) ?_
  refine cl_X11_63 (As := [.long ((nI k0).toInt64), .long 0, .long 1]) (rest := []) hB (c_X11_in l g H ((nI k0).toInt64) 0 1) rfl hl.1 (Nat.le_of_ble_eq_true rfl) dX11_restore_9 ⟨Nat.le_of_ble_eq_true rfl, Nat.le_of_ble_eq_true rfl⟩ ⟨Nat.le_of_ble_eq_true rfl, Nat.le_of_ble_eq_true rfl⟩ hS (by have hz9 := hS.1; rintro q (h | h) <;> first | exact Or.inr (by omega) | exact h.elim | exact Or.inl h | (simp only [ftA] at h ⊢; omega)) (fun v H1 locs hpo hfr hS => ?_)
  obtain ⟨rfl, rfl⟩ := hpo
  refine W.widen (k := 0) (n := 0) (Nat.le_of_ble_eq_true rfl) (Nat.le_of_ble_eq_true rfl) ?_
  refine mh_top (y := .int (bI (isIx (nI k0) 2))) (by rw [inL_ix _ 2 _ (by decide +kernel)]) ?_
  refine mb_if_ne (tgt := 21) hB dX11_restore_12 (by decide) (fun h_12 => ?_) (fun h => by rw [isIx_of hk (by omega)] at h; cases h)
  refine lv_aload_n hx hb dX11_restore_21 rfl (lv_at hl 0 rfl) ?_
  refine gf_X11_22 hB hR.o rfl dX11_restore_22 ?_
  refine lv_iload_n hx hb dX11_restore_25 rfl (lv_at hl 1 rfl) ?_
  refine mn_zald hB hR.a_zsv (by omega) (by omega) dX11_restore_26 ?_
  refine mh_top (y := .int (nI 1)) (by rw [hsv]) ?_
  refine mn_if_ne (tgt := 36) hB dX11_restore_27 (by decide) (by omega) (fun h_27 => ?_) (fun h => by exfalso; omega)
  refine lv_iconst (v := nI 0) hx hb dX11_restore_36 (by decide) ?_
  refine lv_istore_n (lv' := [(2, .int (nI 0)), (0, .ref r), (1, .int (nI k0))]) hx hb dX11_restore_37 rfl hl (by decide) rfl (fun ls hl => ?_)
  refine mh_loop (σ := Nat) (fun xx9 H locs ls => match xx9 with | i9 => i9 ≤ 866 ∧ ModAt g r (lowOf (fun j9 => zsl (866 * k0 + j9)) zq i9) zsp zrm zst zsl zsv ztx zln (nI 0) zsg zbg zwd zhg zin zop zbe zwi zhi zbk zot zer zen zpo zpi zgr zsh zsn H ∧ va_S (ftA (fun q => r ≤ q ∧ q < r + 16) H0.size) H0 H locs ∧ lv_has ls 3 [(0, .ref r), (1, .int (nI k0)), (2, .int (nI i9))]) (fun xx9 => match xx9 with | i9 => 866 - i9) ?_ 0 ⟨(by omega), (by rw [lowOf_0]; exact hR), hS, lv_sub hl [1, 2, 0] rfl⟩
  rintro i9 H locs ls ⟨hi9, hR, hS, hl⟩ ih
  have ih38 := ih
  refine lv_iload_n hx hb dX11_restore_38 rfl (lv_at hl 2 rfl) ?_
  refine lv_sipush (v := nI 866) hx hb dX11_restore_39 (by decide +kernel) ?_
  refine mn_icmp_ge (tgt := 69) hB dX11_restore_42 (by decide) (by omega) (by omega) (fun h_42 => ?_) (fun h_42 => ?_)
  · skip
    have hin9 : i9 = 866 := by omega
    subst hin9
    refine lv_aload_n hx hb dX11_restore_69 rfl (lv_at hl 0 rfl) ?_
    refine lv_iconst (v := nI 0) hx hb dX11_restore_70 (by decide) ?_
    refine pf_X11_60 hB hR.o (by first | exact Or.inl rfl | (simp only [ftA]; omega) | (simp [ftA]; omega)) hS rfl rfl (Nat.le_of_ble_eq_true rfl) dX11_restore_71 (fun H locs hwr => ?_)
    obtain ⟨hR, hS⟩ := hR.w_zst hwr
    refine lv_aload_n hx hb dX11_restore_74 rfl (lv_at hl 0 rfl) ?_
    refine gf_X11_7 hB hR.o rfl dX11_restore_75 ?_
    refine lv_iconst (v := nI 0) hx hb dX11_restore_78 (by decide) ?_
    refine mn_iald hB hR.a_zq (by omega) (by omega) dX11_restore_79 ?_
    refine mh_top (y := .int (zsl (866 * k0 + 0))) (by rw [lowOf_all _ _ (by omega)]) ?_
    refine mh_iret hB ⟨Nat.le_of_ble_eq_true rfl, Nat.le_of_ble_eq_true rfl⟩ hS dX11_restore_80 ⟨?_, ?_⟩
    · rfl
    · exact hR.eq_zq (fun j7 hj => lowOf_all _ _ hj)
  · skip
    refine lv_aload_n hx hb dX11_restore_45 rfl (lv_at hl 0 rfl) ?_
    refine gf_X11_7 hB hR.o rfl dX11_restore_46 ?_
    refine lv_iload_n hx hb dX11_restore_49 rfl (lv_at hl 2 rfl) ?_
    refine lv_aload_n hx hb dX11_restore_50 rfl (lv_at hl 0 rfl) ?_
    refine gf_X11_19 hB hR.o rfl dX11_restore_51 ?_
    refine lv_sipush (v := nI 866) hx hb dX11_restore_54 (by decide +kernel) ?_
    refine lv_iload_n hx hb dX11_restore_57 rfl (lv_at hl 1 rfl) ?_
    refine mn_imul hB dX11_restore_58 ?_
    refine lv_iload_n hx hb dX11_restore_59 rfl (lv_at hl 2 rfl) ?_
    refine mn_iadd hB dX11_restore_60 ?_
    refine mn_iald hB hR.a_zsl (by omega) (by omega) dX11_restore_61 ?_
    refine mn_iast hB hR.a_zq (by first | exact Or.inl rfl | (simp only [ftA]; omega) | (simp [ftA]; omega)) hS (by omega) (by omega) dX11_restore_62 (fun H locs hwr => ?_)
    obtain ⟨hR, hS⟩ := hR.w_zq hwr
    refine lv_iinc (v := nI (i9 + 1)) (lv' := [(2, .int (nI (i9 + 1))), (0, .ref r), (1, .int (nI k0))]) hx hb dX11_restore_63 hl (k := 2) rfl (nI_1 _) (by decide) rfl (fun ls hl => ?_)
    refine lv_goto (tgt := 38) hx hb dX11_restore_66 (by decide) ?_
    refine ih38 (i9 + 1) _ _ _ ⟨(by omega), (by rw [← lowOf_up]; exact hR), hS, lv_sub hl [1, 2, 0] rfl⟩ (by dsimp only; omega)

def rm_c_X11_restore_t1 : Room := { frames := 1, cells := 0, slots := 0, locals := 25 }
set_option maxRecDepth 100000 in
set_option maxHeartbeats 400000 in
theorem c_X11_restore_t1 (l : Launch) (g : GG) (H0 : Heap) (r : Nat) (zq : Nat → Int32) (zsp : Nat → Int32) (zrm : Nat → Int32) (zst : Int32) (zsl : Nat → Int32) (zsv : Nat → Int32) (ztx : Nat → Int32) (zln : Int32) (zth : Int32) (zsg : Nat → Int32) (zbg : Nat → Int32) (zwd : Nat → Int32) (zhg : Nat → Int32) (zin : Nat → Int32) (zop : Int32) (zbe : Int32) (zwi : Int32) (zhi : Int32) (zbk : Nat → Int32) (zot : Nat → Int32) (zer : Int32) (zen : Int32) (zpo : Nat → Int32) (zpi : Int32) (zgr : Int32) (zsh : Nat → Int32) (zsn : Int32) (x : Int32) (hR : ModAt g r zq zsp zrm zst zsl zsv ztx zln zth zsg zbg zwd zhg zin zop zbe zwi zhi zbk zot zer zen zpo zpi zgr zsh zsn H0) (hx1 : isIx x 2 = false) : Ct l yX11_restore cX11_restore 3 (some .int) rm_c_X11_restore_t1 g [.ref r, .int x] H0 (ftA (fun q => r ≤ q ∧ q < r + 16) H0.size) (fun v H1 => v = some (.int (nI 0)) ∧ ModAt g r zq zsp zrm zst zsl zsv ztx zln (nI 1) zsg zbg zwd zhg zin zop zbe zwi zhi zbk zot zer zen zpo zpi zgr zsh zsn H1) := by
  refine Ct.of (by decide) (fun _ h => Or.inr h) (Nat.le_of_ble_eq_true rfl) ?_
  intro p e s m below meth c ls hB hin hS hH hl
  have hx := hB.x
  have hb := hB.b
  have hl : lv_has ls 3 [(0, .ref r), (1, .int x)] := hl
  refine lv_aload_n hx hb dX11_restore_0 rfl (lv_at hl 0 rfl) ?_
  refine lv_iconst (v := nI 0) hx hb dX11_restore_1 (by decide) ?_
  refine pf_X11_56 hB hR.o (by first | exact Or.inl rfl | (simp only [ftA]; omega) | (simp [ftA]; omega)) hS rfl rfl (Nat.le_of_ble_eq_true rfl) dX11_restore_2 (fun H locs hwr => ?_)
  obtain ⟨hR, hS⟩ := hR.w_zth hwr
  refine lv_iload_n hx hb dX11_restore_5 rfl (lv_at hl 1 rfl) ?_
  refine lv_i2l (v := (x).toInt64) hx hb dX11_restore_6 rfl ?_
  refine lv_lconst (v := 0) hx hb dX11_restore_7 (by decide) ?_
  refine lv_lconst (v := 1) hx hb dX11_restore_8 (by decide) ?_
  refine cl_X11_63 (As := [.long ((x).toInt64), .long 0, .long 1]) (rest := []) hB (c_X11_in l g H ((x).toInt64) 0 1) rfl hl.1 (Nat.le_of_ble_eq_true rfl) dX11_restore_9 ⟨Nat.le_of_ble_eq_true rfl, Nat.le_of_ble_eq_true rfl⟩ ⟨Nat.le_of_ble_eq_true rfl, Nat.le_of_ble_eq_true rfl⟩ hS (by have hz9 := hS.1; rintro q (h | h) <;> first | exact Or.inr (by omega) | exact h.elim | exact Or.inl h | (simp only [ftA] at h ⊢; omega)) (fun v H1 locs hpo hfr hS => ?_)
  obtain ⟨rfl, rfl⟩ := hpo
  refine W.widen (k := 0) (n := 0) (Nat.le_of_ble_eq_true rfl) (Nat.le_of_ble_eq_true rfl) ?_
  refine mh_top (y := .int (bI (isIx x 2))) (by rw [inL_ix _ 2 _ (by decide +kernel)]) ?_
  refine mb_if_ne (tgt := 21) hB dX11_restore_12 (by decide) (fun h => by rw [hx1] at h; cases h) (fun h_12 => ?_)
  refine lv_aload_n hx hb dX11_restore_15 rfl (lv_at hl 0 rfl) ?_
  refine lv_iconst (v := nI 1) hx hb dX11_restore_16 (by decide) ?_
  refine cl_X11_81 (As := [.int (nI 1)]) (rest := []) hB (c_X11_fails l g H r zq zsp zrm zst zsl zsv ztx zln (nI 0) zsg zbg zwd zhg zin zop zbe zwi zhi zbk zot zer zen zpo zpi zgr zsh zsn (nI 1) hR) hR.o rfl hl.1 (Nat.le_of_ble_eq_true rfl) dX11_restore_17 ⟨Nat.le_of_ble_eq_true rfl, Nat.le_of_ble_eq_true rfl⟩ ⟨Nat.le_of_ble_eq_true rfl, Nat.le_of_ble_eq_true rfl⟩ hS (by have hz9 := hS.1; rintro q (h | h) <;> first | exact Or.inr (by omega) | exact h.elim | exact Or.inl h | (simp only [ftA] at h ⊢; omega)) (fun v H1 locs hpo hfr hS => ?_)
  obtain ⟨rfl, hR⟩ := hpo
  generalize H1 = H at hfr hS hR ⊢
  refine W.widen (k := 0) (n := 0) (Nat.le_of_ble_eq_true rfl) (Nat.le_of_ble_eq_true rfl) ?_
  refine mh_iret hB ⟨Nat.le_of_ble_eq_true rfl, Nat.le_of_ble_eq_true rfl⟩ hS dX11_restore_20 ⟨?_, ?_⟩
  · rfl
  · exact hR

def rm_c_X11_restore_t2 : Room := { frames := 1, cells := 0, slots := 0, locals := 25 }
set_option maxRecDepth 100000 in
set_option maxHeartbeats 400000 in
theorem c_X11_restore_t2 (l : Launch) (g : GG) (H0 : Heap) (r : Nat) (zq : Nat → Int32) (zsp : Nat → Int32) (zrm : Nat → Int32) (zst : Int32) (zsl : Nat → Int32) (zsv : Nat → Int32) (ztx : Nat → Int32) (zln : Int32) (zth : Int32) (zsg : Nat → Int32) (zbg : Nat → Int32) (zwd : Nat → Int32) (zhg : Nat → Int32) (zin : Nat → Int32) (zop : Int32) (zbe : Int32) (zwi : Int32) (zhi : Int32) (zbk : Nat → Int32) (zot : Nat → Int32) (zer : Int32) (zen : Int32) (zpo : Nat → Int32) (zpi : Int32) (zgr : Int32) (zsh : Nat → Int32) (zsn : Int32) (k0 : Nat) (hR : ModAt g r zq zsp zrm zst zsl zsv ztx zln zth zsg zbg zwd zhg zin zop zbe zwi zhi zbk zot zer zen zpo zpi zgr zsh zsn H0) (hk : k0 < 2) (hsv : zsv k0 = nI 0) : Ct l yX11_restore cX11_restore 3 (some .int) rm_c_X11_restore_t2 g [.ref r, .int (nI k0)] H0 (ftA (fun q => r ≤ q ∧ q < r + 16) H0.size) (fun v H1 => v = some (.int (nI 0)) ∧ ModAt g r zq zsp zrm zst zsl zsv ztx zln (nI 2) zsg zbg zwd zhg zin zop zbe zwi zhi zbk zot zer zen zpo zpi zgr zsh zsn H1) := by
  refine Ct.of (by decide) (fun _ h => Or.inr h) (Nat.le_of_ble_eq_true rfl) ?_
  intro p e s m below meth c ls hB hin hS hH hl
  have hx := hB.x
  have hb := hB.b
  have hl : lv_has ls 3 [(0, .ref r), (1, .int (nI k0))] := hl
  refine lv_aload_n hx hb dX11_restore_0 rfl (lv_at hl 0 rfl) ?_
  refine lv_iconst (v := nI 0) hx hb dX11_restore_1 (by decide) ?_
  refine pf_X11_56 hB hR.o (by first | exact Or.inl rfl | (simp only [ftA]; omega) | (simp [ftA]; omega)) hS rfl rfl (Nat.le_of_ble_eq_true rfl) dX11_restore_2 (fun H locs hwr => ?_)
  obtain ⟨hR, hS⟩ := hR.w_zth hwr
  refine lv_iload_n hx hb dX11_restore_5 rfl (lv_at hl 1 rfl) ?_
  refine lv_i2l (v := (nI k0).toInt64) hx hb dX11_restore_6 rfl ?_
  refine lv_lconst (v := 0) hx hb dX11_restore_7 (by decide) ?_
  refine lv_lconst (v := 1) hx hb dX11_restore_8 (by decide) ?_
  refine cl_X11_63 (As := [.long ((nI k0).toInt64), .long 0, .long 1]) (rest := []) hB (c_X11_in l g H ((nI k0).toInt64) 0 1) rfl hl.1 (Nat.le_of_ble_eq_true rfl) dX11_restore_9 ⟨Nat.le_of_ble_eq_true rfl, Nat.le_of_ble_eq_true rfl⟩ ⟨Nat.le_of_ble_eq_true rfl, Nat.le_of_ble_eq_true rfl⟩ hS (by have hz9 := hS.1; rintro q (h | h) <;> first | exact Or.inr (by omega) | exact h.elim | exact Or.inl h | (simp only [ftA] at h ⊢; omega)) (fun v H1 locs hpo hfr hS => ?_)
  obtain ⟨rfl, rfl⟩ := hpo
  refine W.widen (k := 0) (n := 0) (Nat.le_of_ble_eq_true rfl) (Nat.le_of_ble_eq_true rfl) ?_
  refine mh_top (y := .int (bI (isIx (nI k0) 2))) (by rw [inL_ix _ 2 _ (by decide +kernel)]) ?_
  refine mb_if_ne (tgt := 21) hB dX11_restore_12 (by decide) (fun h_12 => ?_) (fun h => by rw [isIx_of hk (by omega)] at h; cases h)
  refine lv_aload_n hx hb dX11_restore_21 rfl (lv_at hl 0 rfl) ?_
  refine gf_X11_22 hB hR.o rfl dX11_restore_22 ?_
  refine lv_iload_n hx hb dX11_restore_25 rfl (lv_at hl 1 rfl) ?_
  refine mn_zald hB hR.a_zsv (by omega) (by omega) dX11_restore_26 ?_
  refine mh_top (y := .int (nI 0)) (by rw [hsv]) ?_
  refine mn_if_ne (tgt := 36) hB dX11_restore_27 (by decide) (by omega) (fun h => by exfalso; omega) (fun h_27 => ?_)
  refine lv_aload_n hx hb dX11_restore_30 rfl (lv_at hl 0 rfl) ?_
  refine lv_iconst (v := nI 2) hx hb dX11_restore_31 (by decide) ?_
  refine cl_X11_81 (As := [.int (nI 2)]) (rest := []) hB (c_X11_fails l g H r zq zsp zrm zst zsl zsv ztx zln (nI 0) zsg zbg zwd zhg zin zop zbe zwi zhi zbk zot zer zen zpo zpi zgr zsh zsn (nI 2) hR) hR.o rfl hl.1 (Nat.le_of_ble_eq_true rfl) dX11_restore_32 ⟨Nat.le_of_ble_eq_true rfl, Nat.le_of_ble_eq_true rfl⟩ ⟨Nat.le_of_ble_eq_true rfl, Nat.le_of_ble_eq_true rfl⟩ hS (by have hz9 := hS.1; rintro q (h | h) <;> first | exact Or.inr (by omega) | exact h.elim | exact Or.inl h | (simp only [ftA] at h ⊢; omega)) (fun v H1 locs hpo hfr hS => ?_)
  obtain ⟨rfl, hR⟩ := hpo
  generalize H1 = H at hfr hS hR ⊢
  refine W.widen (k := 0) (n := 0) (Nat.le_of_ble_eq_true rfl) (Nat.le_of_ble_eq_true rfl) ?_
  refine mh_iret hB ⟨Nat.le_of_ble_eq_true rfl, Nat.le_of_ble_eq_true rfl⟩ hS dX11_restore_35 ⟨?_, ?_⟩
  · rfl
  · exact hR

def rm_c_X11_missing : Room := { frames := 3, cells := 0, slots := 0, locals := 69 }
set_option maxRecDepth 100000 in
set_option maxHeartbeats 400000 in
theorem c_X11_missing (l : Launch) (g : GG) (H0 : Heap) (r : Nat) (zq : Nat → Int32) (zsp : Nat → Int32) (zrm : Nat → Int32) (zst : Int32) (zsl : Nat → Int32) (zsv : Nat → Int32) (ztx : Nat → Int32) (zln : Int32) (zth : Int32) (zsg : Nat → Int32) (zbg : Nat → Int32) (zwd : Nat → Int32) (zhg : Nat → Int32) (zin : Nat → Int32) (zop : Int32) (zbe : Int32) (zwi : Int32) (zhi : Int32) (zbk : Nat → Int32) (zot : Nat → Int32) (zer : Int32) (zen : Int32) (zpo : Nat → Int32) (zpi : Int32) (zgr : Int32) (zsh : Nat → Int32) (zsn : Int32) (s0 : Nat) (c0 : Nat) (hR : ModAt g r zq zsp zrm zst zsl zsv ztx zln zth zsg zbg zwd zhg zin zop zbe zwi zhi zbk zot zer zen zpo zpi zgr zsh zsn H0) (hW : WF zq) (hs : s0 < 8) (hc : c0 < 6) : Ct l yX11_missing cX11_missing 5 (some .int) rm_c_X11_missing g [.ref r, .int (nI s0), .int (nI c0)] H0 (ftA (fun _ => False) H0.size) (fun v H1 => v = some (.int (misR zq s0 c0)) ∧ H0 = H1) := by
  refine Ct.of (by decide) (fun _ h => Or.inr h) (Nat.le_of_ble_eq_true rfl) ?_
  intro p e s m below meth c ls hB hin hS hH hl
  have hx := hB.x
  have hb := hB.b
  have hl : lv_has ls 5 [(0, .ref r), (1, .int (nI s0)), (2, .int (nI c0))] := hl
  refine lv_aload_n hx hb dX11_missing_0 rfl (lv_at hl 0 rfl) ?_
  refine gf_X11_7 hB hR.o rfl dX11_missing_1 ?_
  refine lv_bipush (v := nI 50) hx hb dX11_missing_4 (by decide) ?_
  refine lv_iload_n hx hb dX11_missing_6 rfl (lv_at hl 2 rfl) ?_
  refine mn_iadd hB dX11_missing_7 ?_
  refine mn_iald hB hR.a_zq (by omega) (by omega) dX11_missing_8 ?_
  refine lv_ineg hx hb dX11_missing_9 ?_
  refine lv_istore_n (lv' := [(3, .int (-(zq (50 + c0)))), (0, .ref r), (1, .int (nI s0)), (2, .int (nI c0))]) hx hb dX11_missing_10 rfl hl (by decide) rfl (fun ls hl => ?_)
  refine lv_iconst (v := nI 0) hx hb dX11_missing_11 (by decide) ?_
  refine lv_istore (lv' := [(4, .int (nI 0)), (3, .int (-(zq (50 + c0)))), (0, .ref r), (1, .int (nI s0)), (2, .int (nI c0))]) hx hb dX11_missing_12 hl (by decide) rfl (fun ls hl => ?_)
  refine mh_loopR (σ := Nat) (fun xx9 locs ls => match xx9 with | i9 => i9 ≤ 3 ∧ va_S (ftA (fun _ => False) H0.size) H0 H0 locs ∧ lv_has ls 5 [(0, .ref r), (1, .int (nI s0)), (2, .int (nI c0)), (3, .int (misU zq s0 c0 i9)), (4, .int (nI i9))]) (fun xx9 => match xx9 with | i9 => 3 - i9) ?_ 0 ⟨(by omega), hS, lv_sub hl [2, 3, 4, 1, 0] rfl⟩
  rintro i9 locs ls ⟨hi9, hS, hl⟩ ih
  have ih14 := ih
  refine lv_iload hx hb dX11_missing_14 (lv_at hl 4 rfl) ?_
  refine lv_iconst (v := nI 3) hx hb dX11_missing_16 (by decide) ?_
  refine mn_icmp_ge (tgt := 67) hB dX11_missing_17 (by decide) (by omega) (by omega) (fun h_17 => ?_) (fun h_17 => ?_)
  · skip
    have hin9 : i9 = 3 := by omega
    subst hin9
    refine lv_iload_n hx hb dX11_missing_67 rfl (lv_at hl 3 rfl) ?_
    refine lv_if_le (tgt := 75) hx hb dX11_missing_68 (by decide) (fun h_68 => ?_) (fun h_68 => ?_)
    · skip
      refine lv_iconst (v := nI 0) hx hb dX11_missing_75 (by decide) ?_
      refine mh_iret hB ⟨Nat.le_of_ble_eq_true rfl, Nat.le_of_ble_eq_true rfl⟩ hS dX11_missing_76 ⟨?_, rfl⟩
      · first | (unfold misR; rw [if_pos h_68]) | (unfold misR; rw [if_neg h_68])
    · skip
      refine lv_iload_n hx hb dX11_missing_71 rfl (lv_at hl 3 rfl) ?_
      refine lv_goto (tgt := 76) hx hb dX11_missing_72 (by decide) ?_
      refine mh_iret hB ⟨Nat.le_of_ble_eq_true rfl, Nat.le_of_ble_eq_true rfl⟩ hS dX11_missing_76 ⟨?_, rfl⟩
      · first | (unfold misR; rw [if_pos h_68]) | (unfold misR; rw [if_neg h_68])
  · skip
    have hF := hW.fr (f := i9) (by omega)
    have hsz := WF.sz hF
    have hsw := WF.sw hF
    refine lv_iload_n hx hb dX11_missing_20 rfl (lv_at hl 3 rfl) ?_
    refine lv_iload_n hx hb dX11_missing_21 rfl (lv_at hl 1 rfl) ?_
    refine lv_iload hx hb dX11_missing_22 (lv_at hl 4 rfl) ?_
    refine lv_ishr hx hb dX11_missing_24 ?_
    refine lv_iconst (v := nI 1) hx hb dX11_missing_25 (by decide) ?_
    refine lv_iand hx hb dX11_missing_26 ?_
    refine mh_top (y := .int (nI (s0 / 2 ^ i9 % 2))) (by rw [bit_lem s0 hs i9 (by omega)]) ?_
    refine lv_iconst (v := nI 1) hx hb dX11_missing_27 (by decide) ?_
    refine mn_icmp_ne (tgt := 58) hB dX11_missing_28 (by decide) (by omega) (by omega) (fun hb28 => ?_) (fun hb28 => ?_)
    · skip
      refine lv_iconst (v := nI 0) hx hb dX11_missing_58 (by decide) ?_
      refine lv_iadd hx hb dX11_missing_59 ?_
      refine mh_top (y := .int (misU zq s0 c0 (i9 + 1))) (by first | (simp only [misU]; rw [if_pos (by simp only [bitS, decide_eq_true_eq]; omega)]) | (simp only [misU]; rw [if_neg (by simp only [bitS, decide_eq_true_eq]; omega)])) ?_
      refine lv_istore_n (lv' := [(3, .int (misU zq s0 c0 (i9 + 1))), (0, .ref r), (1, .int (nI s0)), (2, .int (nI c0)), (4, .int (nI i9))]) hx hb dX11_missing_60 rfl hl (by decide) rfl (fun ls hl => ?_)
      refine lv_iinc (v := nI (i9 + 1)) (lv' := [(4, .int (nI (i9 + 1))), (3, .int (misU zq s0 c0 (i9 + 1))), (0, .ref r), (1, .int (nI s0)), (2, .int (nI c0))]) hx hb dX11_missing_61 hl (k := 4) rfl (nI_1 _) (by decide) rfl (fun ls hl => ?_)
      refine lv_goto (tgt := 14) hx hb dX11_missing_64 (by decide) ?_
      refine ih14 (i9 + 1) _ _ ⟨(by omega), hS, lv_sub hl [2, 3, 4, 1, 0] rfl⟩ (by dsimp only; omega)
    · skip
      refine lv_aload_n hx hb dX11_missing_31 rfl (lv_at hl 0 rfl) ?_
      refine lv_iload hx hb dX11_missing_32 (lv_at hl 4 rfl) ?_
      refine lv_iload_n hx hb dX11_missing_34 rfl (lv_at hl 2 rfl) ?_
      refine lv_aload_n hx hb dX11_missing_35 rfl (lv_at hl 0 rfl) ?_
      refine gf_X11_7 hB hR.o rfl dX11_missing_36 ?_
      refine lv_iload hx hb dX11_missing_39 (lv_at hl 4 rfl) ?_
      refine lv_iconst (v := nI 2) hx hb dX11_missing_41 (by decide) ?_
      refine cl_X11_71 (As := [.int (nI i9), .int (nI 2)]) (rest := [.ref (r + 1), .int (nI c0), .int (nI i9), .ref r, .int (misU zq s0 c0 i9)]) hB (c_X11_at l g H0 i9 2) rfl hl.1 (Nat.le_of_ble_eq_true rfl) dX11_missing_42 ⟨Nat.le_of_ble_eq_true rfl, Nat.le_of_ble_eq_true rfl⟩ ⟨Nat.le_of_ble_eq_true rfl, Nat.le_of_ble_eq_true rfl⟩ hS (by have hz9 := hS.1; rintro q (h | h) <;> first | exact Or.inr (by omega) | exact h.elim | exact Or.inl h | (simp only [ftA] at h ⊢; omega)) (fun v H1 locs hpo hfr hS => ?_)
      obtain ⟨rfl, rfl⟩ := hpo
      refine W.widen (k := 0) (n := 0) (Nat.le_of_ble_eq_true rfl) (Nat.le_of_ble_eq_true rfl) ?_
      refine mn_iald hB hR.a_zq (by omega) (by omega) dX11_missing_45 ?_
      refine mh_top (y := .int (nI (swF zq i9))) (by rw [hF.s]) ?_
      refine lv_aload_n hx hb dX11_missing_46 rfl (lv_at hl 0 rfl) ?_
      refine lv_iload hx hb dX11_missing_47 (lv_at hl 4 rfl) ?_
      refine cl_X11_75 (As := [.int (nI i9)]) (rest := [.int (nI (swF zq i9)), .int (nI c0), .int (nI i9), .ref r, .int (misU zq s0 c0 i9)]) hB (c_X11_patches l g H0 r zq zsp zrm zst zsl zsv ztx zln zth zsg zbg zwd zhg zin zop zbe zwi zhi zbk zot zer zen zpo zpi zgr zsh zsn i9 hR (by omega) (by omega)) hR.o rfl hl.1 (Nat.le_of_ble_eq_true rfl) dX11_missing_49 ⟨Nat.le_of_ble_eq_true rfl, Nat.le_of_ble_eq_true rfl⟩ ⟨Nat.le_of_ble_eq_true rfl, Nat.le_of_ble_eq_true rfl⟩ hS (by have hz9 := hS.1; rintro q (h | h) <;> first | exact Or.inr (by omega) | exact h.elim | exact Or.inl h | (simp only [ftA] at h ⊢; omega)) (fun v H1 locs hpo hfr hS => ?_)
      obtain ⟨rfl, rfl⟩ := hpo
      refine W.widen (k := 0) (n := 0) (Nat.le_of_ble_eq_true rfl) (Nat.le_of_ble_eq_true rfl) ?_
      refine cl_X11_158 (As := [.int (nI i9), .int (nI c0), .int (nI (swF zq i9)), .int (nI (szF zq i9))]) (rest := [.int (misU zq s0 c0 i9)]) hB (c_X11_colourIn l g H0 r zq zsp zrm zst zsl zsv ztx zln zth zsg zbg zwd zhg zin zop zbe zwi zhi zbk zot zer zen zpo zpi zgr zsh zsn i9 c0 (swF zq i9) (szF zq i9) hR (by omega) (by omega) (by omega) (by omega) (by omega)) hR.o rfl hl.1 (Nat.le_of_ble_eq_true rfl) dX11_missing_52 ⟨Nat.le_of_ble_eq_true rfl, Nat.le_of_ble_eq_true rfl⟩ ⟨Nat.le_of_ble_eq_true rfl, Nat.le_of_ble_eq_true rfl⟩ hS (by have hz9 := hS.1; rintro q (h | h) <;> first | exact Or.inr (by omega) | exact h.elim | exact Or.inl h | (simp only [ftA] at h ⊢; omega)) (fun v H1 locs hpo hfr hS => ?_)
      obtain ⟨rfl, rfl⟩ := hpo
      refine W.widen (k := 0) (n := 0) (Nat.le_of_ble_eq_true rfl) (Nat.le_of_ble_eq_true rfl) ?_
      refine lv_goto (tgt := 59) hx hb dX11_missing_55 (by decide) ?_
      refine lv_iadd hx hb dX11_missing_59 ?_
      refine mh_top (y := .int (misU zq s0 c0 (i9 + 1))) (by first | (simp only [misU]; rw [if_pos (by simp only [bitS, decide_eq_true_eq]; omega)]) | (simp only [misU]; rw [if_neg (by simp only [bitS, decide_eq_true_eq]; omega)])) ?_
      refine lv_istore_n (lv' := [(3, .int (misU zq s0 c0 (i9 + 1))), (0, .ref r), (1, .int (nI s0)), (2, .int (nI c0)), (4, .int (nI i9))]) hx hb dX11_missing_60 rfl hl (by decide) rfl (fun ls hl => ?_)
      refine lv_iinc (v := nI (i9 + 1)) (lv' := [(4, .int (nI (i9 + 1))), (3, .int (misU zq s0 c0 (i9 + 1))), (0, .ref r), (1, .int (nI s0)), (2, .int (nI c0))]) hx hb dX11_missing_61 hl (k := 4) rfl (nI_1 _) (by decide) rfl (fun ls hl => ?_)
      refine lv_goto (tgt := 14) hx hb dX11_missing_64 (by decide) ?_
      refine ih14 (i9 + 1) _ _ ⟨(by omega), hS, lv_sub hl [2, 3, 4, 1, 0] rfl⟩ (by dsimp only; omega)

def rm_c_X11_lacks : Room := { frames := 4, cells := 0, slots := 0, locals := 93 }
set_option maxRecDepth 100000 in
set_option maxHeartbeats 400000 in
theorem c_X11_lacks (l : Launch) (g : GG) (H0 : Heap) (r : Nat) (zq : Nat → Int32) (zsp : Nat → Int32) (zrm : Nat → Int32) (zst : Int32) (zsl : Nat → Int32) (zsv : Nat → Int32) (ztx : Nat → Int32) (zln : Int32) (zth : Int32) (zsg : Nat → Int32) (zbg : Nat → Int32) (zwd : Nat → Int32) (zhg : Nat → Int32) (zin : Nat → Int32) (zop : Int32) (zbe : Int32) (zwi : Int32) (zhi : Int32) (zbk : Nat → Int32) (zot : Nat → Int32) (zer : Int32) (zen : Int32) (zpo : Nat → Int32) (zpi : Int32) (zgr : Int32) (zsh : Nat → Int32) (zsn : Int32) (s0 : Nat) (c0 : Nat) (hR : ModAt g r zq zsp zrm zst zsl zsv ztx zln zth zsg zbg zwd zhg zin zop zbe zwi zhi zbk zot zer zen zpo zpi zgr zsh zsn H0) (hW : WF zq) (hs : s0 < 8) (hc : c0 < 6) : Ct l yX11_lacks cX11_lacks 3 (some .int) rm_c_X11_lacks g [.ref r, .int (nI s0), .int (nI c0)] H0 (ftA (fun q => r ≤ q ∧ q < r + 16) H0.size) (fun v H1 => v = some (.int (misR zq s0 c0)) ∧ ModAt g r zq zsp zrm zst zsl zsv ztx zln (nI 0) zsg zbg zwd zhg zin zop zbe zwi zhi zbk zot zer zen zpo zpi zgr zsh zsn H1) := by
  refine Ct.of (by decide) (fun _ h => Or.inr h) (Nat.le_of_ble_eq_true rfl) ?_
  intro p e s m below meth c ls hB hin hS hH hl
  have hx := hB.x
  have hb := hB.b
  have hl : lv_has ls 3 [(0, .ref r), (1, .int (nI s0)), (2, .int (nI c0))] := hl
  refine lv_aload_n hx hb dX11_lacks_0 rfl (lv_at hl 0 rfl) ?_
  refine lv_iconst (v := nI 0) hx hb dX11_lacks_1 (by decide) ?_
  refine pf_X11_56 hB hR.o (by first | exact Or.inl rfl | (simp only [ftA]; omega) | (simp [ftA]; omega)) hS rfl rfl (Nat.le_of_ble_eq_true rfl) dX11_lacks_2 (fun H locs hwr => ?_)
  obtain ⟨hR, hS⟩ := hR.w_zth hwr
  refine lv_iload_n hx hb dX11_lacks_5 rfl (lv_at hl 2 rfl) ?_
  refine cl_X11_153 (As := [.int (nI c0)]) (rest := []) hB (c_X11_isColour l g H (nI c0)) rfl hl.1 (Nat.le_of_ble_eq_true rfl) dX11_lacks_6 ⟨Nat.le_of_ble_eq_true rfl, Nat.le_of_ble_eq_true rfl⟩ ⟨Nat.le_of_ble_eq_true rfl, Nat.le_of_ble_eq_true rfl⟩ hS (by have hz9 := hS.1; rintro q (h | h) <;> first | exact Or.inr (by omega) | exact h.elim | exact Or.inl h | (simp only [ftA] at h ⊢; omega)) (fun v H1 locs hpo hfr hS => ?_)
  obtain ⟨rfl, rfl⟩ := hpo
  refine W.widen (k := 0) (n := 0) (Nat.le_of_ble_eq_true rfl) (Nat.le_of_ble_eq_true rfl) ?_
  refine mb_if_ne (tgt := 18) hB dX11_lacks_9 (by decide) (fun h_9 => ?_) (fun h => by rw [isIx_of hc (by omega)] at h; cases h)
  refine lv_iload_n hx hb dX11_lacks_18 rfl (lv_at hl 1 rfl) ?_
  refine lv_i2l (v := (nI s0).toInt64) hx hb dX11_lacks_19 rfl ?_
  refine lv_lconst (v := 0) hx hb dX11_lacks_20 (by decide) ?_
  refine lv_ldc2 (v := (7)) hx hb hB.ow (hB.K.2 _ kw_1300 _) dX11_lacks_21 ?_
  refine cl_X11_63 (As := [.long ((nI s0).toInt64), .long 0, .long (7)]) (rest := []) hB (c_X11_in l g H ((nI s0).toInt64) 0 (7)) rfl hl.1 (Nat.le_of_ble_eq_true rfl) dX11_lacks_24 ⟨Nat.le_of_ble_eq_true rfl, Nat.le_of_ble_eq_true rfl⟩ ⟨Nat.le_of_ble_eq_true rfl, Nat.le_of_ble_eq_true rfl⟩ hS (by have hz9 := hS.1; rintro q (h | h) <;> first | exact Or.inr (by omega) | exact h.elim | exact Or.inl h | (simp only [ftA] at h ⊢; omega)) (fun v H1 locs hpo hfr hS => ?_)
  obtain ⟨rfl, rfl⟩ := hpo
  refine W.widen (k := 0) (n := 0) (Nat.le_of_ble_eq_true rfl) (Nat.le_of_ble_eq_true rfl) ?_
  refine mh_top (y := .int (bI (isIx (nI s0) 8))) (by rw [inL_ix _ 8 _ (by decide +kernel)]) ?_
  refine mb_if_eq (tgt := 39) hB dX11_lacks_27 (by decide) (fun h => by rw [isIx_of hs (by omega)] at h; cases h) (fun h_27 => ?_)
  refine lv_aload_n hx hb dX11_lacks_30 rfl (lv_at hl 0 rfl) ?_
  refine lv_iload_n hx hb dX11_lacks_31 rfl (lv_at hl 1 rfl) ?_
  refine lv_iload_n hx hb dX11_lacks_32 rfl (lv_at hl 2 rfl) ?_
  refine cl_X11_246 (As := [.int (nI s0), .int (nI c0)]) (rest := []) hB (c_X11_missing l g H r zq zsp zrm zst zsl zsv ztx zln (nI 0) zsg zbg zwd zhg zin zop zbe zwi zhi zbk zot zer zen zpo zpi zgr zsh zsn s0 c0 hR (by omega) (by omega) (by omega)) hR.o rfl hl.1 (Nat.le_of_ble_eq_true rfl) dX11_lacks_33 ⟨Nat.le_of_ble_eq_true rfl, Nat.le_of_ble_eq_true rfl⟩ ⟨Nat.le_of_ble_eq_true rfl, Nat.le_of_ble_eq_true rfl⟩ hS (by have hz9 := hS.1; rintro q (h | h) <;> first | exact Or.inr (by omega) | exact h.elim | exact Or.inl h | (simp only [ftA] at h ⊢; omega)) (fun v H1 locs hpo hfr hS => ?_)
  obtain ⟨rfl, rfl⟩ := hpo
  refine W.widen (k := 0) (n := 0) (Nat.le_of_ble_eq_true rfl) (Nat.le_of_ble_eq_true rfl) ?_
  refine lv_goto (tgt := 44) hx hb dX11_lacks_36 (by decide) ?_
  refine mh_iret hB ⟨Nat.le_of_ble_eq_true rfl, Nat.le_of_ble_eq_true rfl⟩ hS dX11_lacks_44 ⟨?_, ?_⟩
  · rfl
  · exact hR

def rm_c_X11_lacks_t1 : Room := { frames := 2, cells := 0, slots := 0, locals := 45 }
set_option maxRecDepth 100000 in
set_option maxHeartbeats 400000 in
theorem c_X11_lacks_t1 (l : Launch) (g : GG) (H0 : Heap) (r : Nat) (zq : Nat → Int32) (zsp : Nat → Int32) (zrm : Nat → Int32) (zst : Int32) (zsl : Nat → Int32) (zsv : Nat → Int32) (ztx : Nat → Int32) (zln : Int32) (zth : Int32) (zsg : Nat → Int32) (zbg : Nat → Int32) (zwd : Nat → Int32) (zhg : Nat → Int32) (zin : Nat → Int32) (zop : Int32) (zbe : Int32) (zwi : Int32) (zhi : Int32) (zbk : Nat → Int32) (zot : Nat → Int32) (zer : Int32) (zen : Int32) (zpo : Nat → Int32) (zpi : Int32) (zgr : Int32) (zsh : Nat → Int32) (zsn : Int32) (x : Int32) (y : Int32) (hR : ModAt g r zq zsp zrm zst zsl zsv ztx zln zth zsg zbg zwd zhg zin zop zbe zwi zhi zbk zot zer zen zpo zpi zgr zsh zsn H0) (hx1 : isIx y 6 = false) : Ct l yX11_lacks cX11_lacks 3 (some .int) rm_c_X11_lacks_t1 g [.ref r, .int x, .int y] H0 (ftA (fun q => r ≤ q ∧ q < r + 16) H0.size) (fun v H1 => v = some (.int (nI 0)) ∧ ModAt g r zq zsp zrm zst zsl zsv ztx zln (nI 1) zsg zbg zwd zhg zin zop zbe zwi zhi zbk zot zer zen zpo zpi zgr zsh zsn H1) := by
  refine Ct.of (by decide) (fun _ h => Or.inr h) (Nat.le_of_ble_eq_true rfl) ?_
  intro p e s m below meth c ls hB hin hS hH hl
  have hx := hB.x
  have hb := hB.b
  have hl : lv_has ls 3 [(0, .ref r), (1, .int x), (2, .int y)] := hl
  refine lv_aload_n hx hb dX11_lacks_0 rfl (lv_at hl 0 rfl) ?_
  refine lv_iconst (v := nI 0) hx hb dX11_lacks_1 (by decide) ?_
  refine pf_X11_56 hB hR.o (by first | exact Or.inl rfl | (simp only [ftA]; omega) | (simp [ftA]; omega)) hS rfl rfl (Nat.le_of_ble_eq_true rfl) dX11_lacks_2 (fun H locs hwr => ?_)
  obtain ⟨hR, hS⟩ := hR.w_zth hwr
  refine lv_iload_n hx hb dX11_lacks_5 rfl (lv_at hl 2 rfl) ?_
  refine cl_X11_153 (As := [.int y]) (rest := []) hB (c_X11_isColour l g H y) rfl hl.1 (Nat.le_of_ble_eq_true rfl) dX11_lacks_6 ⟨Nat.le_of_ble_eq_true rfl, Nat.le_of_ble_eq_true rfl⟩ ⟨Nat.le_of_ble_eq_true rfl, Nat.le_of_ble_eq_true rfl⟩ hS (by have hz9 := hS.1; rintro q (h | h) <;> first | exact Or.inr (by omega) | exact h.elim | exact Or.inl h | (simp only [ftA] at h ⊢; omega)) (fun v H1 locs hpo hfr hS => ?_)
  obtain ⟨rfl, rfl⟩ := hpo
  refine W.widen (k := 0) (n := 0) (Nat.le_of_ble_eq_true rfl) (Nat.le_of_ble_eq_true rfl) ?_
  refine mb_if_ne (tgt := 18) hB dX11_lacks_9 (by decide) (fun h => by rw [hx1] at h; cases h) (fun h_9 => ?_)
  refine lv_aload_n hx hb dX11_lacks_12 rfl (lv_at hl 0 rfl) ?_
  refine lv_iconst (v := nI 1) hx hb dX11_lacks_13 (by decide) ?_
  refine cl_X11_81 (As := [.int (nI 1)]) (rest := []) hB (c_X11_fails l g H r zq zsp zrm zst zsl zsv ztx zln (nI 0) zsg zbg zwd zhg zin zop zbe zwi zhi zbk zot zer zen zpo zpi zgr zsh zsn (nI 1) hR) hR.o rfl hl.1 (Nat.le_of_ble_eq_true rfl) dX11_lacks_14 ⟨Nat.le_of_ble_eq_true rfl, Nat.le_of_ble_eq_true rfl⟩ ⟨Nat.le_of_ble_eq_true rfl, Nat.le_of_ble_eq_true rfl⟩ hS (by have hz9 := hS.1; rintro q (h | h) <;> first | exact Or.inr (by omega) | exact h.elim | exact Or.inl h | (simp only [ftA] at h ⊢; omega)) (fun v H1 locs hpo hfr hS => ?_)
  obtain ⟨rfl, hR⟩ := hpo
  generalize H1 = H at hfr hS hR ⊢
  refine W.widen (k := 0) (n := 0) (Nat.le_of_ble_eq_true rfl) (Nat.le_of_ble_eq_true rfl) ?_
  refine mh_iret hB ⟨Nat.le_of_ble_eq_true rfl, Nat.le_of_ble_eq_true rfl⟩ hS dX11_lacks_17 ⟨?_, ?_⟩
  · rfl
  · exact hR

def rm_c_X11_lacks_t2 : Room := { frames := 2, cells := 0, slots := 0, locals := 45 }
set_option maxRecDepth 100000 in
set_option maxHeartbeats 400000 in
theorem c_X11_lacks_t2 (l : Launch) (g : GG) (H0 : Heap) (r : Nat) (zq : Nat → Int32) (zsp : Nat → Int32) (zrm : Nat → Int32) (zst : Int32) (zsl : Nat → Int32) (zsv : Nat → Int32) (ztx : Nat → Int32) (zln : Int32) (zth : Int32) (zsg : Nat → Int32) (zbg : Nat → Int32) (zwd : Nat → Int32) (zhg : Nat → Int32) (zin : Nat → Int32) (zop : Int32) (zbe : Int32) (zwi : Int32) (zhi : Int32) (zbk : Nat → Int32) (zot : Nat → Int32) (zer : Int32) (zen : Int32) (zpo : Nat → Int32) (zpi : Int32) (zgr : Int32) (zsh : Nat → Int32) (zsn : Int32) (x : Int32) (c0 : Nat) (hR : ModAt g r zq zsp zrm zst zsl zsv ztx zln zth zsg zbg zwd zhg zin zop zbe zwi zhi zbk zot zer zen zpo zpi zgr zsh zsn H0) (hx1 : isIx x 8 = false) (hc : c0 < 6) : Ct l yX11_lacks cX11_lacks 3 (some .int) rm_c_X11_lacks_t2 g [.ref r, .int x, .int (nI c0)] H0 (ftA (fun q => r ≤ q ∧ q < r + 16) H0.size) (fun v H1 => v = some (.int (nI 0)) ∧ ModAt g r zq zsp zrm zst zsl zsv ztx zln (nI 2) zsg zbg zwd zhg zin zop zbe zwi zhi zbk zot zer zen zpo zpi zgr zsh zsn H1) := by
  refine Ct.of (by decide) (fun _ h => Or.inr h) (Nat.le_of_ble_eq_true rfl) ?_
  intro p e s m below meth c ls hB hin hS hH hl
  have hx := hB.x
  have hb := hB.b
  have hl : lv_has ls 3 [(0, .ref r), (1, .int x), (2, .int (nI c0))] := hl
  refine lv_aload_n hx hb dX11_lacks_0 rfl (lv_at hl 0 rfl) ?_
  refine lv_iconst (v := nI 0) hx hb dX11_lacks_1 (by decide) ?_
  refine pf_X11_56 hB hR.o (by first | exact Or.inl rfl | (simp only [ftA]; omega) | (simp [ftA]; omega)) hS rfl rfl (Nat.le_of_ble_eq_true rfl) dX11_lacks_2 (fun H locs hwr => ?_)
  obtain ⟨hR, hS⟩ := hR.w_zth hwr
  refine lv_iload_n hx hb dX11_lacks_5 rfl (lv_at hl 2 rfl) ?_
  refine cl_X11_153 (As := [.int (nI c0)]) (rest := []) hB (c_X11_isColour l g H (nI c0)) rfl hl.1 (Nat.le_of_ble_eq_true rfl) dX11_lacks_6 ⟨Nat.le_of_ble_eq_true rfl, Nat.le_of_ble_eq_true rfl⟩ ⟨Nat.le_of_ble_eq_true rfl, Nat.le_of_ble_eq_true rfl⟩ hS (by have hz9 := hS.1; rintro q (h | h) <;> first | exact Or.inr (by omega) | exact h.elim | exact Or.inl h | (simp only [ftA] at h ⊢; omega)) (fun v H1 locs hpo hfr hS => ?_)
  obtain ⟨rfl, rfl⟩ := hpo
  refine W.widen (k := 0) (n := 0) (Nat.le_of_ble_eq_true rfl) (Nat.le_of_ble_eq_true rfl) ?_
  refine mb_if_ne (tgt := 18) hB dX11_lacks_9 (by decide) (fun h_9 => ?_) (fun h => by rw [isIx_of hc (by omega)] at h; cases h)
  refine lv_iload_n hx hb dX11_lacks_18 rfl (lv_at hl 1 rfl) ?_
  refine lv_i2l (v := (x).toInt64) hx hb dX11_lacks_19 rfl ?_
  refine lv_lconst (v := 0) hx hb dX11_lacks_20 (by decide) ?_
  refine lv_ldc2 (v := (7)) hx hb hB.ow (hB.K.2 _ kw_1300 _) dX11_lacks_21 ?_
  refine cl_X11_63 (As := [.long ((x).toInt64), .long 0, .long (7)]) (rest := []) hB (c_X11_in l g H ((x).toInt64) 0 (7)) rfl hl.1 (Nat.le_of_ble_eq_true rfl) dX11_lacks_24 ⟨Nat.le_of_ble_eq_true rfl, Nat.le_of_ble_eq_true rfl⟩ ⟨Nat.le_of_ble_eq_true rfl, Nat.le_of_ble_eq_true rfl⟩ hS (by have hz9 := hS.1; rintro q (h | h) <;> first | exact Or.inr (by omega) | exact h.elim | exact Or.inl h | (simp only [ftA] at h ⊢; omega)) (fun v H1 locs hpo hfr hS => ?_)
  obtain ⟨rfl, rfl⟩ := hpo
  refine W.widen (k := 0) (n := 0) (Nat.le_of_ble_eq_true rfl) (Nat.le_of_ble_eq_true rfl) ?_
  refine mh_top (y := .int (bI (isIx x 8))) (by rw [inL_ix _ 8 _ (by decide +kernel)]) ?_
  refine mb_if_eq (tgt := 39) hB dX11_lacks_27 (by decide) (fun h_27 => ?_) (fun h => by rw [hx1] at h; cases h)
  refine lv_aload_n hx hb dX11_lacks_39 rfl (lv_at hl 0 rfl) ?_
  refine lv_iconst (v := nI 2) hx hb dX11_lacks_40 (by decide) ?_
  refine cl_X11_81 (As := [.int (nI 2)]) (rest := []) hB (c_X11_fails l g H r zq zsp zrm zst zsl zsv ztx zln (nI 0) zsg zbg zwd zhg zin zop zbe zwi zhi zbk zot zer zen zpo zpi zgr zsh zsn (nI 2) hR) hR.o rfl hl.1 (Nat.le_of_ble_eq_true rfl) dX11_lacks_41 ⟨Nat.le_of_ble_eq_true rfl, Nat.le_of_ble_eq_true rfl⟩ ⟨Nat.le_of_ble_eq_true rfl, Nat.le_of_ble_eq_true rfl⟩ hS (by have hz9 := hS.1; rintro q (h | h) <;> first | exact Or.inr (by omega) | exact h.elim | exact Or.inl h | (simp only [ftA] at h ⊢; omega)) (fun v H1 locs hpo hfr hS => ?_)
  obtain ⟨rfl, hR⟩ := hpo
  generalize H1 = H at hfr hS hR ⊢
  refine W.widen (k := 0) (n := 0) (Nat.le_of_ble_eq_true rfl) (Nat.le_of_ble_eq_true rfl) ?_
  refine mh_iret hB ⟨Nat.le_of_ble_eq_true rfl, Nat.le_of_ble_eq_true rfl⟩ hS dX11_lacks_44 ⟨?_, ?_⟩
  · rfl
  · exact hR

def rm_c_X11_wouldGet : Room := { frames := 4, cells := 0, slots := 0, locals := 91 }
set_option maxRecDepth 100000 in
set_option maxHeartbeats 400000 in
theorem c_X11_wouldGet (l : Launch) (g : GG) (H0 : Heap) (r : Nat) (zq : Nat → Int32) (zsp : Nat → Int32) (zrm : Nat → Int32) (zst : Int32) (zsl : Nat → Int32) (zsv : Nat → Int32) (ztx : Nat → Int32) (zln : Int32) (zth : Int32) (zsg : Nat → Int32) (zbg : Nat → Int32) (zwd : Nat → Int32) (zhg : Nat → Int32) (zin : Nat → Int32) (zop : Int32) (zbe : Int32) (zwi : Int32) (zhi : Int32) (zbk : Nat → Int32) (zot : Nat → Int32) (zer : Int32) (zen : Int32) (zpo : Nat → Int32) (zpi : Int32) (zgr : Int32) (zsh : Nat → Int32) (zsn : Int32) (f : Nat) (m0 : Nat) (p0 : Nat) (hR : ModAt g r zq zsp zrm zst zsl zsv ztx zln zth zsg zbg zwd zhg zin zop zbe zwi zhi zbk zot zer zen zpo zpi zgr zsh zsn H0) (hW : WF zq) (hf : f < 3) (hm : m0 < nmQ zq) (hp : p0 < 10000) (hs0 : 0 < szF zq f) (hs1 : swF zq f = szF zq f) : Ct l yX11_wouldGet cX11_wouldGet 4 (some .int) rm_c_X11_wouldGet g [.ref r, .int (nI f), .int (nI m0), .int (nI p0)] H0 (ftA (fun q => r ≤ q ∧ q < r + 16) H0.size) (fun v H1 => v = some (.int (shrQ zq f p0 m0)) ∧ ModAt g r zq zsp zrm zst zsl zsv ztx zln (nI 0) zsg zbg zwd zhg zin zop zbe zwi zhi zbk zot zer zen zpo zpi zgr (lowOf (shrQ zq f p0) (lowOf (shr1 zq f p0) zsh 5) 5) zsn H1) := by
  refine Ct.of (by decide) (fun _ h => Or.inr h) (Nat.le_of_ble_eq_true rfl) ?_
  intro p e s m below meth c ls hB hin hS hH hl
  have hx := hB.x
  have hb := hB.b
  have hl : lv_has ls 4 [(0, .ref r), (1, .int (nI f)), (2, .int (nI m0)), (3, .int (nI p0))] := hl
  have hnm := hW.2.2.1
  refine lv_aload_n hx hb dX11_wouldGet_0 rfl (lv_at hl 0 rfl) ?_
  refine lv_iconst (v := nI 0) hx hb dX11_wouldGet_1 (by decide) ?_
  refine pf_X11_56 hB hR.o (by first | exact Or.inl rfl | (simp only [ftA]; omega) | (simp [ftA]; omega)) hS rfl rfl (Nat.le_of_ble_eq_true rfl) dX11_wouldGet_2 (fun H locs hwr => ?_)
  obtain ⟨hR, hS⟩ := hR.w_zth hwr
  refine lv_iload_n hx hb dX11_wouldGet_5 rfl (lv_at hl 1 rfl) ?_
  refine cl_X11_175 (As := [.int (nI f)]) (rest := []) hB (c_X11_isFrame l g H (nI f)) rfl hl.1 (Nat.le_of_ble_eq_true rfl) dX11_wouldGet_6 ⟨Nat.le_of_ble_eq_true rfl, Nat.le_of_ble_eq_true rfl⟩ ⟨Nat.le_of_ble_eq_true rfl, Nat.le_of_ble_eq_true rfl⟩ hS (by have hz9 := hS.1; rintro q (h | h) <;> first | exact Or.inr (by omega) | exact h.elim | exact Or.inl h | (simp only [ftA] at h ⊢; omega)) (fun v H1 locs hpo hfr hS => ?_)
  obtain ⟨rfl, rfl⟩ := hpo
  refine W.widen (k := 0) (n := 0) (Nat.le_of_ble_eq_true rfl) (Nat.le_of_ble_eq_true rfl) ?_
  refine mb_if_eq (tgt := 20) hB dX11_wouldGet_9 (by decide) (fun h => by rw [isIx_of hf (by omega)] at h; cases h) (fun h_9 => ?_)
  refine lv_aload_n hx hb dX11_wouldGet_12 rfl (lv_at hl 0 rfl) ?_
  refine lv_iload_n hx hb dX11_wouldGet_13 rfl (lv_at hl 2 rfl) ?_
  refine cl_X11_145 (As := [.int (nI m0)]) (rest := []) hB (c_X11_isMember l g H r zq zsp zrm zst zsl zsv ztx zln (nI 0) zsg zbg zwd zhg zin zop zbe zwi zhi zbk zot zer zen zpo zpi zgr zsh zsn (nI m0) hR (by omega)) hR.o rfl hl.1 (Nat.le_of_ble_eq_true rfl) dX11_wouldGet_14 ⟨Nat.le_of_ble_eq_true rfl, Nat.le_of_ble_eq_true rfl⟩ ⟨Nat.le_of_ble_eq_true rfl, Nat.le_of_ble_eq_true rfl⟩ hS (by have hz9 := hS.1; rintro q (h | h) <;> first | exact Or.inr (by omega) | exact h.elim | exact Or.inl h | (simp only [ftA] at h ⊢; omega)) (fun v H1 locs hpo hfr hS => ?_)
  obtain ⟨rfl, rfl⟩ := hpo
  refine W.widen (k := 0) (n := 0) (Nat.le_of_ble_eq_true rfl) (Nat.le_of_ble_eq_true rfl) ?_
  refine mb_if_ne (tgt := 26) hB dX11_wouldGet_17 (by decide) (fun h_17 => ?_) (fun h => by rw [isIx_of hm (by omega)] at h; cases h)
  refine lv_iload_n hx hb dX11_wouldGet_26 rfl (lv_at hl 3 rfl) ?_
  refine lv_i2l (v := (nI p0).toInt64) hx hb dX11_wouldGet_27 rfl ?_
  refine lv_lconst (v := 0) hx hb dX11_wouldGet_28 (by decide) ?_
  refine lv_ldc2 (v := (9999)) hx hb hB.ow (hB.K.2 _ kw_1267 _) dX11_wouldGet_29 ?_
  refine cl_X11_63 (As := [.long ((nI p0).toInt64), .long 0, .long (9999)]) (rest := []) hB (c_X11_in l g H ((nI p0).toInt64) 0 (9999)) rfl hl.1 (Nat.le_of_ble_eq_true rfl) dX11_wouldGet_32 ⟨Nat.le_of_ble_eq_true rfl, Nat.le_of_ble_eq_true rfl⟩ ⟨Nat.le_of_ble_eq_true rfl, Nat.le_of_ble_eq_true rfl⟩ hS (by have hz9 := hS.1; rintro q (h | h) <;> first | exact Or.inr (by omega) | exact h.elim | exact Or.inl h | (simp only [ftA] at h ⊢; omega)) (fun v H1 locs hpo hfr hS => ?_)
  obtain ⟨rfl, rfl⟩ := hpo
  refine W.widen (k := 0) (n := 0) (Nat.le_of_ble_eq_true rfl) (Nat.le_of_ble_eq_true rfl) ?_
  refine mh_top (y := .int (bI (isIx (nI p0) 10000))) (by rw [inL_ix _ 10000 _ (by decide +kernel)]) ?_
  refine mb_if_ne (tgt := 44) hB dX11_wouldGet_35 (by decide) (fun h_35 => ?_) (fun h => by rw [isIx_of hp (by omega)] at h; cases h)
  refine lv_aload_n hx hb dX11_wouldGet_44 rfl (lv_at hl 0 rfl) ?_
  refine lv_iload_n hx hb dX11_wouldGet_45 rfl (lv_at hl 1 rfl) ?_
  refine cl_X11_235 (As := [.int (nI f)]) (rest := []) hB (c_X11_isFinished l g H r zq zsp zrm zst zsl zsv ztx zln (nI 0) zsg zbg zwd zhg zin zop zbe zwi zhi zbk zot zer zen zpo zpi zgr zsh zsn f hR (by omega) (hW.fr hf)) hR.o rfl hl.1 (Nat.le_of_ble_eq_true rfl) dX11_wouldGet_46 ⟨Nat.le_of_ble_eq_true rfl, Nat.le_of_ble_eq_true rfl⟩ ⟨Nat.le_of_ble_eq_true rfl, Nat.le_of_ble_eq_true rfl⟩ hS (by have hz9 := hS.1; rintro q (h | h) <;> first | exact Or.inr (by omega) | exact h.elim | exact Or.inl h | (simp only [ftA] at h ⊢; omega)) (fun v H1 locs hpo hfr hS => ?_)
  obtain ⟨rfl, rfl⟩ := hpo
  refine W.widen (k := 0) (n := 0) (Nat.le_of_ble_eq_true rfl) (Nat.le_of_ble_eq_true rfl) ?_
  refine mb_if_ne (tgt := 55) hB dX11_wouldGet_49 (by decide) (fun h_49 => ?_) (fun h => by rw [decide_eq_true (And.intro hs0 hs1)] at h; cases h)
  refine lv_aload_n hx hb dX11_wouldGet_55 rfl (lv_at hl 0 rfl) ?_
  refine lv_iload_n hx hb dX11_wouldGet_56 rfl (lv_at hl 1 rfl) ?_
  refine lv_iload_n hx hb dX11_wouldGet_57 rfl (lv_at hl 3 rfl) ?_
  refine cl_X11_230 (As := [.int (nI f), .int (nI p0)]) (rest := []) hB (c_X11_splits l g H r zq zsp zrm zst zsl zsv ztx zln (nI 0) zsg zbg zwd zhg zin zop zbe zwi zhi zbk zot zer zen zpo zpi zgr zsh zsn f p0 hR (by omega) (hW.fr hf) (by omega) (by omega)) hR.o rfl hl.1 (Nat.le_of_ble_eq_true rfl) dX11_wouldGet_58 ⟨Nat.le_of_ble_eq_true rfl, Nat.le_of_ble_eq_true rfl⟩ ⟨Nat.le_of_ble_eq_true rfl, Nat.le_of_ble_eq_true rfl⟩ hS (by have hz9 := hS.1; rintro q (h | h) <;> first | exact Or.inr (by omega) | exact h.elim | exact Or.inl h | (simp only [ftA] at h ⊢; omega)) (fun v H1 locs hpo hfr hS => ?_)
  obtain ⟨rfl, hR⟩ := hpo
  generalize H1 = H at hfr hS hR ⊢
  refine W.widen (k := 0) (n := 0) (Nat.le_of_ble_eq_true rfl) (Nat.le_of_ble_eq_true rfl) ?_
  refine lv_aload_n hx hb dX11_wouldGet_61 rfl (lv_at hl 0 rfl) ?_
  refine gf_X11_53 hB hR.o rfl dX11_wouldGet_62 ?_
  refine lv_iload_n hx hb dX11_wouldGet_65 rfl (lv_at hl 2 rfl) ?_
  refine mn_iald hB hR.a_zsh (by omega) (by omega) dX11_wouldGet_66 ?_
  refine mh_top (y := .int (shrQ zq f p0 m0)) (by rw [lowOf_all _ _ (by omega)]) ?_
  refine mh_iret hB ⟨Nat.le_of_ble_eq_true rfl, Nat.le_of_ble_eq_true rfl⟩ hS dX11_wouldGet_67 ⟨?_, ?_⟩
  · rfl
  · exact hR

def rm_c_X11_wouldGet_no : Room := { frames := 3, cells := 0, slots := 0, locals := 63 }
set_option maxRecDepth 100000 in
set_option maxHeartbeats 400000 in
theorem c_X11_wouldGet_no (l : Launch) (g : GG) (H0 : Heap) (r : Nat) (zq : Nat → Int32) (zsp : Nat → Int32) (zrm : Nat → Int32) (zst : Int32) (zsl : Nat → Int32) (zsv : Nat → Int32) (ztx : Nat → Int32) (zln : Int32) (zth : Int32) (zsg : Nat → Int32) (zbg : Nat → Int32) (zwd : Nat → Int32) (zhg : Nat → Int32) (zin : Nat → Int32) (zop : Int32) (zbe : Int32) (zwi : Int32) (zhi : Int32) (zbk : Nat → Int32) (zot : Nat → Int32) (zer : Int32) (zen : Int32) (zpo : Nat → Int32) (zpi : Int32) (zgr : Int32) (zsh : Nat → Int32) (zsn : Int32) (f : Nat) (m0 : Nat) (p0 : Nat) (hR : ModAt g r zq zsp zrm zst zsl zsv ztx zln zth zsg zbg zwd zhg zin zop zbe zwi zhi zbk zot zer zen zpo zpi zgr zsh zsn H0) (hW : WF zq) (hf : f < 3) (hm : m0 < nmQ zq) (hp : p0 < 10000) (hs0 : ¬ (0 < szF zq f ∧ swF zq f = szF zq f)) : Ct l yX11_wouldGet cX11_wouldGet 4 (some .int) rm_c_X11_wouldGet_no g [.ref r, .int (nI f), .int (nI m0), .int (nI p0)] H0 (ftA (fun q => r ≤ q ∧ q < r + 16) H0.size) (fun v H1 => v = some (.int (-9)) ∧ ModAt g r zq zsp zrm zst zsl zsv ztx zln (nI 0) zsg zbg zwd zhg zin zop zbe zwi zhi zbk zot zer zen zpo zpi zgr zsh zsn H1) := by
  refine Ct.of (by decide) (fun _ h => Or.inr h) (Nat.le_of_ble_eq_true rfl) ?_
  intro p e s m below meth c ls hB hin hS hH hl
  have hx := hB.x
  have hb := hB.b
  have hl : lv_has ls 4 [(0, .ref r), (1, .int (nI f)), (2, .int (nI m0)), (3, .int (nI p0))] := hl
  have hnm := hW.2.2.1
  refine lv_aload_n hx hb dX11_wouldGet_0 rfl (lv_at hl 0 rfl) ?_
  refine lv_iconst (v := nI 0) hx hb dX11_wouldGet_1 (by decide) ?_
  refine pf_X11_56 hB hR.o (by first | exact Or.inl rfl | (simp only [ftA]; omega) | (simp [ftA]; omega)) hS rfl rfl (Nat.le_of_ble_eq_true rfl) dX11_wouldGet_2 (fun H locs hwr => ?_)
  obtain ⟨hR, hS⟩ := hR.w_zth hwr
  refine lv_iload_n hx hb dX11_wouldGet_5 rfl (lv_at hl 1 rfl) ?_
  refine cl_X11_175 (As := [.int (nI f)]) (rest := []) hB (c_X11_isFrame l g H (nI f)) rfl hl.1 (Nat.le_of_ble_eq_true rfl) dX11_wouldGet_6 ⟨Nat.le_of_ble_eq_true rfl, Nat.le_of_ble_eq_true rfl⟩ ⟨Nat.le_of_ble_eq_true rfl, Nat.le_of_ble_eq_true rfl⟩ hS (by have hz9 := hS.1; rintro q (h | h) <;> first | exact Or.inr (by omega) | exact h.elim | exact Or.inl h | (simp only [ftA] at h ⊢; omega)) (fun v H1 locs hpo hfr hS => ?_)
  obtain ⟨rfl, rfl⟩ := hpo
  refine W.widen (k := 0) (n := 0) (Nat.le_of_ble_eq_true rfl) (Nat.le_of_ble_eq_true rfl) ?_
  refine mb_if_eq (tgt := 20) hB dX11_wouldGet_9 (by decide) (fun h => by rw [isIx_of hf (by omega)] at h; cases h) (fun h_9 => ?_)
  refine lv_aload_n hx hb dX11_wouldGet_12 rfl (lv_at hl 0 rfl) ?_
  refine lv_iload_n hx hb dX11_wouldGet_13 rfl (lv_at hl 2 rfl) ?_
  refine cl_X11_145 (As := [.int (nI m0)]) (rest := []) hB (c_X11_isMember l g H r zq zsp zrm zst zsl zsv ztx zln (nI 0) zsg zbg zwd zhg zin zop zbe zwi zhi zbk zot zer zen zpo zpi zgr zsh zsn (nI m0) hR (by omega)) hR.o rfl hl.1 (Nat.le_of_ble_eq_true rfl) dX11_wouldGet_14 ⟨Nat.le_of_ble_eq_true rfl, Nat.le_of_ble_eq_true rfl⟩ ⟨Nat.le_of_ble_eq_true rfl, Nat.le_of_ble_eq_true rfl⟩ hS (by have hz9 := hS.1; rintro q (h | h) <;> first | exact Or.inr (by omega) | exact h.elim | exact Or.inl h | (simp only [ftA] at h ⊢; omega)) (fun v H1 locs hpo hfr hS => ?_)
  obtain ⟨rfl, rfl⟩ := hpo
  refine W.widen (k := 0) (n := 0) (Nat.le_of_ble_eq_true rfl) (Nat.le_of_ble_eq_true rfl) ?_
  refine mb_if_ne (tgt := 26) hB dX11_wouldGet_17 (by decide) (fun h_17 => ?_) (fun h => by rw [isIx_of hm (by omega)] at h; cases h)
  refine lv_iload_n hx hb dX11_wouldGet_26 rfl (lv_at hl 3 rfl) ?_
  refine lv_i2l (v := (nI p0).toInt64) hx hb dX11_wouldGet_27 rfl ?_
  refine lv_lconst (v := 0) hx hb dX11_wouldGet_28 (by decide) ?_
  refine lv_ldc2 (v := (9999)) hx hb hB.ow (hB.K.2 _ kw_1267 _) dX11_wouldGet_29 ?_
  refine cl_X11_63 (As := [.long ((nI p0).toInt64), .long 0, .long (9999)]) (rest := []) hB (c_X11_in l g H ((nI p0).toInt64) 0 (9999)) rfl hl.1 (Nat.le_of_ble_eq_true rfl) dX11_wouldGet_32 ⟨Nat.le_of_ble_eq_true rfl, Nat.le_of_ble_eq_true rfl⟩ ⟨Nat.le_of_ble_eq_true rfl, Nat.le_of_ble_eq_true rfl⟩ hS (by have hz9 := hS.1; rintro q (h | h) <;> first | exact Or.inr (by omega) | exact h.elim | exact Or.inl h | (simp only [ftA] at h ⊢; omega)) (fun v H1 locs hpo hfr hS => ?_)
  obtain ⟨rfl, rfl⟩ := hpo
  refine W.widen (k := 0) (n := 0) (Nat.le_of_ble_eq_true rfl) (Nat.le_of_ble_eq_true rfl) ?_
  refine mh_top (y := .int (bI (isIx (nI p0) 10000))) (by rw [inL_ix _ 10000 _ (by decide +kernel)]) ?_
  refine mb_if_ne (tgt := 44) hB dX11_wouldGet_35 (by decide) (fun h_35 => ?_) (fun h => by rw [isIx_of hp (by omega)] at h; cases h)
  refine lv_aload_n hx hb dX11_wouldGet_44 rfl (lv_at hl 0 rfl) ?_
  refine lv_iload_n hx hb dX11_wouldGet_45 rfl (lv_at hl 1 rfl) ?_
  refine cl_X11_235 (As := [.int (nI f)]) (rest := []) hB (c_X11_isFinished l g H r zq zsp zrm zst zsl zsv ztx zln (nI 0) zsg zbg zwd zhg zin zop zbe zwi zhi zbk zot zer zen zpo zpi zgr zsh zsn f hR (by omega) (hW.fr hf)) hR.o rfl hl.1 (Nat.le_of_ble_eq_true rfl) dX11_wouldGet_46 ⟨Nat.le_of_ble_eq_true rfl, Nat.le_of_ble_eq_true rfl⟩ ⟨Nat.le_of_ble_eq_true rfl, Nat.le_of_ble_eq_true rfl⟩ hS (by have hz9 := hS.1; rintro q (h | h) <;> first | exact Or.inr (by omega) | exact h.elim | exact Or.inl h | (simp only [ftA] at h ⊢; omega)) (fun v H1 locs hpo hfr hS => ?_)
  obtain ⟨rfl, rfl⟩ := hpo
  refine W.widen (k := 0) (n := 0) (Nat.le_of_ble_eq_true rfl) (Nat.le_of_ble_eq_true rfl) ?_
  refine mb_if_ne (tgt := 55) hB dX11_wouldGet_49 (by decide) (fun h => by rw [decide_eq_false hs0] at h; cases h) (fun h_49 => ?_)
  refine lv_bipush (v := (-9)) hx hb dX11_wouldGet_52 (by decide) ?_
  refine mh_iret hB ⟨Nat.le_of_ble_eq_true rfl, Nat.le_of_ble_eq_true rfl⟩ hS dX11_wouldGet_54 ⟨?_, ?_⟩
  · rfl
  · exact hR

def rm_c_X11_wouldGet_t1 : Room := { frames := 2, cells := 0, slots := 0, locals := 46 }
set_option maxRecDepth 100000 in
set_option maxHeartbeats 400000 in
theorem c_X11_wouldGet_t1 (l : Launch) (g : GG) (H0 : Heap) (r : Nat) (zq : Nat → Int32) (zsp : Nat → Int32) (zrm : Nat → Int32) (zst : Int32) (zsl : Nat → Int32) (zsv : Nat → Int32) (ztx : Nat → Int32) (zln : Int32) (zth : Int32) (zsg : Nat → Int32) (zbg : Nat → Int32) (zwd : Nat → Int32) (zhg : Nat → Int32) (zin : Nat → Int32) (zop : Int32) (zbe : Int32) (zwi : Int32) (zhi : Int32) (zbk : Nat → Int32) (zot : Nat → Int32) (zer : Int32) (zen : Int32) (zpo : Nat → Int32) (zpi : Int32) (zgr : Int32) (zsh : Nat → Int32) (zsn : Int32) (x : Int32) (y : Int32) (z : Int32) (hR : ModAt g r zq zsp zrm zst zsl zsv ztx zln zth zsg zbg zwd zhg zin zop zbe zwi zhi zbk zot zer zen zpo zpi zgr zsh zsn H0) (hW : WF zq) (hx1 : isIx x 3 = false ∨ isIx y (nmQ zq) = false) : Ct l yX11_wouldGet cX11_wouldGet 4 (some .int) rm_c_X11_wouldGet_t1 g [.ref r, .int x, .int y, .int z] H0 (ftA (fun q => r ≤ q ∧ q < r + 16) H0.size) (fun v H1 => v = some (.int (nI 0)) ∧ ModAt g r zq zsp zrm zst zsl zsv ztx zln (nI 1) zsg zbg zwd zhg zin zop zbe zwi zhi zbk zot zer zen zpo zpi zgr zsh zsn H1) := by
  refine Ct.of (by decide) (fun _ h => Or.inr h) (Nat.le_of_ble_eq_true rfl) ?_
  intro p e s m below meth c ls hB hin hS hH hl
  have hx := hB.x
  have hb := hB.b
  have hl : lv_has ls 4 [(0, .ref r), (1, .int x), (2, .int y), (3, .int z)] := hl
  refine lv_aload_n hx hb dX11_wouldGet_0 rfl (lv_at hl 0 rfl) ?_
  refine lv_iconst (v := nI 0) hx hb dX11_wouldGet_1 (by decide) ?_
  refine pf_X11_56 hB hR.o (by first | exact Or.inl rfl | (simp only [ftA]; omega) | (simp [ftA]; omega)) hS rfl rfl (Nat.le_of_ble_eq_true rfl) dX11_wouldGet_2 (fun H locs hwr => ?_)
  obtain ⟨hR, hS⟩ := hR.w_zth hwr
  refine lv_iload_n hx hb dX11_wouldGet_5 rfl (lv_at hl 1 rfl) ?_
  refine cl_X11_175 (As := [.int x]) (rest := []) hB (c_X11_isFrame l g H x) rfl hl.1 (Nat.le_of_ble_eq_true rfl) dX11_wouldGet_6 ⟨Nat.le_of_ble_eq_true rfl, Nat.le_of_ble_eq_true rfl⟩ ⟨Nat.le_of_ble_eq_true rfl, Nat.le_of_ble_eq_true rfl⟩ hS (by have hz9 := hS.1; rintro q (h | h) <;> first | exact Or.inr (by omega) | exact h.elim | exact Or.inl h | (simp only [ftA] at h ⊢; omega)) (fun v H1 locs hpo hfr hS => ?_)
  obtain ⟨rfl, rfl⟩ := hpo
  refine W.widen (k := 0) (n := 0) (Nat.le_of_ble_eq_true rfl) (Nat.le_of_ble_eq_true rfl) ?_
  refine mb_if_eq (tgt := 20) hB dX11_wouldGet_9 (by decide) (fun h_9 => ?_) (fun h_9 => ?_)
  · skip
    refine lv_aload_n hx hb dX11_wouldGet_20 rfl (lv_at hl 0 rfl) ?_
    refine lv_iconst (v := nI 1) hx hb dX11_wouldGet_21 (by decide) ?_
    refine cl_X11_81 (As := [.int (nI 1)]) (rest := []) hB (c_X11_fails l g H r zq zsp zrm zst zsl zsv ztx zln (nI 0) zsg zbg zwd zhg zin zop zbe zwi zhi zbk zot zer zen zpo zpi zgr zsh zsn (nI 1) hR) hR.o rfl hl.1 (Nat.le_of_ble_eq_true rfl) dX11_wouldGet_22 ⟨Nat.le_of_ble_eq_true rfl, Nat.le_of_ble_eq_true rfl⟩ ⟨Nat.le_of_ble_eq_true rfl, Nat.le_of_ble_eq_true rfl⟩ hS (by have hz9 := hS.1; rintro q (h | h) <;> first | exact Or.inr (by omega) | exact h.elim | exact Or.inl h | (simp only [ftA] at h ⊢; omega)) (fun v H1 locs hpo hfr hS => ?_)
    obtain ⟨rfl, hR⟩ := hpo
    generalize H1 = H at hfr hS hR ⊢
    refine W.widen (k := 0) (n := 0) (Nat.le_of_ble_eq_true rfl) (Nat.le_of_ble_eq_true rfl) ?_
    refine mh_iret hB ⟨Nat.le_of_ble_eq_true rfl, Nat.le_of_ble_eq_true rfl⟩ hS dX11_wouldGet_25 ⟨?_, ?_⟩
    · rfl
    · exact hR
  · skip
    refine lv_aload_n hx hb dX11_wouldGet_12 rfl (lv_at hl 0 rfl) ?_
    refine lv_iload_n hx hb dX11_wouldGet_13 rfl (lv_at hl 2 rfl) ?_
    refine cl_X11_145 (As := [.int y]) (rest := []) hB (c_X11_isMember l g H r zq zsp zrm zst zsl zsv ztx zln (nI 0) zsg zbg zwd zhg zin zop zbe zwi zhi zbk zot zer zen zpo zpi zgr zsh zsn y hR (by omega)) hR.o rfl hl.1 (Nat.le_of_ble_eq_true rfl) dX11_wouldGet_14 ⟨Nat.le_of_ble_eq_true rfl, Nat.le_of_ble_eq_true rfl⟩ ⟨Nat.le_of_ble_eq_true rfl, Nat.le_of_ble_eq_true rfl⟩ hS (by have hz9 := hS.1; rintro q (h | h) <;> first | exact Or.inr (by omega) | exact h.elim | exact Or.inl h | (simp only [ftA] at h ⊢; omega)) (fun v H1 locs hpo hfr hS => ?_)
    obtain ⟨rfl, rfl⟩ := hpo
    refine W.widen (k := 0) (n := 0) (Nat.le_of_ble_eq_true rfl) (Nat.le_of_ble_eq_true rfl) ?_
    refine mb_if_ne (tgt := 26) hB dX11_wouldGet_17 (by decide) (fun h => by rcases hx1 with z9 | z9; (rw [z9] at h_9; cases h_9); (rw [z9] at h; cases h)) (fun h_17 => ?_)
    refine lv_aload_n hx hb dX11_wouldGet_20 rfl (lv_at hl 0 rfl) ?_
    refine lv_iconst (v := nI 1) hx hb dX11_wouldGet_21 (by decide) ?_
    refine cl_X11_81 (As := [.int (nI 1)]) (rest := []) hB (c_X11_fails l g H r zq zsp zrm zst zsl zsv ztx zln (nI 0) zsg zbg zwd zhg zin zop zbe zwi zhi zbk zot zer zen zpo zpi zgr zsh zsn (nI 1) hR) hR.o rfl hl.1 (Nat.le_of_ble_eq_true rfl) dX11_wouldGet_22 ⟨Nat.le_of_ble_eq_true rfl, Nat.le_of_ble_eq_true rfl⟩ ⟨Nat.le_of_ble_eq_true rfl, Nat.le_of_ble_eq_true rfl⟩ hS (by have hz9 := hS.1; rintro q (h | h) <;> first | exact Or.inr (by omega) | exact h.elim | exact Or.inl h | (simp only [ftA] at h ⊢; omega)) (fun v H1 locs hpo hfr hS => ?_)
    obtain ⟨rfl, hR⟩ := hpo
    generalize H1 = H at hfr hS hR ⊢
    refine W.widen (k := 0) (n := 0) (Nat.le_of_ble_eq_true rfl) (Nat.le_of_ble_eq_true rfl) ?_
    refine mh_iret hB ⟨Nat.le_of_ble_eq_true rfl, Nat.le_of_ble_eq_true rfl⟩ hS dX11_wouldGet_25 ⟨?_, ?_⟩
    · rfl
    · exact hR

def rm_c_X11_wouldGet_t2 : Room := { frames := 2, cells := 0, slots := 0, locals := 46 }
set_option maxRecDepth 100000 in
set_option maxHeartbeats 400000 in
theorem c_X11_wouldGet_t2 (l : Launch) (g : GG) (H0 : Heap) (r : Nat) (zq : Nat → Int32) (zsp : Nat → Int32) (zrm : Nat → Int32) (zst : Int32) (zsl : Nat → Int32) (zsv : Nat → Int32) (ztx : Nat → Int32) (zln : Int32) (zth : Int32) (zsg : Nat → Int32) (zbg : Nat → Int32) (zwd : Nat → Int32) (zhg : Nat → Int32) (zin : Nat → Int32) (zop : Int32) (zbe : Int32) (zwi : Int32) (zhi : Int32) (zbk : Nat → Int32) (zot : Nat → Int32) (zer : Int32) (zen : Int32) (zpo : Nat → Int32) (zpi : Int32) (zgr : Int32) (zsh : Nat → Int32) (zsn : Int32) (f : Nat) (m0 : Nat) (z : Int32) (hR : ModAt g r zq zsp zrm zst zsl zsv ztx zln zth zsg zbg zwd zhg zin zop zbe zwi zhi zbk zot zer zen zpo zpi zgr zsh zsn H0) (hW : WF zq) (hf : f < 3) (hm : m0 < nmQ zq) (hx1 : isIx z 10000 = false) : Ct l yX11_wouldGet cX11_wouldGet 4 (some .int) rm_c_X11_wouldGet_t2 g [.ref r, .int (nI f), .int (nI m0), .int z] H0 (ftA (fun q => r ≤ q ∧ q < r + 16) H0.size) (fun v H1 => v = some (.int (nI 0)) ∧ ModAt g r zq zsp zrm zst zsl zsv ztx zln (nI 2) zsg zbg zwd zhg zin zop zbe zwi zhi zbk zot zer zen zpo zpi zgr zsh zsn H1) := by
  refine Ct.of (by decide) (fun _ h => Or.inr h) (Nat.le_of_ble_eq_true rfl) ?_
  intro p e s m below meth c ls hB hin hS hH hl
  have hx := hB.x
  have hb := hB.b
  have hl : lv_has ls 4 [(0, .ref r), (1, .int (nI f)), (2, .int (nI m0)), (3, .int z)] := hl
  have hnm := hW.2.2.1
  refine lv_aload_n hx hb dX11_wouldGet_0 rfl (lv_at hl 0 rfl) ?_
  refine lv_iconst (v := nI 0) hx hb dX11_wouldGet_1 (by decide) ?_
  refine pf_X11_56 hB hR.o (by first | exact Or.inl rfl | (simp only [ftA]; omega) | (simp [ftA]; omega)) hS rfl rfl (Nat.le_of_ble_eq_true rfl) dX11_wouldGet_2 (fun H locs hwr => ?_)
  obtain ⟨hR, hS⟩ := hR.w_zth hwr
  refine lv_iload_n hx hb dX11_wouldGet_5 rfl (lv_at hl 1 rfl) ?_
  refine cl_X11_175 (As := [.int (nI f)]) (rest := []) hB (c_X11_isFrame l g H (nI f)) rfl hl.1 (Nat.le_of_ble_eq_true rfl) dX11_wouldGet_6 ⟨Nat.le_of_ble_eq_true rfl, Nat.le_of_ble_eq_true rfl⟩ ⟨Nat.le_of_ble_eq_true rfl, Nat.le_of_ble_eq_true rfl⟩ hS (by have hz9 := hS.1; rintro q (h | h) <;> first | exact Or.inr (by omega) | exact h.elim | exact Or.inl h | (simp only [ftA] at h ⊢; omega)) (fun v H1 locs hpo hfr hS => ?_)
  obtain ⟨rfl, rfl⟩ := hpo
  refine W.widen (k := 0) (n := 0) (Nat.le_of_ble_eq_true rfl) (Nat.le_of_ble_eq_true rfl) ?_
  refine mb_if_eq (tgt := 20) hB dX11_wouldGet_9 (by decide) (fun h => by rw [isIx_of hf (by omega)] at h; cases h) (fun h_9 => ?_)
  refine lv_aload_n hx hb dX11_wouldGet_12 rfl (lv_at hl 0 rfl) ?_
  refine lv_iload_n hx hb dX11_wouldGet_13 rfl (lv_at hl 2 rfl) ?_
  refine cl_X11_145 (As := [.int (nI m0)]) (rest := []) hB (c_X11_isMember l g H r zq zsp zrm zst zsl zsv ztx zln (nI 0) zsg zbg zwd zhg zin zop zbe zwi zhi zbk zot zer zen zpo zpi zgr zsh zsn (nI m0) hR (by omega)) hR.o rfl hl.1 (Nat.le_of_ble_eq_true rfl) dX11_wouldGet_14 ⟨Nat.le_of_ble_eq_true rfl, Nat.le_of_ble_eq_true rfl⟩ ⟨Nat.le_of_ble_eq_true rfl, Nat.le_of_ble_eq_true rfl⟩ hS (by have hz9 := hS.1; rintro q (h | h) <;> first | exact Or.inr (by omega) | exact h.elim | exact Or.inl h | (simp only [ftA] at h ⊢; omega)) (fun v H1 locs hpo hfr hS => ?_)
  obtain ⟨rfl, rfl⟩ := hpo
  refine W.widen (k := 0) (n := 0) (Nat.le_of_ble_eq_true rfl) (Nat.le_of_ble_eq_true rfl) ?_
  refine mb_if_ne (tgt := 26) hB dX11_wouldGet_17 (by decide) (fun h_17 => ?_) (fun h => by rw [isIx_of hm (by omega)] at h; cases h)
  refine lv_iload_n hx hb dX11_wouldGet_26 rfl (lv_at hl 3 rfl) ?_
  refine lv_i2l (v := (z).toInt64) hx hb dX11_wouldGet_27 rfl ?_
  refine lv_lconst (v := 0) hx hb dX11_wouldGet_28 (by decide) ?_
  refine lv_ldc2 (v := (9999)) hx hb hB.ow (hB.K.2 _ kw_1267 _) dX11_wouldGet_29 ?_
  refine cl_X11_63 (As := [.long ((z).toInt64), .long 0, .long (9999)]) (rest := []) hB (c_X11_in l g H ((z).toInt64) 0 (9999)) rfl hl.1 (Nat.le_of_ble_eq_true rfl) dX11_wouldGet_32 ⟨Nat.le_of_ble_eq_true rfl, Nat.le_of_ble_eq_true rfl⟩ ⟨Nat.le_of_ble_eq_true rfl, Nat.le_of_ble_eq_true rfl⟩ hS (by have hz9 := hS.1; rintro q (h | h) <;> first | exact Or.inr (by omega) | exact h.elim | exact Or.inl h | (simp only [ftA] at h ⊢; omega)) (fun v H1 locs hpo hfr hS => ?_)
  obtain ⟨rfl, rfl⟩ := hpo
  refine W.widen (k := 0) (n := 0) (Nat.le_of_ble_eq_true rfl) (Nat.le_of_ble_eq_true rfl) ?_
  refine mh_top (y := .int (bI (isIx z 10000))) (by rw [inL_ix _ 10000 _ (by decide +kernel)]) ?_
  refine mb_if_ne (tgt := 44) hB dX11_wouldGet_35 (by decide) (fun h => by rw [hx1] at h; cases h) (fun h_35 => ?_)
  refine lv_aload_n hx hb dX11_wouldGet_38 rfl (lv_at hl 0 rfl) ?_
  refine lv_iconst (v := nI 2) hx hb dX11_wouldGet_39 (by decide) ?_
  refine cl_X11_81 (As := [.int (nI 2)]) (rest := []) hB (c_X11_fails l g H r zq zsp zrm zst zsl zsv ztx zln (nI 0) zsg zbg zwd zhg zin zop zbe zwi zhi zbk zot zer zen zpo zpi zgr zsh zsn (nI 2) hR) hR.o rfl hl.1 (Nat.le_of_ble_eq_true rfl) dX11_wouldGet_40 ⟨Nat.le_of_ble_eq_true rfl, Nat.le_of_ble_eq_true rfl⟩ ⟨Nat.le_of_ble_eq_true rfl, Nat.le_of_ble_eq_true rfl⟩ hS (by have hz9 := hS.1; rintro q (h | h) <;> first | exact Or.inr (by omega) | exact h.elim | exact Or.inl h | (simp only [ftA] at h ⊢; omega)) (fun v H1 locs hpo hfr hS => ?_)
  obtain ⟨rfl, hR⟩ := hpo
  generalize H1 = H at hfr hS hR ⊢
  refine W.widen (k := 0) (n := 0) (Nat.le_of_ble_eq_true rfl) (Nat.le_of_ble_eq_true rfl) ?_
  refine mh_iret hB ⟨Nat.le_of_ble_eq_true rfl, Nat.le_of_ble_eq_true rfl⟩ hS dX11_wouldGet_43 ⟨?_, ?_⟩
  · rfl
  · exact hR

def rm_c_X11_patch : Room := { frames := 2, cells := 0, slots := 0, locals := 45 }
set_option maxRecDepth 100000 in
set_option maxHeartbeats 400000 in
theorem c_X11_patch (l : Launch) (g : GG) (H0 : Heap) (r : Nat) (zq : Nat → Int32) (zsp : Nat → Int32) (zrm : Nat → Int32) (zst : Int32) (zsl : Nat → Int32) (zsv : Nat → Int32) (ztx : Nat → Int32) (zln : Int32) (zth : Int32) (zsg : Nat → Int32) (zbg : Nat → Int32) (zwd : Nat → Int32) (zhg : Nat → Int32) (zin : Nat → Int32) (zop : Int32) (zbe : Int32) (zwi : Int32) (zhi : Int32) (zbk : Nat → Int32) (zot : Nat → Int32) (zer : Int32) (zen : Int32) (zpo : Nat → Int32) (zpi : Int32) (zgr : Int32) (zsh : Nat → Int32) (zsn : Int32) (f : Nat) (a : Nat) (b : Nat) (hR : ModAt g r zq zsp zrm zst zsl zsv ztx zln zth zsg zbg zwd zhg zin zop zbe zwi zhi zbk zot zer zen zpo zpi zgr zsh zsn H0) (hW : WF zq) (hf : f < 3) (ha : a < 2147483648) (hb8 : b < 2147483648) : Ct l yX11_patch cX11_patch 5 (some .int) rm_c_X11_patch g [.ref r, .int (nI f), .int (nI a), .int (nI b)] H0 (ftA (fun q => r ≤ q ∧ q < r + 16) H0.size) (fun v H1 => v = some (.int (patV zq f a b)) ∧ ModAt g r zq zsp zrm zst zsl zsv ztx zln (nI 0) zsg zbg zwd zhg zin zop zbe zwi zhi zbk zot zer zen zpo zpi zgr zsh zsn H1) := by
  refine Ct.of (by decide) (fun _ h => Or.inr h) (Nat.le_of_ble_eq_true rfl) ?_
  intro p e s m below meth c ls hB hin hS hH hl
  have hx := hB.x
  have hb := hB.b
  have hl : lv_has ls 5 [(0, .ref r), (1, .int (nI f)), (2, .int (nI a)), (3, .int (nI b))] := hl
  have hF := hW.fr hf
  have hw16 := hF.w16
  have hh16 := hF.h16
  refine lv_aload_n hx hb dX11_patch_0 rfl (lv_at hl 0 rfl) ?_
  refine lv_iconst (v := nI 0) hx hb dX11_patch_1 (by decide) ?_
  refine pf_X11_56 hB hR.o (by first | exact Or.inl rfl | (simp only [ftA]; omega) | (simp [ftA]; omega)) hS rfl rfl (Nat.le_of_ble_eq_true rfl) dX11_patch_2 (fun H locs hwr => ?_)
  obtain ⟨hR, hS⟩ := hR.w_zth hwr
  refine lv_iload_n hx hb dX11_patch_5 rfl (lv_at hl 1 rfl) ?_
  refine cl_X11_175 (As := [.int (nI f)]) (rest := []) hB (c_X11_isFrame l g H (nI f)) rfl hl.1 (Nat.le_of_ble_eq_true rfl) dX11_patch_6 ⟨Nat.le_of_ble_eq_true rfl, Nat.le_of_ble_eq_true rfl⟩ ⟨Nat.le_of_ble_eq_true rfl, Nat.le_of_ble_eq_true rfl⟩ hS (by have hz9 := hS.1; rintro q (h | h) <;> first | exact Or.inr (by omega) | exact h.elim | exact Or.inl h | (simp only [ftA] at h ⊢; omega)) (fun v H1 locs hpo hfr hS => ?_)
  obtain ⟨rfl, rfl⟩ := hpo
  refine W.widen (k := 0) (n := 0) (Nat.le_of_ble_eq_true rfl) (Nat.le_of_ble_eq_true rfl) ?_
  refine mb_if_ne (tgt := 18) hB dX11_patch_9 (by decide) (fun h_9 => ?_) (fun h => by rw [isIx_of hf (by omega)] at h; cases h)
  refine lv_iload_n hx hb dX11_patch_18 rfl (lv_at hl 2 rfl) ?_
  refine mn_if_lt (tgt := 26) hB dX11_patch_19 (by decide) (by omega) (fun h => by exfalso; omega) (fun h_19 => ?_)
  refine lv_iload_n hx hb dX11_patch_22 rfl (lv_at hl 3 rfl) ?_
  refine mn_if_ge (tgt := 32) hB dX11_patch_23 (by decide) (by omega) (fun h_23 => ?_) (fun h => by exfalso; omega)
  refine lv_aload_n hx hb dX11_patch_32 rfl (lv_at hl 0 rfl) ?_
  refine gf_X11_7 hB hR.o rfl dX11_patch_33 ?_
  refine lv_iload_n hx hb dX11_patch_36 rfl (lv_at hl 1 rfl) ?_
  refine lv_iconst (v := nI 0) hx hb dX11_patch_37 (by decide) ?_
  refine cl_X11_71 (As := [.int (nI f), .int (nI 0)]) (rest := [.ref (r + 1)]) hB (c_X11_at l g H f 0) rfl hl.1 (Nat.le_of_ble_eq_true rfl) dX11_patch_38 ⟨Nat.le_of_ble_eq_true rfl, Nat.le_of_ble_eq_true rfl⟩ ⟨Nat.le_of_ble_eq_true rfl, Nat.le_of_ble_eq_true rfl⟩ hS (by have hz9 := hS.1; rintro q (h | h) <;> first | exact Or.inr (by omega) | exact h.elim | exact Or.inl h | (simp only [ftA] at h ⊢; omega)) (fun v H1 locs hpo hfr hS => ?_)
  obtain ⟨rfl, rfl⟩ := hpo
  refine W.widen (k := 0) (n := 0) (Nat.le_of_ble_eq_true rfl) (Nat.le_of_ble_eq_true rfl) ?_
  refine mn_iald hB hR.a_zq (by omega) (by omega) dX11_patch_41 ?_
  refine mh_top (y := .int (nI (wdF zq f))) (by rw [hF.w]) ?_
  refine lv_istore (lv' := [(4, .int (nI (wdF zq f))), (0, .ref r), (1, .int (nI f)), (2, .int (nI a)), (3, .int (nI b))]) hx hb dX11_patch_42 hl (by decide) rfl (fun ls hl => ?_)
  refine lv_iload_n hx hb dX11_patch_44 rfl (lv_at hl 3 rfl) ?_
  refine lv_iload hx hb dX11_patch_45 (lv_at hl 0 rfl) ?_
  refine mn_icmp_ge (tgt := 78) hB dX11_patch_47 (by decide) (by omega) (by omega) (fun h_47 => ?_) (fun h_47 => ?_)
  · skip
    refine lv_bipush (v := (-9)) hx hb dX11_patch_78 (by decide) ?_
    refine mh_iret hB ⟨Nat.le_of_ble_eq_true rfl, Nat.le_of_ble_eq_true rfl⟩ hS dX11_patch_80 ⟨?_, ?_⟩
    · unfold patV; split <;> first | rfl | (exfalso; omega)
    · exact hR
  · skip
    refine lv_iload_n hx hb dX11_patch_50 rfl (lv_at hl 4 rfl) ?_
    refine lv_aload_n hx hb dX11_patch_51 rfl (lv_at hl 1 rfl) ?_
    refine gf_X11_7 hB hR.o rfl dX11_patch_52 ?_
    refine lv_iload_n hx hb dX11_patch_55 rfl (lv_at hl 2 rfl) ?_
    refine lv_iconst (v := nI 1) hx hb dX11_patch_56 (by decide) ?_
    refine cl_X11_71 (As := [.int (nI f), .int (nI 1)]) (rest := [.ref (r + 1), .int (nI b)]) hB (c_X11_at l g H f 1) rfl hl.1 (Nat.le_of_ble_eq_true rfl) dX11_patch_57 ⟨Nat.le_of_ble_eq_true rfl, Nat.le_of_ble_eq_true rfl⟩ ⟨Nat.le_of_ble_eq_true rfl, Nat.le_of_ble_eq_true rfl⟩ hS (by have hz9 := hS.1; rintro q (h | h) <;> first | exact Or.inr (by omega) | exact h.elim | exact Or.inl h | (simp only [ftA] at h ⊢; omega)) (fun v H1 locs hpo hfr hS => ?_)
    obtain ⟨rfl, rfl⟩ := hpo
    refine W.widen (k := 0) (n := 0) (Nat.le_of_ble_eq_true rfl) (Nat.le_of_ble_eq_true rfl) ?_
    refine mn_iald hB hR.a_zq (by omega) (by omega) dX11_patch_60 ?_
    refine mh_top (y := .int (nI (htF zq f))) (by rw [hF.h]) ?_
    refine mn_icmp_ge (tgt := 78) hB dX11_patch_61 (by decide) (by omega) (by omega) (fun h_61 => ?_) (fun h_61 => ?_)
    · skip
      refine lv_bipush (v := (-9)) hx hb dX11_patch_78 (by decide) ?_
      refine mh_iret hB ⟨Nat.le_of_ble_eq_true rfl, Nat.le_of_ble_eq_true rfl⟩ hS dX11_patch_80 ⟨?_, ?_⟩
      · unfold patV; split <;> first | rfl | (exfalso; omega)
      · exact hR
    · skip
      refine lv_aload_n hx hb dX11_patch_64 rfl (lv_at hl 1 rfl) ?_
      refine lv_iload_n hx hb dX11_patch_65 rfl (lv_at hl 2 rfl) ?_
      refine lv_iload_n hx hb dX11_patch_66 rfl (lv_at hl 4 rfl) ?_
      refine lv_iload hx hb dX11_patch_67 (lv_at hl 0 rfl) ?_
      refine mn_imul hB dX11_patch_69 ?_
      refine lv_iload_n hx hb dX11_patch_70 rfl (lv_at hl 3 rfl) ?_
      refine mn_iadd hB dX11_patch_71 ?_
      refine cl_X11_150 (As := [.int (nI f), .int (nI ((b * (wdF zq f)) + a))]) (rest := []) hB (c_X11_colourAt l g H r zq zsp zrm zst zsl zsv ztx zln (nI 0) zsg zbg zwd zhg zin zop zbe zwi zhi zbk zot zer zen zpo zpi zgr zsh zsn f ((b * (wdF zq f)) + a) hR (by omega) (by omega) (by have h1 := idx_lt h_47 h_61; have h2 := sz256 hF.w16 hF.h16; omega)) hR.o rfl hl.1 (Nat.le_of_ble_eq_true rfl) dX11_patch_72 ⟨Nat.le_of_ble_eq_true rfl, Nat.le_of_ble_eq_true rfl⟩ ⟨Nat.le_of_ble_eq_true rfl, Nat.le_of_ble_eq_true rfl⟩ hS (by have hz9 := hS.1; rintro q (h | h) <;> first | exact Or.inr (by omega) | exact h.elim | exact Or.inl h | (simp only [ftA] at h ⊢; omega)) (fun v H1 locs hpo hfr hS => ?_)
      obtain ⟨rfl, rfl⟩ := hpo
      refine W.widen (k := 0) (n := 0) (Nat.le_of_ble_eq_true rfl) (Nat.le_of_ble_eq_true rfl) ?_
      refine lv_goto (tgt := 80) hx hb dX11_patch_75 (by decide) ?_
      refine mh_iret hB ⟨Nat.le_of_ble_eq_true rfl, Nat.le_of_ble_eq_true rfl⟩ hS dX11_patch_80 ⟨?_, ?_⟩
      · unfold patV; split <;> first | rfl | (exfalso; omega)
      · exact hR

def rm_c_X11_patch_t1 : Room := { frames := 2, cells := 0, slots := 0, locals := 45 }
set_option maxRecDepth 100000 in
set_option maxHeartbeats 400000 in
theorem c_X11_patch_t1 (l : Launch) (g : GG) (H0 : Heap) (r : Nat) (zq : Nat → Int32) (zsp : Nat → Int32) (zrm : Nat → Int32) (zst : Int32) (zsl : Nat → Int32) (zsv : Nat → Int32) (ztx : Nat → Int32) (zln : Int32) (zth : Int32) (zsg : Nat → Int32) (zbg : Nat → Int32) (zwd : Nat → Int32) (zhg : Nat → Int32) (zin : Nat → Int32) (zop : Int32) (zbe : Int32) (zwi : Int32) (zhi : Int32) (zbk : Nat → Int32) (zot : Nat → Int32) (zer : Int32) (zen : Int32) (zpo : Nat → Int32) (zpi : Int32) (zgr : Int32) (zsh : Nat → Int32) (zsn : Int32) (x : Int32) (y : Int32) (z : Int32) (hR : ModAt g r zq zsp zrm zst zsl zsv ztx zln zth zsg zbg zwd zhg zin zop zbe zwi zhi zbk zot zer zen zpo zpi zgr zsh zsn H0) (hx1 : isIx x 3 = false) : Ct l yX11_patch cX11_patch 5 (some .int) rm_c_X11_patch_t1 g [.ref r, .int x, .int y, .int z] H0 (ftA (fun q => r ≤ q ∧ q < r + 16) H0.size) (fun v H1 => v = some (.int (nI 0)) ∧ ModAt g r zq zsp zrm zst zsl zsv ztx zln (nI 1) zsg zbg zwd zhg zin zop zbe zwi zhi zbk zot zer zen zpo zpi zgr zsh zsn H1) := by
  refine Ct.of (by decide) (fun _ h => Or.inr h) (Nat.le_of_ble_eq_true rfl) ?_
  intro p e s m below meth c ls hB hin hS hH hl
  have hx := hB.x
  have hb := hB.b
  have hl : lv_has ls 5 [(0, .ref r), (1, .int x), (2, .int y), (3, .int z)] := hl
  refine lv_aload_n hx hb dX11_patch_0 rfl (lv_at hl 0 rfl) ?_
  refine lv_iconst (v := nI 0) hx hb dX11_patch_1 (by decide) ?_
  refine pf_X11_56 hB hR.o (by first | exact Or.inl rfl | (simp only [ftA]; omega) | (simp [ftA]; omega)) hS rfl rfl (Nat.le_of_ble_eq_true rfl) dX11_patch_2 (fun H locs hwr => ?_)
  obtain ⟨hR, hS⟩ := hR.w_zth hwr
  refine lv_iload_n hx hb dX11_patch_5 rfl (lv_at hl 1 rfl) ?_
  refine cl_X11_175 (As := [.int x]) (rest := []) hB (c_X11_isFrame l g H x) rfl hl.1 (Nat.le_of_ble_eq_true rfl) dX11_patch_6 ⟨Nat.le_of_ble_eq_true rfl, Nat.le_of_ble_eq_true rfl⟩ ⟨Nat.le_of_ble_eq_true rfl, Nat.le_of_ble_eq_true rfl⟩ hS (by have hz9 := hS.1; rintro q (h | h) <;> first | exact Or.inr (by omega) | exact h.elim | exact Or.inl h | (simp only [ftA] at h ⊢; omega)) (fun v H1 locs hpo hfr hS => ?_)
  obtain ⟨rfl, rfl⟩ := hpo
  refine W.widen (k := 0) (n := 0) (Nat.le_of_ble_eq_true rfl) (Nat.le_of_ble_eq_true rfl) ?_
  refine mb_if_ne (tgt := 18) hB dX11_patch_9 (by decide) (fun h => by rw [hx1] at h; cases h) (fun h_9 => ?_)
  refine lv_aload_n hx hb dX11_patch_12 rfl (lv_at hl 0 rfl) ?_
  refine lv_iconst (v := nI 1) hx hb dX11_patch_13 (by decide) ?_
  refine cl_X11_81 (As := [.int (nI 1)]) (rest := []) hB (c_X11_fails l g H r zq zsp zrm zst zsl zsv ztx zln (nI 0) zsg zbg zwd zhg zin zop zbe zwi zhi zbk zot zer zen zpo zpi zgr zsh zsn (nI 1) hR) hR.o rfl hl.1 (Nat.le_of_ble_eq_true rfl) dX11_patch_14 ⟨Nat.le_of_ble_eq_true rfl, Nat.le_of_ble_eq_true rfl⟩ ⟨Nat.le_of_ble_eq_true rfl, Nat.le_of_ble_eq_true rfl⟩ hS (by have hz9 := hS.1; rintro q (h | h) <;> first | exact Or.inr (by omega) | exact h.elim | exact Or.inl h | (simp only [ftA] at h ⊢; omega)) (fun v H1 locs hpo hfr hS => ?_)
  obtain ⟨rfl, hR⟩ := hpo
  generalize H1 = H at hfr hS hR ⊢
  refine W.widen (k := 0) (n := 0) (Nat.le_of_ble_eq_true rfl) (Nat.le_of_ble_eq_true rfl) ?_
  refine mh_iret hB ⟨Nat.le_of_ble_eq_true rfl, Nat.le_of_ble_eq_true rfl⟩ hS dX11_patch_17 ⟨?_, ?_⟩
  · rfl
  · exact hR

def rm_c_X11_patch_t2 : Room := { frames := 2, cells := 0, slots := 0, locals := 45 }
set_option maxRecDepth 100000 in
set_option maxHeartbeats 400000 in
theorem c_X11_patch_t2 (l : Launch) (g : GG) (H0 : Heap) (r : Nat) (zq : Nat → Int32) (zsp : Nat → Int32) (zrm : Nat → Int32) (zst : Int32) (zsl : Nat → Int32) (zsv : Nat → Int32) (ztx : Nat → Int32) (zln : Int32) (zth : Int32) (zsg : Nat → Int32) (zbg : Nat → Int32) (zwd : Nat → Int32) (zhg : Nat → Int32) (zin : Nat → Int32) (zop : Int32) (zbe : Int32) (zwi : Int32) (zhi : Int32) (zbk : Nat → Int32) (zot : Nat → Int32) (zer : Int32) (zen : Int32) (zpo : Nat → Int32) (zpi : Int32) (zgr : Int32) (zsh : Nat → Int32) (zsn : Int32) (f : Nat) (y : Int32) (z : Int32) (hR : ModAt g r zq zsp zrm zst zsl zsv ztx zln zth zsg zbg zwd zhg zin zop zbe zwi zhi zbk zot zer zen zpo zpi zgr zsh zsn H0) (hf : f < 3) (hx1 : y < 0 ∨ z < 0) : Ct l yX11_patch cX11_patch 5 (some .int) rm_c_X11_patch_t2 g [.ref r, .int (nI f), .int y, .int z] H0 (ftA (fun q => r ≤ q ∧ q < r + 16) H0.size) (fun v H1 => v = some (.int (nI 0)) ∧ ModAt g r zq zsp zrm zst zsl zsv ztx zln (nI 2) zsg zbg zwd zhg zin zop zbe zwi zhi zbk zot zer zen zpo zpi zgr zsh zsn H1) := by
  refine Ct.of (by decide) (fun _ h => Or.inr h) (Nat.le_of_ble_eq_true rfl) ?_
  intro p e s m below meth c ls hB hin hS hH hl
  have hx := hB.x
  have hb := hB.b
  have hl : lv_has ls 5 [(0, .ref r), (1, .int (nI f)), (2, .int y), (3, .int z)] := hl
  refine lv_aload_n hx hb dX11_patch_0 rfl (lv_at hl 0 rfl) ?_
  refine lv_iconst (v := nI 0) hx hb dX11_patch_1 (by decide) ?_
  refine pf_X11_56 hB hR.o (by first | exact Or.inl rfl | (simp only [ftA]; omega) | (simp [ftA]; omega)) hS rfl rfl (Nat.le_of_ble_eq_true rfl) dX11_patch_2 (fun H locs hwr => ?_)
  obtain ⟨hR, hS⟩ := hR.w_zth hwr
  refine lv_iload_n hx hb dX11_patch_5 rfl (lv_at hl 1 rfl) ?_
  refine cl_X11_175 (As := [.int (nI f)]) (rest := []) hB (c_X11_isFrame l g H (nI f)) rfl hl.1 (Nat.le_of_ble_eq_true rfl) dX11_patch_6 ⟨Nat.le_of_ble_eq_true rfl, Nat.le_of_ble_eq_true rfl⟩ ⟨Nat.le_of_ble_eq_true rfl, Nat.le_of_ble_eq_true rfl⟩ hS (by have hz9 := hS.1; rintro q (h | h) <;> first | exact Or.inr (by omega) | exact h.elim | exact Or.inl h | (simp only [ftA] at h ⊢; omega)) (fun v H1 locs hpo hfr hS => ?_)
  obtain ⟨rfl, rfl⟩ := hpo
  refine W.widen (k := 0) (n := 0) (Nat.le_of_ble_eq_true rfl) (Nat.le_of_ble_eq_true rfl) ?_
  refine mb_if_ne (tgt := 18) hB dX11_patch_9 (by decide) (fun h_9 => ?_) (fun h => by rw [isIx_of hf (by omega)] at h; cases h)
  refine lv_iload_n hx hb dX11_patch_18 rfl (lv_at hl 2 rfl) ?_
  refine lv_if_lt (tgt := 26) hx hb dX11_patch_19 (by decide) (fun h_19 => ?_) (fun h_19 => ?_)
  · skip
    refine lv_aload_n hx hb dX11_patch_26 rfl (lv_at hl 0 rfl) ?_
    refine lv_iconst (v := nI 2) hx hb dX11_patch_27 (by decide) ?_
    refine cl_X11_81 (As := [.int (nI 2)]) (rest := []) hB (c_X11_fails l g H r zq zsp zrm zst zsl zsv ztx zln (nI 0) zsg zbg zwd zhg zin zop zbe zwi zhi zbk zot zer zen zpo zpi zgr zsh zsn (nI 2) hR) hR.o rfl hl.1 (Nat.le_of_ble_eq_true rfl) dX11_patch_28 ⟨Nat.le_of_ble_eq_true rfl, Nat.le_of_ble_eq_true rfl⟩ ⟨Nat.le_of_ble_eq_true rfl, Nat.le_of_ble_eq_true rfl⟩ hS (by have hz9 := hS.1; rintro q (h | h) <;> first | exact Or.inr (by omega) | exact h.elim | exact Or.inl h | (simp only [ftA] at h ⊢; omega)) (fun v H1 locs hpo hfr hS => ?_)
    obtain ⟨rfl, hR⟩ := hpo
    generalize H1 = H at hfr hS hR ⊢
    refine W.widen (k := 0) (n := 0) (Nat.le_of_ble_eq_true rfl) (Nat.le_of_ble_eq_true rfl) ?_
    refine mh_iret hB ⟨Nat.le_of_ble_eq_true rfl, Nat.le_of_ble_eq_true rfl⟩ hS dX11_patch_31 ⟨?_, ?_⟩
    · rfl
    · exact hR
  · skip
    refine lv_iload_n hx hb dX11_patch_22 rfl (lv_at hl 3 rfl) ?_
    refine lv_if_ge (tgt := 32) hx hb dX11_patch_23 (by decide) (fun h => by rcases hx1 with z9 | z9; exact absurd z9 h_19; first | exact absurd z9 h | exact absurd z9 (Int32.not_lt.mpr h)) (fun h_23 => ?_)
    refine lv_aload_n hx hb dX11_patch_26 rfl (lv_at hl 0 rfl) ?_
    refine lv_iconst (v := nI 2) hx hb dX11_patch_27 (by decide) ?_
    refine cl_X11_81 (As := [.int (nI 2)]) (rest := []) hB (c_X11_fails l g H r zq zsp zrm zst zsl zsv ztx zln (nI 0) zsg zbg zwd zhg zin zop zbe zwi zhi zbk zot zer zen zpo zpi zgr zsh zsn (nI 2) hR) hR.o rfl hl.1 (Nat.le_of_ble_eq_true rfl) dX11_patch_28 ⟨Nat.le_of_ble_eq_true rfl, Nat.le_of_ble_eq_true rfl⟩ ⟨Nat.le_of_ble_eq_true rfl, Nat.le_of_ble_eq_true rfl⟩ hS (by have hz9 := hS.1; rintro q (h | h) <;> first | exact Or.inr (by omega) | exact h.elim | exact Or.inl h | (simp only [ftA] at h ⊢; omega)) (fun v H1 locs hpo hfr hS => ?_)
    obtain ⟨rfl, hR⟩ := hpo
    generalize H1 = H at hfr hS hR ⊢
    refine W.widen (k := 0) (n := 0) (Nat.le_of_ble_eq_true rfl) (Nat.le_of_ble_eq_true rfl) ?_
    refine mh_iret hB ⟨Nat.le_of_ble_eq_true rfl, Nat.le_of_ble_eq_true rfl⟩ hS dX11_patch_31 ⟨?_, ?_⟩
    · rfl
    · exact hR

def rm_c_X11_count : Room := { frames := 3, cells := 0, slots := 0, locals := 69 }
set_option maxRecDepth 100000 in
set_option maxHeartbeats 400000 in
theorem c_X11_count (l : Launch) (g : GG) (H0 : Heap) (r : Nat) (zq : Nat → Int32) (zsp : Nat → Int32) (zrm : Nat → Int32) (zst : Int32) (zsl : Nat → Int32) (zsv : Nat → Int32) (ztx : Nat → Int32) (zln : Int32) (zth : Int32) (zsg : Nat → Int32) (zbg : Nat → Int32) (zwd : Nat → Int32) (zhg : Nat → Int32) (zin : Nat → Int32) (zop : Int32) (zbe : Int32) (zwi : Int32) (zhi : Int32) (zbk : Nat → Int32) (zot : Nat → Int32) (zer : Int32) (zen : Int32) (zpo : Nat → Int32) (zpi : Int32) (zgr : Int32) (zsh : Nat → Int32) (zsn : Int32) (f : Nat) (c0 : Nat) (z0 : Bool) (hR : ModAt g r zq zsp zrm zst zsl zsv ztx zln zth zsg zbg zwd zhg zin zop zbe zwi zhi zbk zot zer zen zpo zpi zgr zsh zsn H0) (hW : WF zq) (hf : f < 3) (hc : c0 < 6) : Ct l yX11_count cX11_count 4 (some .int) rm_c_X11_count g [.ref r, .int (nI f), .int (nI c0), .int (bI z0)] H0 (ftA (fun q => r ≤ q ∧ q < r + 16) H0.size) (fun v H1 => v = some (.int (nI (cntC zq f c0 0 (if z0 = true then swF zq f else szF zq f)))) ∧ ModAt g r zq zsp zrm zst zsl zsv ztx zln (nI 0) zsg zbg zwd zhg zin zop zbe zwi zhi zbk zot zer zen zpo zpi zgr zsh zsn H1) := by
  refine Ct.of (by decide) (fun _ h => Or.inr h) (Nat.le_of_ble_eq_true rfl) ?_
  intro p e s m below meth c ls hB hin hS hH hl
  have hx := hB.x
  have hb := hB.b
  have hl : lv_has ls 4 [(0, .ref r), (1, .int (nI f)), (2, .int (nI c0)), (3, .int (bI z0))] := hl
  have hF := hW.fr hf
  have hsz := WF.sz hF
  have hsw := WF.sw hF
  refine lv_aload_n hx hb dX11_count_0 rfl (lv_at hl 0 rfl) ?_
  refine lv_iconst (v := nI 0) hx hb dX11_count_1 (by decide) ?_
  refine pf_X11_56 hB hR.o (by first | exact Or.inl rfl | (simp only [ftA]; omega) | (simp [ftA]; omega)) hS rfl rfl (Nat.le_of_ble_eq_true rfl) dX11_count_2 (fun H locs hwr => ?_)
  obtain ⟨hR, hS⟩ := hR.w_zth hwr
  refine lv_iload_n hx hb dX11_count_5 rfl (lv_at hl 1 rfl) ?_
  refine cl_X11_175 (As := [.int (nI f)]) (rest := []) hB (c_X11_isFrame l g H (nI f)) rfl hl.1 (Nat.le_of_ble_eq_true rfl) dX11_count_6 ⟨Nat.le_of_ble_eq_true rfl, Nat.le_of_ble_eq_true rfl⟩ ⟨Nat.le_of_ble_eq_true rfl, Nat.le_of_ble_eq_true rfl⟩ hS (by have hz9 := hS.1; rintro q (h | h) <;> first | exact Or.inr (by omega) | exact h.elim | exact Or.inl h | (simp only [ftA] at h ⊢; omega)) (fun v H1 locs hpo hfr hS => ?_)
  obtain ⟨rfl, rfl⟩ := hpo
  refine W.widen (k := 0) (n := 0) (Nat.le_of_ble_eq_true rfl) (Nat.le_of_ble_eq_true rfl) ?_
  refine mb_if_eq (tgt := 51) hB dX11_count_9 (by decide) (fun h => by rw [isIx_of hf (by omega)] at h; cases h) (fun h_9 => ?_)
  refine lv_iload_n hx hb dX11_count_12 rfl (lv_at hl 2 rfl) ?_
  refine cl_X11_153 (As := [.int (nI c0)]) (rest := []) hB (c_X11_isColour l g H (nI c0)) rfl hl.1 (Nat.le_of_ble_eq_true rfl) dX11_count_13 ⟨Nat.le_of_ble_eq_true rfl, Nat.le_of_ble_eq_true rfl⟩ ⟨Nat.le_of_ble_eq_true rfl, Nat.le_of_ble_eq_true rfl⟩ hS (by have hz9 := hS.1; rintro q (h | h) <;> first | exact Or.inr (by omega) | exact h.elim | exact Or.inl h | (simp only [ftA] at h ⊢; omega)) (fun v H1 locs hpo hfr hS => ?_)
  obtain ⟨rfl, rfl⟩ := hpo
  refine W.widen (k := 0) (n := 0) (Nat.le_of_ble_eq_true rfl) (Nat.le_of_ble_eq_true rfl) ?_
  refine mb_if_eq (tgt := 51) hB dX11_count_16 (by decide) (fun h => by rw [isIx_of hc (by omega)] at h; cases h) (fun h_16 => ?_)
  refine lv_aload_n hx hb dX11_count_19 rfl (lv_at hl 0 rfl) ?_
  refine lv_iload_n hx hb dX11_count_20 rfl (lv_at hl 1 rfl) ?_
  refine lv_iload_n hx hb dX11_count_21 rfl (lv_at hl 2 rfl) ?_
  refine lv_iconst (v := nI 0) hx hb dX11_count_22 (by decide) ?_
  refine lv_iload_n hx hb dX11_count_23 rfl (lv_at hl 3 rfl) ?_
  refine mb_if_eq (tgt := 40) hB dX11_count_24 (by decide) (fun h_24 => ?_) (fun h_24 => ?_)
  · skip
    refine lv_aload_n hx hb dX11_count_40 rfl (lv_at hl 0 rfl) ?_
    refine lv_iload_n hx hb dX11_count_41 rfl (lv_at hl 1 rfl) ?_
    refine cl_X11_75 (As := [.int (nI f)]) (rest := [.int (nI 0), .int (nI c0), .int (nI f), .ref r]) hB (c_X11_patches l g H r zq zsp zrm zst zsl zsv ztx zln (nI 0) zsg zbg zwd zhg zin zop zbe zwi zhi zbk zot zer zen zpo zpi zgr zsh zsn f hR (by omega) (by omega)) hR.o rfl hl.1 (Nat.le_of_ble_eq_true rfl) dX11_count_42 ⟨Nat.le_of_ble_eq_true rfl, Nat.le_of_ble_eq_true rfl⟩ ⟨Nat.le_of_ble_eq_true rfl, Nat.le_of_ble_eq_true rfl⟩ hS (by have hz9 := hS.1; rintro q (h | h) <;> first | exact Or.inr (by omega) | exact h.elim | exact Or.inl h | (simp only [ftA] at h ⊢; omega)) (fun v H1 locs hpo hfr hS => ?_)
    obtain ⟨rfl, rfl⟩ := hpo
    refine W.widen (k := 0) (n := 0) (Nat.le_of_ble_eq_true rfl) (Nat.le_of_ble_eq_true rfl) ?_
    refine cl_X11_158 (As := [.int (nI f), .int (nI c0), .int (nI 0), .int (nI (szF zq f))]) (rest := []) hB (c_X11_colourIn l g H r zq zsp zrm zst zsl zsv ztx zln (nI 0) zsg zbg zwd zhg zin zop zbe zwi zhi zbk zot zer zen zpo zpi zgr zsh zsn f c0 0 (szF zq f) hR (by omega) (by omega) (by omega) (by omega) (by omega)) hR.o rfl hl.1 (Nat.le_of_ble_eq_true rfl) dX11_count_45 ⟨Nat.le_of_ble_eq_true rfl, Nat.le_of_ble_eq_true rfl⟩ ⟨Nat.le_of_ble_eq_true rfl, Nat.le_of_ble_eq_true rfl⟩ hS (by have hz9 := hS.1; rintro q (h | h) <;> first | exact Or.inr (by omega) | exact h.elim | exact Or.inl h | (simp only [ftA] at h ⊢; omega)) (fun v H1 locs hpo hfr hS => ?_)
    obtain ⟨rfl, rfl⟩ := hpo
    refine W.widen (k := 0) (n := 0) (Nat.le_of_ble_eq_true rfl) (Nat.le_of_ble_eq_true rfl) ?_
    refine lv_goto (tgt := 56) hx hb dX11_count_48 (by decide) ?_
    refine mh_iret hB ⟨Nat.le_of_ble_eq_true rfl, Nat.le_of_ble_eq_true rfl⟩ hS dX11_count_56 ⟨?_, ?_⟩
    · first | (rw [h_24, if_pos rfl]; rfl) | (rw [h_24, if_neg (by decide)]; rfl)
    · exact hR
  · skip
    refine lv_aload_n hx hb dX11_count_27 rfl (lv_at hl 0 rfl) ?_
    refine gf_X11_7 hB hR.o rfl dX11_count_28 ?_
    refine lv_iload_n hx hb dX11_count_31 rfl (lv_at hl 1 rfl) ?_
    refine lv_iconst (v := nI 2) hx hb dX11_count_32 (by decide) ?_
    refine cl_X11_71 (As := [.int (nI f), .int (nI 2)]) (rest := [.ref (r + 1), .int (nI 0), .int (nI c0), .int (nI f), .ref r]) hB (c_X11_at l g H f 2) rfl hl.1 (Nat.le_of_ble_eq_true rfl) dX11_count_33 ⟨Nat.le_of_ble_eq_true rfl, Nat.le_of_ble_eq_true rfl⟩ ⟨Nat.le_of_ble_eq_true rfl, Nat.le_of_ble_eq_true rfl⟩ hS (by have hz9 := hS.1; rintro q (h | h) <;> first | exact Or.inr (by omega) | exact h.elim | exact Or.inl h | (simp only [ftA] at h ⊢; omega)) (fun v H1 locs hpo hfr hS => ?_)
    obtain ⟨rfl, rfl⟩ := hpo
    refine W.widen (k := 0) (n := 0) (Nat.le_of_ble_eq_true rfl) (Nat.le_of_ble_eq_true rfl) ?_
    refine mn_iald hB hR.a_zq (by omega) (by omega) dX11_count_36 ?_
    refine mh_top (y := .int (nI (swF zq f))) (by rw [hF.s]) ?_
    refine lv_goto (tgt := 45) hx hb dX11_count_37 (by decide) ?_
    refine cl_X11_158 (As := [.int (nI f), .int (nI c0), .int (nI 0), .int (nI (swF zq f))]) (rest := []) hB (c_X11_colourIn l g H r zq zsp zrm zst zsl zsv ztx zln (nI 0) zsg zbg zwd zhg zin zop zbe zwi zhi zbk zot zer zen zpo zpi zgr zsh zsn f c0 0 (swF zq f) hR (by omega) (by omega) (by omega) (by omega) (by omega)) hR.o rfl hl.1 (Nat.le_of_ble_eq_true rfl) dX11_count_45 ⟨Nat.le_of_ble_eq_true rfl, Nat.le_of_ble_eq_true rfl⟩ ⟨Nat.le_of_ble_eq_true rfl, Nat.le_of_ble_eq_true rfl⟩ hS (by have hz9 := hS.1; rintro q (h | h) <;> first | exact Or.inr (by omega) | exact h.elim | exact Or.inl h | (simp only [ftA] at h ⊢; omega)) (fun v H1 locs hpo hfr hS => ?_)
    obtain ⟨rfl, rfl⟩ := hpo
    refine W.widen (k := 0) (n := 0) (Nat.le_of_ble_eq_true rfl) (Nat.le_of_ble_eq_true rfl) ?_
    refine lv_goto (tgt := 56) hx hb dX11_count_48 (by decide) ?_
    refine mh_iret hB ⟨Nat.le_of_ble_eq_true rfl, Nat.le_of_ble_eq_true rfl⟩ hS dX11_count_56 ⟨?_, ?_⟩
    · first | (rw [h_24, if_pos rfl]; rfl) | (rw [h_24, if_neg (by decide)]; rfl)
    · exact hR

def rm_c_X11_count_t1 : Room := { frames := 2, cells := 0, slots := 0, locals := 45 }
set_option maxRecDepth 100000 in
set_option maxHeartbeats 400000 in
theorem c_X11_count_t1 (l : Launch) (g : GG) (H0 : Heap) (r : Nat) (zq : Nat → Int32) (zsp : Nat → Int32) (zrm : Nat → Int32) (zst : Int32) (zsl : Nat → Int32) (zsv : Nat → Int32) (ztx : Nat → Int32) (zln : Int32) (zth : Int32) (zsg : Nat → Int32) (zbg : Nat → Int32) (zwd : Nat → Int32) (zhg : Nat → Int32) (zin : Nat → Int32) (zop : Int32) (zbe : Int32) (zwi : Int32) (zhi : Int32) (zbk : Nat → Int32) (zot : Nat → Int32) (zer : Int32) (zen : Int32) (zpo : Nat → Int32) (zpi : Int32) (zgr : Int32) (zsh : Nat → Int32) (zsn : Int32) (x : Int32) (y : Int32) (z0 : Bool) (hR : ModAt g r zq zsp zrm zst zsl zsv ztx zln zth zsg zbg zwd zhg zin zop zbe zwi zhi zbk zot zer zen zpo zpi zgr zsh zsn H0) (hx1 : isIx x 3 = false ∨ isIx y 6 = false) : Ct l yX11_count cX11_count 4 (some .int) rm_c_X11_count_t1 g [.ref r, .int x, .int y, .int (bI z0)] H0 (ftA (fun q => r ≤ q ∧ q < r + 16) H0.size) (fun v H1 => v = some (.int (nI 0)) ∧ ModAt g r zq zsp zrm zst zsl zsv ztx zln (nI 1) zsg zbg zwd zhg zin zop zbe zwi zhi zbk zot zer zen zpo zpi zgr zsh zsn H1) := by
  refine Ct.of (by decide) (fun _ h => Or.inr h) (Nat.le_of_ble_eq_true rfl) ?_
  intro p e s m below meth c ls hB hin hS hH hl
  have hx := hB.x
  have hb := hB.b
  have hl : lv_has ls 4 [(0, .ref r), (1, .int x), (2, .int y), (3, .int (bI z0))] := hl
  refine lv_aload_n hx hb dX11_count_0 rfl (lv_at hl 0 rfl) ?_
  refine lv_iconst (v := nI 0) hx hb dX11_count_1 (by decide) ?_
  refine pf_X11_56 hB hR.o (by first | exact Or.inl rfl | (simp only [ftA]; omega) | (simp [ftA]; omega)) hS rfl rfl (Nat.le_of_ble_eq_true rfl) dX11_count_2 (fun H locs hwr => ?_)
  obtain ⟨hR, hS⟩ := hR.w_zth hwr
  refine lv_iload_n hx hb dX11_count_5 rfl (lv_at hl 1 rfl) ?_
  refine cl_X11_175 (As := [.int x]) (rest := []) hB (c_X11_isFrame l g H x) rfl hl.1 (Nat.le_of_ble_eq_true rfl) dX11_count_6 ⟨Nat.le_of_ble_eq_true rfl, Nat.le_of_ble_eq_true rfl⟩ ⟨Nat.le_of_ble_eq_true rfl, Nat.le_of_ble_eq_true rfl⟩ hS (by have hz9 := hS.1; rintro q (h | h) <;> first | exact Or.inr (by omega) | exact h.elim | exact Or.inl h | (simp only [ftA] at h ⊢; omega)) (fun v H1 locs hpo hfr hS => ?_)
  obtain ⟨rfl, rfl⟩ := hpo
  refine W.widen (k := 0) (n := 0) (Nat.le_of_ble_eq_true rfl) (Nat.le_of_ble_eq_true rfl) ?_
  refine mb_if_eq (tgt := 51) hB dX11_count_9 (by decide) (fun h_9 => ?_) (fun h_9 => ?_)
  · skip
    refine lv_aload_n hx hb dX11_count_51 rfl (lv_at hl 0 rfl) ?_
    refine lv_iconst (v := nI 1) hx hb dX11_count_52 (by decide) ?_
    refine cl_X11_81 (As := [.int (nI 1)]) (rest := []) hB (c_X11_fails l g H r zq zsp zrm zst zsl zsv ztx zln (nI 0) zsg zbg zwd zhg zin zop zbe zwi zhi zbk zot zer zen zpo zpi zgr zsh zsn (nI 1) hR) hR.o rfl hl.1 (Nat.le_of_ble_eq_true rfl) dX11_count_53 ⟨Nat.le_of_ble_eq_true rfl, Nat.le_of_ble_eq_true rfl⟩ ⟨Nat.le_of_ble_eq_true rfl, Nat.le_of_ble_eq_true rfl⟩ hS (by have hz9 := hS.1; rintro q (h | h) <;> first | exact Or.inr (by omega) | exact h.elim | exact Or.inl h | (simp only [ftA] at h ⊢; omega)) (fun v H1 locs hpo hfr hS => ?_)
    obtain ⟨rfl, hR⟩ := hpo
    generalize H1 = H at hfr hS hR ⊢
    refine W.widen (k := 0) (n := 0) (Nat.le_of_ble_eq_true rfl) (Nat.le_of_ble_eq_true rfl) ?_
    refine mh_iret hB ⟨Nat.le_of_ble_eq_true rfl, Nat.le_of_ble_eq_true rfl⟩ hS dX11_count_56 ⟨?_, ?_⟩
    · rfl
    · exact hR
  · skip
    refine lv_iload_n hx hb dX11_count_12 rfl (lv_at hl 2 rfl) ?_
    refine cl_X11_153 (As := [.int y]) (rest := []) hB (c_X11_isColour l g H y) rfl hl.1 (Nat.le_of_ble_eq_true rfl) dX11_count_13 ⟨Nat.le_of_ble_eq_true rfl, Nat.le_of_ble_eq_true rfl⟩ ⟨Nat.le_of_ble_eq_true rfl, Nat.le_of_ble_eq_true rfl⟩ hS (by have hz9 := hS.1; rintro q (h | h) <;> first | exact Or.inr (by omega) | exact h.elim | exact Or.inl h | (simp only [ftA] at h ⊢; omega)) (fun v H1 locs hpo hfr hS => ?_)
    obtain ⟨rfl, rfl⟩ := hpo
    refine W.widen (k := 0) (n := 0) (Nat.le_of_ble_eq_true rfl) (Nat.le_of_ble_eq_true rfl) ?_
    refine mb_if_eq (tgt := 51) hB dX11_count_16 (by decide) (fun h_16 => ?_) (fun h => by rcases hx1 with z9 | z9; (rw [z9] at h_9; cases h_9); (rw [z9] at h; cases h))
    refine lv_aload_n hx hb dX11_count_51 rfl (lv_at hl 0 rfl) ?_
    refine lv_iconst (v := nI 1) hx hb dX11_count_52 (by decide) ?_
    refine cl_X11_81 (As := [.int (nI 1)]) (rest := []) hB (c_X11_fails l g H r zq zsp zrm zst zsl zsv ztx zln (nI 0) zsg zbg zwd zhg zin zop zbe zwi zhi zbk zot zer zen zpo zpi zgr zsh zsn (nI 1) hR) hR.o rfl hl.1 (Nat.le_of_ble_eq_true rfl) dX11_count_53 ⟨Nat.le_of_ble_eq_true rfl, Nat.le_of_ble_eq_true rfl⟩ ⟨Nat.le_of_ble_eq_true rfl, Nat.le_of_ble_eq_true rfl⟩ hS (by have hz9 := hS.1; rintro q (h | h) <;> first | exact Or.inr (by omega) | exact h.elim | exact Or.inl h | (simp only [ftA] at h ⊢; omega)) (fun v H1 locs hpo hfr hS => ?_)
    obtain ⟨rfl, hR⟩ := hpo
    generalize H1 = H at hfr hS hR ⊢
    refine W.widen (k := 0) (n := 0) (Nat.le_of_ble_eq_true rfl) (Nat.le_of_ble_eq_true rfl) ?_
    refine mh_iret hB ⟨Nat.le_of_ble_eq_true rfl, Nat.le_of_ble_eq_true rfl⟩ hS dX11_count_56 ⟨?_, ?_⟩
    · rfl
    · exact hR

def rm_c_X11_recolours : Room := { frames := 2, cells := 0, slots := 0, locals := 43 }
set_option maxRecDepth 100000 in
set_option maxHeartbeats 400000 in
theorem c_X11_recolours (l : Launch) (g : GG) (H0 : Heap) (r : Nat) (zq : Nat → Int32) (zsp : Nat → Int32) (zrm : Nat → Int32) (zst : Int32) (zsl : Nat → Int32) (zsv : Nat → Int32) (ztx : Nat → Int32) (zln : Int32) (zth : Int32) (zsg : Nat → Int32) (zbg : Nat → Int32) (zwd : Nat → Int32) (zhg : Nat → Int32) (zin : Nat → Int32) (zop : Int32) (zbe : Int32) (zwi : Int32) (zhi : Int32) (zbk : Nat → Int32) (zot : Nat → Int32) (zer : Int32) (zen : Int32) (zpo : Nat → Int32) (zpi : Int32) (zgr : Int32) (zsh : Nat → Int32) (zsn : Int32) (f : Nat) (a0 : Nat) (b0 : Nat) (hR : ModAt g r zq zsp zrm zst zsl zsv ztx zln zth zsg zbg zwd zhg zin zop zbe zwi zhi zbk zot zer zen zpo zpi zgr zsh zsn H0) (hW : WF zq) (hf : f < 3) (ha : a0 < 6) (hb8 : b0 < 6) : Ct l yX11_recolours cX11_recolours 7 (some .int) rm_c_X11_recolours g [.ref r, .int (nI f), .int (nI a0), .int (nI b0)] H0 (ftA (fun q => r ≤ q ∧ q < r + 16) H0.size) (fun v H1 => v = some (.int (nI (recN zq f a0 b0))) ∧ ModAt g r (recQ zq f a0 b0) zsp zrm zst zsl zsv ztx zln zth zsg zbg zwd zhg zin zop zbe zwi zhi zbk zot zer zen zpo zpi zgr zsh zsn H1) := by
  refine Ct.of (by decide) (fun _ h => Or.inr h) (Nat.le_of_ble_eq_true rfl) ?_
  intro p e s m below meth c ls hB hin hS hH hl
  have hx := hB.x
  have hb := hB.b
  have hl : lv_has ls 7 [(0, .ref r), (1, .int (nI f)), (2, .int (nI a0)), (3, .int (nI b0))] := hl
  have hF := hW.fr hf
  have hsz := WF.sz hF
  refine lv_iconst (v := nI 0) hx hb dX11_recolours_0 (by decide) ?_
  refine lv_istore (lv' := [(4, .int (nI 0)), (0, .ref r), (1, .int (nI f)), (2, .int (nI a0)), (3, .int (nI b0))]) hx hb dX11_recolours_1 hl (by decide) rfl (fun ls hl => ?_)
  refine lv_iconst (v := nI 0) hx hb dX11_recolours_3 (by decide) ?_
  refine lv_istore (lv' := [(5, .int (nI 0)), (4, .int (nI 0)), (0, .ref r), (1, .int (nI f)), (2, .int (nI a0)), (3, .int (nI b0))]) hx hb dX11_recolours_4 hl (by decide) rfl (fun ls hl => ?_)
  refine mh_loop (σ := Nat) (fun xx9 H locs ls => match xx9 with | i9 => i9 ≤ szF zq f ∧ (i9 = 0 ∨ ¬ a0 = b0) ∧ ModAt g r (recU zq f a0 b0 i9) zsp zrm zst zsl zsv ztx zln zth zsg zbg zwd zhg zin zop zbe zwi zhi zbk zot zer zen zpo zpi zgr zsh zsn H ∧ va_S (ftA (fun q => r ≤ q ∧ q < r + 16) H0.size) H0 H locs ∧ lv_has ls 7 [(0, .ref r), (1, .int (nI f)), (2, .int (nI a0)), (3, .int (nI b0)), (4, .int (nI (cntR (recP zq f a0 b0) 0 i9))), (5, .int (nI i9))]) (fun xx9 => match xx9 with | i9 => szF zq f - i9) ?_ 0 ⟨(by omega), (Or.inl rfl), (by rw [recU_0]; exact hR), hS, lv_sub hl [2, 3, 4, 5, 1, 0] rfl⟩
  rintro i9 H locs ls ⟨hi9, hab9, hR, hS, hl⟩ ih
  have ih6 := ih
  obtain ⟨hF9, hsz9, hsw9⟩ := recU_wf (i := i9) ha hb8 hF (by omega)
  refine lv_iload hx hb dX11_recolours_6 (lv_at hl 5 rfl) ?_
  refine lv_aload_n hx hb dX11_recolours_8 rfl (lv_at hl 0 rfl) ?_
  refine lv_iload_n hx hb dX11_recolours_9 rfl (lv_at hl 1 rfl) ?_
  refine cl_X11_75 (As := [.int (nI f)]) (rest := [.int (nI i9)]) hB (c_X11_patches l g H r (recU zq f a0 b0 i9) zsp zrm zst zsl zsv ztx zln zth zsg zbg zwd zhg zin zop zbe zwi zhi zbk zot zer zen zpo zpi zgr zsh zsn f hR (by omega) (hF9)) hR.o rfl hl.1 (Nat.le_of_ble_eq_true rfl) dX11_recolours_10 ⟨Nat.le_of_ble_eq_true rfl, Nat.le_of_ble_eq_true rfl⟩ ⟨Nat.le_of_ble_eq_true rfl, Nat.le_of_ble_eq_true rfl⟩ hS (by have hz9 := hS.1; rintro q (h | h) <;> first | exact Or.inr (by omega) | exact h.elim | exact Or.inl h | (simp only [ftA] at h ⊢; omega)) (fun v H1 locs hpo hfr hS => ?_)
  obtain ⟨rfl, rfl⟩ := hpo
  refine W.widen (k := 0) (n := 0) (Nat.le_of_ble_eq_true rfl) (Nat.le_of_ble_eq_true rfl) ?_
  refine mh_top (y := .int (nI (szF zq f))) (by rw [hsz9]) ?_
  refine mn_icmp_ge (tgt := 94) hB dX11_recolours_13 (by decide) (by omega) (by omega) (fun h_13 => ?_) (fun h_13 => ?_)
  · skip
    have hfin9 : recU zq f a0 b0 i9 = recQ zq f a0 b0 ∧ cntR (recP zq f a0 b0) 0 i9 = recN zq f a0 b0 := by
      unfold recQ recN
      by_cases z9 : a0 = b0
      · rw [if_pos z9, if_pos z9]
        have y9 : i9 = 0 := hab9.resolve_right (fun x9 => x9 z9)
        rw [y9, recU_0]
        exact ⟨rfl, rfl⟩
      · rw [if_neg z9, if_neg z9]
        have y9 : i9 = szF zq f := by first | omega | exact absurd h_18 z9
        rw [y9]
        exact ⟨rfl, rfl⟩
    refine lv_iload hx hb dX11_recolours_94 (lv_at hl 4 rfl) ?_
    refine mh_iret hB ⟨Nat.le_of_ble_eq_true rfl, Nat.le_of_ble_eq_true rfl⟩ hS dX11_recolours_96 ⟨?_, ?_⟩
    · rw [hfin9.2]
    · rw [hfin9.1] at hR; exact hR
  · skip
    refine lv_iload_n hx hb dX11_recolours_16 rfl (lv_at hl 2 rfl) ?_
    refine lv_iload_n hx hb dX11_recolours_17 rfl (lv_at hl 3 rfl) ?_
    refine mn_icmp_eq (tgt := 94) hB dX11_recolours_18 (by decide) (by omega) (by omega) (fun h_18 => ?_) (fun h_18 => ?_)
    · skip
      have hfin9 : recU zq f a0 b0 i9 = recQ zq f a0 b0 ∧ cntR (recP zq f a0 b0) 0 i9 = recN zq f a0 b0 := by
        unfold recQ recN
        by_cases z9 : a0 = b0
        · rw [if_pos z9, if_pos z9]
          have y9 : i9 = 0 := hab9.resolve_right (fun x9 => x9 z9)
          rw [y9, recU_0]
          exact ⟨rfl, rfl⟩
        · rw [if_neg z9, if_neg z9]
          have y9 : i9 = szF zq f := by first | omega | exact absurd h_18 z9
          rw [y9]
          exact ⟨rfl, rfl⟩
      refine lv_iload hx hb dX11_recolours_94 (lv_at hl 4 rfl) ?_
      refine mh_iret hB ⟨Nat.le_of_ble_eq_true rfl, Nat.le_of_ble_eq_true rfl⟩ hS dX11_recolours_96 ⟨?_, ?_⟩
      · rw [hfin9.2]
      · rw [hfin9.1] at hR; exact hR
    · skip
      refine lv_aload_n hx hb dX11_recolours_21 rfl (lv_at hl 0 rfl) ?_
      refine lv_iload_n hx hb dX11_recolours_22 rfl (lv_at hl 1 rfl) ?_
      refine lv_iload hx hb dX11_recolours_23 (lv_at hl 5 rfl) ?_
      refine cl_X11_150 (As := [.int (nI f), .int (nI i9)]) (rest := []) hB (c_X11_colourAt l g H r (recU zq f a0 b0 i9) zsp zrm zst zsl zsv ztx zln zth zsg zbg zwd zhg zin zop zbe zwi zhi zbk zot zer zen zpo zpi zgr zsh zsn f i9 hR (by omega) (hF9) (by omega)) hR.o rfl hl.1 (Nat.le_of_ble_eq_true rfl) dX11_recolours_25 ⟨Nat.le_of_ble_eq_true rfl, Nat.le_of_ble_eq_true rfl⟩ ⟨Nat.le_of_ble_eq_true rfl, Nat.le_of_ble_eq_true rfl⟩ hS (by have hz9 := hS.1; rintro q (h | h) <;> first | exact Or.inr (by omega) | exact h.elim | exact Or.inl h | (simp only [ftA] at h ⊢; omega)) (fun v H1 locs hpo hfr hS => ?_)
      obtain ⟨rfl, rfl⟩ := hpo
      refine W.widen (k := 0) (n := 0) (Nat.le_of_ble_eq_true rfl) (Nat.le_of_ble_eq_true rfl) ?_
      refine mh_top (y := .int (nI (clF zq f i9))) (by rw [recU_cl ha hb8 hF (by omega) (by omega), if_neg (by omega)]) ?_
      have hc6 := hF.c6 (k := i9) (by omega)
      refine lv_istore (lv' := [(6, .int (nI (clF zq f i9))), (0, .ref r), (1, .int (nI f)), (2, .int (nI a0)), (3, .int (nI b0)), (4, .int (nI (cntR (recP zq f a0 b0) 0 i9))), (5, .int (nI i9))]) hx hb dX11_recolours_28 hl (by decide) rfl (fun ls hl => ?_)
      refine lv_aload_n hx hb dX11_recolours_30 rfl (lv_at hl 1 rfl) ?_
      refine gf_X11_7 hB hR.o rfl dX11_recolours_31 ?_
      refine lv_iload_n hx hb dX11_recolours_34 rfl (lv_at hl 2 rfl) ?_
      refine lv_bipush (v := nI 8) hx hb dX11_recolours_35 (by decide) ?_
      refine lv_iload hx hb dX11_recolours_37 (lv_at hl 6 rfl) ?_
      refine mn_iadd hB dX11_recolours_39 ?_
      refine cl_X11_71 (As := [.int (nI f), .int (nI (8 + i9))]) (rest := [.ref (r + 1)]) hB (c_X11_at l g H f (8 + i9)) rfl hl.1 (Nat.le_of_ble_eq_true rfl) dX11_recolours_40 ⟨Nat.le_of_ble_eq_true rfl, Nat.le_of_ble_eq_true rfl⟩ ⟨Nat.le_of_ble_eq_true rfl, Nat.le_of_ble_eq_true rfl⟩ hS (by have hz9 := hS.1; rintro q (h | h) <;> first | exact Or.inr (by omega) | exact h.elim | exact Or.inl h | (simp only [ftA] at h ⊢; omega)) (fun v H1 locs hpo hfr hS => ?_)
      obtain ⟨rfl, rfl⟩ := hpo
      refine W.widen (k := 0) (n := 0) (Nat.le_of_ble_eq_true rfl) (Nat.le_of_ble_eq_true rfl) ?_
      refine lv_iload hx hb dX11_recolours_43 (lv_at hl 0 rfl) ?_
      refine lv_iload_n hx hb dX11_recolours_45 rfl (lv_at hl 3 rfl) ?_
      refine mn_icmp_ne (tgt := 53) hB dX11_recolours_46 (by decide) (by omega) (by omega) (fun h_46 => ?_) (fun h_46 => ?_)
      · skip
        refine lv_iload hx hb dX11_recolours_53 (lv_at hl 0 rfl) ?_
        refine lv_iload_n hx hb dX11_recolours_55 rfl (lv_at hl 4 rfl) ?_
        refine mn_icmp_ne (tgt := 63) hB dX11_recolours_56 (by decide) (by omega) (by omega) (fun h_56 => ?_) (fun h_56 => ?_)
        · skip
          refine lv_iload hx hb dX11_recolours_63 (lv_at hl 0 rfl) ?_
          refine mh_top (y := .int (nI (swpC a0 b0 (clF zq f i9)))) (by unfold swpC; (repeat' split) <;> first | rfl | (exfalso; omega)) ?_
          refine mn_iast hB hR.a_zq (by first | exact Or.inl rfl | (simp only [ftA]; omega) | (simp [ftA]; omega)) hS (by omega) (by omega) dX11_recolours_65 (fun H locs hwr => ?_)
          obtain ⟨hR, hS⟩ := hR.w_zq hwr
          refine lv_iload hx hb dX11_recolours_66 (lv_at hl 5 rfl) ?_
          refine lv_iload hx hb dX11_recolours_68 (lv_at hl 0 rfl) ?_
          refine lv_iload_n hx hb dX11_recolours_70 rfl (lv_at hl 3 rfl) ?_
          refine mn_icmp_eq (tgt := 80) hB dX11_recolours_71 (by decide) (by omega) (by omega) (fun h_71 => ?_) (fun h_71 => ?_)
          · skip
            refine lv_iconst (v := nI 1) hx hb dX11_recolours_80 (by decide) ?_
            refine lv_goto (tgt := 85) hx hb dX11_recolours_81 (by decide) ?_
            refine mn_iadd hB dX11_recolours_85 ?_
            refine mh_top (y := .int (nI (cntR (recP zq f a0 b0) 0 (i9 + 1)))) (by simp only [cntR, recP, Nat.zero_add, decide_eq_true_eq]; (repeat' split) <;> first | rfl | (exfalso; omega)) ?_
            refine lv_istore (lv' := [(4, .int (nI (cntR (recP zq f a0 b0) 0 (i9 + 1)))), (6, .int (nI (clF zq f i9))), (0, .ref r), (1, .int (nI f)), (2, .int (nI a0)), (3, .int (nI b0)), (5, .int (nI i9))]) hx hb dX11_recolours_86 hl (by decide) rfl (fun ls hl => ?_)
            refine lv_iinc (v := nI (i9 + 1)) (lv' := [(5, .int (nI (i9 + 1))), (4, .int (nI (cntR (recP zq f a0 b0) 0 (i9 + 1)))), (6, .int (nI (clF zq f i9))), (0, .ref r), (1, .int (nI f)), (2, .int (nI a0)), (3, .int (nI b0))]) hx hb dX11_recolours_88 hl (k := 6) rfl (nI_1 _) (by decide) rfl (fun ls hl => ?_)
            refine lv_goto (tgt := 6) hx hb dX11_recolours_91 (by decide) ?_
            refine ih6 (i9 + 1) _ _ _ ⟨(by omega), (Or.inr h_18), (by rw [← recU_up]; exact hR), hS, lv_sub hl [3, 4, 5, 6, 1, 0] rfl⟩ (by dsimp only; omega)
          · skip
            refine lv_iload hx hb dX11_recolours_74 (lv_at hl 0 rfl) ?_
            refine lv_iload_n hx hb dX11_recolours_76 rfl (lv_at hl 4 rfl) ?_
            refine mn_icmp_ne (tgt := 84) hB dX11_recolours_77 (by decide) (by omega) (by omega) (fun h_77 => ?_) (fun h_77 => ?_)
            · skip
              refine lv_iconst (v := nI 0) hx hb dX11_recolours_84 (by decide) ?_
              refine mn_iadd hB dX11_recolours_85 ?_
              refine mh_top (y := .int (nI (cntR (recP zq f a0 b0) 0 (i9 + 1)))) (by simp only [cntR, recP, Nat.zero_add, decide_eq_true_eq]; (repeat' split) <;> first | rfl | (exfalso; omega)) ?_
              refine lv_istore (lv' := [(4, .int (nI (cntR (recP zq f a0 b0) 0 (i9 + 1)))), (6, .int (nI (clF zq f i9))), (0, .ref r), (1, .int (nI f)), (2, .int (nI a0)), (3, .int (nI b0)), (5, .int (nI i9))]) hx hb dX11_recolours_86 hl (by decide) rfl (fun ls hl => ?_)
              refine lv_iinc (v := nI (i9 + 1)) (lv' := [(5, .int (nI (i9 + 1))), (4, .int (nI (cntR (recP zq f a0 b0) 0 (i9 + 1)))), (6, .int (nI (clF zq f i9))), (0, .ref r), (1, .int (nI f)), (2, .int (nI a0)), (3, .int (nI b0))]) hx hb dX11_recolours_88 hl (k := 6) rfl (nI_1 _) (by decide) rfl (fun ls hl => ?_)
              refine lv_goto (tgt := 6) hx hb dX11_recolours_91 (by decide) ?_
              refine ih6 (i9 + 1) _ _ _ ⟨(by omega), (Or.inr h_18), (by rw [← recU_up]; exact hR), hS, lv_sub hl [3, 4, 5, 6, 1, 0] rfl⟩ (by dsimp only; omega)
            · skip
              refine lv_iconst (v := nI 1) hx hb dX11_recolours_80 (by decide) ?_
              refine lv_goto (tgt := 85) hx hb dX11_recolours_81 (by decide) ?_
              refine mn_iadd hB dX11_recolours_85 ?_
              refine mh_top (y := .int (nI (cntR (recP zq f a0 b0) 0 (i9 + 1)))) (by simp only [cntR, recP, Nat.zero_add, decide_eq_true_eq]; (repeat' split) <;> first | rfl | (exfalso; omega)) ?_
              refine lv_istore (lv' := [(4, .int (nI (cntR (recP zq f a0 b0) 0 (i9 + 1)))), (6, .int (nI (clF zq f i9))), (0, .ref r), (1, .int (nI f)), (2, .int (nI a0)), (3, .int (nI b0)), (5, .int (nI i9))]) hx hb dX11_recolours_86 hl (by decide) rfl (fun ls hl => ?_)
              refine lv_iinc (v := nI (i9 + 1)) (lv' := [(5, .int (nI (i9 + 1))), (4, .int (nI (cntR (recP zq f a0 b0) 0 (i9 + 1)))), (6, .int (nI (clF zq f i9))), (0, .ref r), (1, .int (nI f)), (2, .int (nI a0)), (3, .int (nI b0))]) hx hb dX11_recolours_88 hl (k := 6) rfl (nI_1 _) (by decide) rfl (fun ls hl => ?_)
              refine lv_goto (tgt := 6) hx hb dX11_recolours_91 (by decide) ?_
              refine ih6 (i9 + 1) _ _ _ ⟨(by omega), (Or.inr h_18), (by rw [← recU_up]; exact hR), hS, lv_sub hl [3, 4, 5, 6, 1, 0] rfl⟩ (by dsimp only; omega)
        · skip
          refine lv_iload_n hx hb dX11_recolours_59 rfl (lv_at hl 3 rfl) ?_
          refine lv_goto (tgt := 65) hx hb dX11_recolours_60 (by decide) ?_
          refine mh_top (y := .int (nI (swpC a0 b0 (clF zq f i9)))) (by unfold swpC; (repeat' split) <;> first | rfl | (exfalso; omega)) ?_
          refine mn_iast hB hR.a_zq (by first | exact Or.inl rfl | (simp only [ftA]; omega) | (simp [ftA]; omega)) hS (by omega) (by omega) dX11_recolours_65 (fun H locs hwr => ?_)
          obtain ⟨hR, hS⟩ := hR.w_zq hwr
          refine lv_iload hx hb dX11_recolours_66 (lv_at hl 5 rfl) ?_
          refine lv_iload hx hb dX11_recolours_68 (lv_at hl 0 rfl) ?_
          refine lv_iload_n hx hb dX11_recolours_70 rfl (lv_at hl 3 rfl) ?_
          refine mn_icmp_eq (tgt := 80) hB dX11_recolours_71 (by decide) (by omega) (by omega) (fun h_71 => ?_) (fun h_71 => ?_)
          · skip
            refine lv_iconst (v := nI 1) hx hb dX11_recolours_80 (by decide) ?_
            refine lv_goto (tgt := 85) hx hb dX11_recolours_81 (by decide) ?_
            refine mn_iadd hB dX11_recolours_85 ?_
            refine mh_top (y := .int (nI (cntR (recP zq f a0 b0) 0 (i9 + 1)))) (by simp only [cntR, recP, Nat.zero_add, decide_eq_true_eq]; (repeat' split) <;> first | rfl | (exfalso; omega)) ?_
            refine lv_istore (lv' := [(4, .int (nI (cntR (recP zq f a0 b0) 0 (i9 + 1)))), (6, .int (nI (clF zq f i9))), (0, .ref r), (1, .int (nI f)), (2, .int (nI a0)), (3, .int (nI b0)), (5, .int (nI i9))]) hx hb dX11_recolours_86 hl (by decide) rfl (fun ls hl => ?_)
            refine lv_iinc (v := nI (i9 + 1)) (lv' := [(5, .int (nI (i9 + 1))), (4, .int (nI (cntR (recP zq f a0 b0) 0 (i9 + 1)))), (6, .int (nI (clF zq f i9))), (0, .ref r), (1, .int (nI f)), (2, .int (nI a0)), (3, .int (nI b0))]) hx hb dX11_recolours_88 hl (k := 6) rfl (nI_1 _) (by decide) rfl (fun ls hl => ?_)
            refine lv_goto (tgt := 6) hx hb dX11_recolours_91 (by decide) ?_
            refine ih6 (i9 + 1) _ _ _ ⟨(by omega), (Or.inr h_18), (by rw [← recU_up]; exact hR), hS, lv_sub hl [3, 4, 5, 6, 1, 0] rfl⟩ (by dsimp only; omega)
          · skip
            refine lv_iload hx hb dX11_recolours_74 (lv_at hl 0 rfl) ?_
            refine lv_iload_n hx hb dX11_recolours_76 rfl (lv_at hl 4 rfl) ?_
            refine mn_icmp_ne (tgt := 84) hB dX11_recolours_77 (by decide) (by omega) (by omega) (fun h_77 => ?_) (fun h_77 => ?_)
            · skip
              refine lv_iconst (v := nI 0) hx hb dX11_recolours_84 (by decide) ?_
              refine mn_iadd hB dX11_recolours_85 ?_
              refine mh_top (y := .int (nI (cntR (recP zq f a0 b0) 0 (i9 + 1)))) (by simp only [cntR, recP, Nat.zero_add, decide_eq_true_eq]; (repeat' split) <;> first | rfl | (exfalso; omega)) ?_
              refine lv_istore (lv' := [(4, .int (nI (cntR (recP zq f a0 b0) 0 (i9 + 1)))), (6, .int (nI (clF zq f i9))), (0, .ref r), (1, .int (nI f)), (2, .int (nI a0)), (3, .int (nI b0)), (5, .int (nI i9))]) hx hb dX11_recolours_86 hl (by decide) rfl (fun ls hl => ?_)
              refine lv_iinc (v := nI (i9 + 1)) (lv' := [(5, .int (nI (i9 + 1))), (4, .int (nI (cntR (recP zq f a0 b0) 0 (i9 + 1)))), (6, .int (nI (clF zq f i9))), (0, .ref r), (1, .int (nI f)), (2, .int (nI a0)), (3, .int (nI b0))]) hx hb dX11_recolours_88 hl (k := 6) rfl (nI_1 _) (by decide) rfl (fun ls hl => ?_)
              refine lv_goto (tgt := 6) hx hb dX11_recolours_91 (by decide) ?_
              refine ih6 (i9 + 1) _ _ _ ⟨(by omega), (Or.inr h_18), (by rw [← recU_up]; exact hR), hS, lv_sub hl [3, 4, 5, 6, 1, 0] rfl⟩ (by dsimp only; omega)
            · skip
              refine lv_iconst (v := nI 1) hx hb dX11_recolours_80 (by decide) ?_
              refine lv_goto (tgt := 85) hx hb dX11_recolours_81 (by decide) ?_
              refine mn_iadd hB dX11_recolours_85 ?_
              refine mh_top (y := .int (nI (cntR (recP zq f a0 b0) 0 (i9 + 1)))) (by simp only [cntR, recP, Nat.zero_add, decide_eq_true_eq]; (repeat' split) <;> first | rfl | (exfalso; omega)) ?_
              refine lv_istore (lv' := [(4, .int (nI (cntR (recP zq f a0 b0) 0 (i9 + 1)))), (6, .int (nI (clF zq f i9))), (0, .ref r), (1, .int (nI f)), (2, .int (nI a0)), (3, .int (nI b0)), (5, .int (nI i9))]) hx hb dX11_recolours_86 hl (by decide) rfl (fun ls hl => ?_)
              refine lv_iinc (v := nI (i9 + 1)) (lv' := [(5, .int (nI (i9 + 1))), (4, .int (nI (cntR (recP zq f a0 b0) 0 (i9 + 1)))), (6, .int (nI (clF zq f i9))), (0, .ref r), (1, .int (nI f)), (2, .int (nI a0)), (3, .int (nI b0))]) hx hb dX11_recolours_88 hl (k := 6) rfl (nI_1 _) (by decide) rfl (fun ls hl => ?_)
              refine lv_goto (tgt := 6) hx hb dX11_recolours_91 (by decide) ?_
              refine ih6 (i9 + 1) _ _ _ ⟨(by omega), (Or.inr h_18), (by rw [← recU_up]; exact hR), hS, lv_sub hl [3, 4, 5, 6, 1, 0] rfl⟩ (by dsimp only; omega)
      · skip
        refine lv_iload_n hx hb dX11_recolours_49 rfl (lv_at hl 4 rfl) ?_
        refine lv_goto (tgt := 65) hx hb dX11_recolours_50 (by decide) ?_
        refine mh_top (y := .int (nI (swpC a0 b0 (clF zq f i9)))) (by unfold swpC; (repeat' split) <;> first | rfl | (exfalso; omega)) ?_
        refine mn_iast hB hR.a_zq (by first | exact Or.inl rfl | (simp only [ftA]; omega) | (simp [ftA]; omega)) hS (by omega) (by omega) dX11_recolours_65 (fun H locs hwr => ?_)
        obtain ⟨hR, hS⟩ := hR.w_zq hwr
        refine lv_iload hx hb dX11_recolours_66 (lv_at hl 5 rfl) ?_
        refine lv_iload hx hb dX11_recolours_68 (lv_at hl 0 rfl) ?_
        refine lv_iload_n hx hb dX11_recolours_70 rfl (lv_at hl 3 rfl) ?_
        refine mn_icmp_eq (tgt := 80) hB dX11_recolours_71 (by decide) (by omega) (by omega) (fun h_71 => ?_) (fun h_71 => ?_)
        · skip
          refine lv_iconst (v := nI 1) hx hb dX11_recolours_80 (by decide) ?_
          refine lv_goto (tgt := 85) hx hb dX11_recolours_81 (by decide) ?_
          refine mn_iadd hB dX11_recolours_85 ?_
          refine mh_top (y := .int (nI (cntR (recP zq f a0 b0) 0 (i9 + 1)))) (by simp only [cntR, recP, Nat.zero_add, decide_eq_true_eq]; (repeat' split) <;> first | rfl | (exfalso; omega)) ?_
          refine lv_istore (lv' := [(4, .int (nI (cntR (recP zq f a0 b0) 0 (i9 + 1)))), (6, .int (nI (clF zq f i9))), (0, .ref r), (1, .int (nI f)), (2, .int (nI a0)), (3, .int (nI b0)), (5, .int (nI i9))]) hx hb dX11_recolours_86 hl (by decide) rfl (fun ls hl => ?_)
          refine lv_iinc (v := nI (i9 + 1)) (lv' := [(5, .int (nI (i9 + 1))), (4, .int (nI (cntR (recP zq f a0 b0) 0 (i9 + 1)))), (6, .int (nI (clF zq f i9))), (0, .ref r), (1, .int (nI f)), (2, .int (nI a0)), (3, .int (nI b0))]) hx hb dX11_recolours_88 hl (k := 6) rfl (nI_1 _) (by decide) rfl (fun ls hl => ?_)
          refine lv_goto (tgt := 6) hx hb dX11_recolours_91 (by decide) ?_
          refine ih6 (i9 + 1) _ _ _ ⟨(by omega), (Or.inr h_18), (by rw [← recU_up]; exact hR), hS, lv_sub hl [3, 4, 5, 6, 1, 0] rfl⟩ (by dsimp only; omega)
        · skip
          refine lv_iload hx hb dX11_recolours_74 (lv_at hl 0 rfl) ?_
          refine lv_iload_n hx hb dX11_recolours_76 rfl (lv_at hl 4 rfl) ?_
          refine mn_icmp_ne (tgt := 84) hB dX11_recolours_77 (by decide) (by omega) (by omega) (fun h_77 => ?_) (fun h_77 => ?_)
          · skip
            refine lv_iconst (v := nI 0) hx hb dX11_recolours_84 (by decide) ?_
            refine mn_iadd hB dX11_recolours_85 ?_
            refine mh_top (y := .int (nI (cntR (recP zq f a0 b0) 0 (i9 + 1)))) (by simp only [cntR, recP, Nat.zero_add, decide_eq_true_eq]; (repeat' split) <;> first | rfl | (exfalso; omega)) ?_
            refine lv_istore (lv' := [(4, .int (nI (cntR (recP zq f a0 b0) 0 (i9 + 1)))), (6, .int (nI (clF zq f i9))), (0, .ref r), (1, .int (nI f)), (2, .int (nI a0)), (3, .int (nI b0)), (5, .int (nI i9))]) hx hb dX11_recolours_86 hl (by decide) rfl (fun ls hl => ?_)
            refine lv_iinc (v := nI (i9 + 1)) (lv' := [(5, .int (nI (i9 + 1))), (4, .int (nI (cntR (recP zq f a0 b0) 0 (i9 + 1)))), (6, .int (nI (clF zq f i9))), (0, .ref r), (1, .int (nI f)), (2, .int (nI a0)), (3, .int (nI b0))]) hx hb dX11_recolours_88 hl (k := 6) rfl (nI_1 _) (by decide) rfl (fun ls hl => ?_)
            refine lv_goto (tgt := 6) hx hb dX11_recolours_91 (by decide) ?_
            refine ih6 (i9 + 1) _ _ _ ⟨(by omega), (Or.inr h_18), (by rw [← recU_up]; exact hR), hS, lv_sub hl [3, 4, 5, 6, 1, 0] rfl⟩ (by dsimp only; omega)
          · skip
            refine lv_iconst (v := nI 1) hx hb dX11_recolours_80 (by decide) ?_
            refine lv_goto (tgt := 85) hx hb dX11_recolours_81 (by decide) ?_
            refine mn_iadd hB dX11_recolours_85 ?_
            refine mh_top (y := .int (nI (cntR (recP zq f a0 b0) 0 (i9 + 1)))) (by simp only [cntR, recP, Nat.zero_add, decide_eq_true_eq]; (repeat' split) <;> first | rfl | (exfalso; omega)) ?_
            refine lv_istore (lv' := [(4, .int (nI (cntR (recP zq f a0 b0) 0 (i9 + 1)))), (6, .int (nI (clF zq f i9))), (0, .ref r), (1, .int (nI f)), (2, .int (nI a0)), (3, .int (nI b0)), (5, .int (nI i9))]) hx hb dX11_recolours_86 hl (by decide) rfl (fun ls hl => ?_)
            refine lv_iinc (v := nI (i9 + 1)) (lv' := [(5, .int (nI (i9 + 1))), (4, .int (nI (cntR (recP zq f a0 b0) 0 (i9 + 1)))), (6, .int (nI (clF zq f i9))), (0, .ref r), (1, .int (nI f)), (2, .int (nI a0)), (3, .int (nI b0))]) hx hb dX11_recolours_88 hl (k := 6) rfl (nI_1 _) (by decide) rfl (fun ls hl => ?_)
            refine lv_goto (tgt := 6) hx hb dX11_recolours_91 (by decide) ?_
            refine ih6 (i9 + 1) _ _ _ ⟨(by omega), (Or.inr h_18), (by rw [← recU_up]; exact hR), hS, lv_sub hl [3, 4, 5, 6, 1, 0] rfl⟩ (by dsimp only; omega)

def rm_c_X11_recolour : Room := { frames := 3, cells := 0, slots := 0, locals := 69 }
set_option maxRecDepth 100000 in
set_option maxHeartbeats 400000 in
theorem c_X11_recolour (l : Launch) (g : GG) (H0 : Heap) (r : Nat) (zq : Nat → Int32) (zsp : Nat → Int32) (zrm : Nat → Int32) (zsl : Nat → Int32) (zsv : Nat → Int32) (ztx : Nat → Int32) (zln : Int32) (zth : Int32) (zsg : Nat → Int32) (zbg : Nat → Int32) (zwd : Nat → Int32) (zhg : Nat → Int32) (zin : Nat → Int32) (zop : Int32) (zbe : Int32) (zwi : Int32) (zhi : Int32) (zbk : Nat → Int32) (zot : Nat → Int32) (zer : Int32) (zen : Int32) (zpo : Nat → Int32) (zpi : Int32) (zgr : Int32) (zsh : Nat → Int32) (zsn : Int32) (n : Nat) (f : Nat) (a0 : Nat) (b0 : Nat) (hR : ModAt g r zq zsp zrm (nI n) zsl zsv ztx zln zth zsg zbg zwd zhg zin zop zbe zwi zhi zbk zot zer zen zpo zpi zgr zsh zsn H0) (hn : n ≤ 14) (hW : WF zq) (hf : f < 3) (ha : a0 < 6) (hb8 : b0 < 6) (hs0 : 0 < szF zq f) (hs1 : swF zq f = 0) : Ct l yX11_recolour cX11_recolour 4 (some .int) rm_c_X11_recolour g [.ref r, .int (nI f), .int (nI a0), .int (nI b0)] H0 (ftA (fun q => r ≤ q ∧ q < r + 16) H0.size) (fun v H1 => v = some (.int (nI (recN zq f a0 b0))) ∧ ModAt g r (recQ zq f a0 b0) zsp (remA zrm n zq) (nI (nxtS n)) zsl zsv ztx zln (nI 0) zsg zbg zwd zhg zin zop zbe zwi zhi zbk zot zer zen zpo zpi zgr zsh zsn H1) := by
  refine Ct.of (by decide) (fun _ h => Or.inr h) (Nat.le_of_ble_eq_true rfl) ?_
  intro p e s m below meth c ls hB hin hS hH hl
  have hx := hB.x
  have hb := hB.b
  have hl : lv_has ls 4 [(0, .ref r), (1, .int (nI f)), (2, .int (nI a0)), (3, .int (nI b0))] := hl
  refine lv_aload_n hx hb dX11_recolour_0 rfl (lv_at hl 0 rfl) ?_
  refine lv_iconst (v := nI 0) hx hb dX11_recolour_1 (by decide) ?_
  refine pf_X11_56 hB hR.o (by first | exact Or.inl rfl | (simp only [ftA]; omega) | (simp [ftA]; omega)) hS rfl rfl (Nat.le_of_ble_eq_true rfl) dX11_recolour_2 (fun H locs hwr => ?_)
  obtain ⟨hR, hS⟩ := hR.w_zth hwr
  refine lv_iload_n hx hb dX11_recolour_5 rfl (lv_at hl 1 rfl) ?_
  refine cl_X11_175 (As := [.int (nI f)]) (rest := []) hB (c_X11_isFrame l g H (nI f)) rfl hl.1 (Nat.le_of_ble_eq_true rfl) dX11_recolour_6 ⟨Nat.le_of_ble_eq_true rfl, Nat.le_of_ble_eq_true rfl⟩ ⟨Nat.le_of_ble_eq_true rfl, Nat.le_of_ble_eq_true rfl⟩ hS (by have hz9 := hS.1; rintro q (h | h) <;> first | exact Or.inr (by omega) | exact h.elim | exact Or.inl h | (simp only [ftA] at h ⊢; omega)) (fun v H1 locs hpo hfr hS => ?_)
  obtain ⟨rfl, rfl⟩ := hpo
  refine W.widen (k := 0) (n := 0) (Nat.le_of_ble_eq_true rfl) (Nat.le_of_ble_eq_true rfl) ?_
  refine mb_if_eq (tgt := 26) hB dX11_recolour_9 (by decide) (fun h => by rw [isIx_of hf (by omega)] at h; cases h) (fun h_9 => ?_)
  refine lv_iload_n hx hb dX11_recolour_12 rfl (lv_at hl 2 rfl) ?_
  refine cl_X11_153 (As := [.int (nI a0)]) (rest := []) hB (c_X11_isColour l g H (nI a0)) rfl hl.1 (Nat.le_of_ble_eq_true rfl) dX11_recolour_13 ⟨Nat.le_of_ble_eq_true rfl, Nat.le_of_ble_eq_true rfl⟩ ⟨Nat.le_of_ble_eq_true rfl, Nat.le_of_ble_eq_true rfl⟩ hS (by have hz9 := hS.1; rintro q (h | h) <;> first | exact Or.inr (by omega) | exact h.elim | exact Or.inl h | (simp only [ftA] at h ⊢; omega)) (fun v H1 locs hpo hfr hS => ?_)
  obtain ⟨rfl, rfl⟩ := hpo
  refine W.widen (k := 0) (n := 0) (Nat.le_of_ble_eq_true rfl) (Nat.le_of_ble_eq_true rfl) ?_
  refine mb_if_eq (tgt := 26) hB dX11_recolour_16 (by decide) (fun h => by rw [isIx_of ha (by omega)] at h; cases h) (fun h_16 => ?_)
  refine lv_iload_n hx hb dX11_recolour_19 rfl (lv_at hl 3 rfl) ?_
  refine cl_X11_153 (As := [.int (nI b0)]) (rest := []) hB (c_X11_isColour l g H (nI b0)) rfl hl.1 (Nat.le_of_ble_eq_true rfl) dX11_recolour_20 ⟨Nat.le_of_ble_eq_true rfl, Nat.le_of_ble_eq_true rfl⟩ ⟨Nat.le_of_ble_eq_true rfl, Nat.le_of_ble_eq_true rfl⟩ hS (by have hz9 := hS.1; rintro q (h | h) <;> first | exact Or.inr (by omega) | exact h.elim | exact Or.inl h | (simp only [ftA] at h ⊢; omega)) (fun v H1 locs hpo hfr hS => ?_)
  obtain ⟨rfl, rfl⟩ := hpo
  refine W.widen (k := 0) (n := 0) (Nat.le_of_ble_eq_true rfl) (Nat.le_of_ble_eq_true rfl) ?_
  refine mb_if_ne (tgt := 32) hB dX11_recolour_23 (by decide) (fun h_23 => ?_) (fun h => by rw [isIx_of hb8 (by omega)] at h; cases h)
  refine lv_aload_n hx hb dX11_recolour_32 rfl (lv_at hl 0 rfl) ?_
  refine lv_iload_n hx hb dX11_recolour_33 rfl (lv_at hl 1 rfl) ?_
  refine cl_X11_209 (As := [.int (nI f)]) (rest := []) hB (c_X11_canRecolour l g H r zq zsp zrm (nI n) zsl zsv ztx zln (nI 0) zsg zbg zwd zhg zin zop zbe zwi zhi zbk zot zer zen zpo zpi zgr zsh zsn f hR (by omega) (hW.fr hf)) hR.o rfl hl.1 (Nat.le_of_ble_eq_true rfl) dX11_recolour_34 ⟨Nat.le_of_ble_eq_true rfl, Nat.le_of_ble_eq_true rfl⟩ ⟨Nat.le_of_ble_eq_true rfl, Nat.le_of_ble_eq_true rfl⟩ hS (by have hz9 := hS.1; rintro q (h | h) <;> first | exact Or.inr (by omega) | exact h.elim | exact Or.inl h | (simp only [ftA] at h ⊢; omega)) (fun v H1 locs hpo hfr hS => ?_)
  obtain ⟨rfl, rfl⟩ := hpo
  refine W.widen (k := 0) (n := 0) (Nat.le_of_ble_eq_true rfl) (Nat.le_of_ble_eq_true rfl) ?_
  refine mb_if_ne (tgt := 46) hB dX11_recolour_37 (by decide) (fun h_37 => ?_) (fun h => by rw [decide_eq_true (And.intro hs0 hs1)] at h; cases h)
  refine lv_aload_n hx hb dX11_recolour_46 rfl (lv_at hl 0 rfl) ?_
  refine cl_X11_200 (As := []) (rest := []) hB (c_X11_remember l g H r zq zsp zrm zsl zsv ztx zln (nI 0) zsg zbg zwd zhg zin zop zbe zwi zhi zbk zot zer zen zpo zpi zgr zsh zsn n hR (by omega)) hR.o rfl hl.1 (Nat.le_of_ble_eq_true rfl) dX11_recolour_47 ⟨Nat.le_of_ble_eq_true rfl, Nat.le_of_ble_eq_true rfl⟩ ⟨Nat.le_of_ble_eq_true rfl, Nat.le_of_ble_eq_true rfl⟩ hS (by have hz9 := hS.1; rintro q (h | h) <;> first | exact Or.inr (by omega) | exact h.elim | exact Or.inl h | (simp only [ftA] at h ⊢; omega)) (fun v H1 locs hpo hfr hS => ?_)
  obtain ⟨rfl, hR⟩ := hpo
  generalize H1 = H at hfr hS hR ⊢
  refine W.widen (k := 0) (n := 0) (Nat.le_of_ble_eq_true rfl) (Nat.le_of_ble_eq_true rfl) ?_
  refine lv_aload_n hx hb dX11_recolour_50 rfl (lv_at hl 0 rfl) ?_
  refine lv_iload_n hx hb dX11_recolour_51 rfl (lv_at hl 1 rfl) ?_
  refine lv_iload_n hx hb dX11_recolour_52 rfl (lv_at hl 2 rfl) ?_
  refine lv_iload_n hx hb dX11_recolour_53 rfl (lv_at hl 3 rfl) ?_
  refine cl_X11_212 (As := [.int (nI f), .int (nI a0), .int (nI b0)]) (rest := []) hB (c_X11_recolours l g H r zq zsp (remA zrm n zq) (nI (nxtS n)) zsl zsv ztx zln (nI 0) zsg zbg zwd zhg zin zop zbe zwi zhi zbk zot zer zen zpo zpi zgr zsh zsn f a0 b0 hR (by omega) (by omega) (by omega) (by omega)) hR.o rfl hl.1 (Nat.le_of_ble_eq_true rfl) dX11_recolour_54 ⟨Nat.le_of_ble_eq_true rfl, Nat.le_of_ble_eq_true rfl⟩ ⟨Nat.le_of_ble_eq_true rfl, Nat.le_of_ble_eq_true rfl⟩ hS (by have hz9 := hS.1; rintro q (h | h) <;> first | exact Or.inr (by omega) | exact h.elim | exact Or.inl h | (simp only [ftA] at h ⊢; omega)) (fun v H1 locs hpo hfr hS => ?_)
  obtain ⟨rfl, hR⟩ := hpo
  generalize H1 = H at hfr hS hR ⊢
  refine W.widen (k := 0) (n := 0) (Nat.le_of_ble_eq_true rfl) (Nat.le_of_ble_eq_true rfl) ?_
  refine mh_iret hB ⟨Nat.le_of_ble_eq_true rfl, Nat.le_of_ble_eq_true rfl⟩ hS dX11_recolour_57 ⟨?_, ?_⟩
  · rfl
  · exact hR

def rm_c_X11_recolour_t1 : Room := { frames := 2, cells := 0, slots := 0, locals := 45 }
set_option maxRecDepth 100000 in
set_option maxHeartbeats 400000 in
theorem c_X11_recolour_t1 (l : Launch) (g : GG) (H0 : Heap) (r : Nat) (zq : Nat → Int32) (zsp : Nat → Int32) (zrm : Nat → Int32) (zst : Int32) (zsl : Nat → Int32) (zsv : Nat → Int32) (ztx : Nat → Int32) (zln : Int32) (zth : Int32) (zsg : Nat → Int32) (zbg : Nat → Int32) (zwd : Nat → Int32) (zhg : Nat → Int32) (zin : Nat → Int32) (zop : Int32) (zbe : Int32) (zwi : Int32) (zhi : Int32) (zbk : Nat → Int32) (zot : Nat → Int32) (zer : Int32) (zen : Int32) (zpo : Nat → Int32) (zpi : Int32) (zgr : Int32) (zsh : Nat → Int32) (zsn : Int32) (x : Int32) (y : Int32) (z : Int32) (hR : ModAt g r zq zsp zrm zst zsl zsv ztx zln zth zsg zbg zwd zhg zin zop zbe zwi zhi zbk zot zer zen zpo zpi zgr zsh zsn H0) (hx1 : isIx x 3 = false ∨ isIx y 6 = false ∨ isIx z 6 = false) : Ct l yX11_recolour cX11_recolour 4 (some .int) rm_c_X11_recolour_t1 g [.ref r, .int x, .int y, .int z] H0 (ftA (fun q => r ≤ q ∧ q < r + 16) H0.size) (fun v H1 => v = some (.int (nI 0)) ∧ ModAt g r zq zsp zrm zst zsl zsv ztx zln (nI 1) zsg zbg zwd zhg zin zop zbe zwi zhi zbk zot zer zen zpo zpi zgr zsh zsn H1) := by
  refine Ct.of (by decide) (fun _ h => Or.inr h) (Nat.le_of_ble_eq_true rfl) ?_
  intro p e s m below meth c ls hB hin hS hH hl
  have hx := hB.x
  have hb := hB.b
  have hl : lv_has ls 4 [(0, .ref r), (1, .int x), (2, .int y), (3, .int z)] := hl
  refine lv_aload_n hx hb dX11_recolour_0 rfl (lv_at hl 0 rfl) ?_
  refine lv_iconst (v := nI 0) hx hb dX11_recolour_1 (by decide) ?_
  refine pf_X11_56 hB hR.o (by first | exact Or.inl rfl | (simp only [ftA]; omega) | (simp [ftA]; omega)) hS rfl rfl (Nat.le_of_ble_eq_true rfl) dX11_recolour_2 (fun H locs hwr => ?_)
  obtain ⟨hR, hS⟩ := hR.w_zth hwr
  refine lv_iload_n hx hb dX11_recolour_5 rfl (lv_at hl 1 rfl) ?_
  refine cl_X11_175 (As := [.int x]) (rest := []) hB (c_X11_isFrame l g H x) rfl hl.1 (Nat.le_of_ble_eq_true rfl) dX11_recolour_6 ⟨Nat.le_of_ble_eq_true rfl, Nat.le_of_ble_eq_true rfl⟩ ⟨Nat.le_of_ble_eq_true rfl, Nat.le_of_ble_eq_true rfl⟩ hS (by have hz9 := hS.1; rintro q (h | h) <;> first | exact Or.inr (by omega) | exact h.elim | exact Or.inl h | (simp only [ftA] at h ⊢; omega)) (fun v H1 locs hpo hfr hS => ?_)
  obtain ⟨rfl, rfl⟩ := hpo
  refine W.widen (k := 0) (n := 0) (Nat.le_of_ble_eq_true rfl) (Nat.le_of_ble_eq_true rfl) ?_
  refine mb_if_eq (tgt := 26) hB dX11_recolour_9 (by decide) (fun h_9 => ?_) (fun h_9 => ?_)
  · skip
    refine lv_aload_n hx hb dX11_recolour_26 rfl (lv_at hl 0 rfl) ?_
    refine lv_iconst (v := nI 1) hx hb dX11_recolour_27 (by decide) ?_
    refine cl_X11_81 (As := [.int (nI 1)]) (rest := []) hB (c_X11_fails l g H r zq zsp zrm zst zsl zsv ztx zln (nI 0) zsg zbg zwd zhg zin zop zbe zwi zhi zbk zot zer zen zpo zpi zgr zsh zsn (nI 1) hR) hR.o rfl hl.1 (Nat.le_of_ble_eq_true rfl) dX11_recolour_28 ⟨Nat.le_of_ble_eq_true rfl, Nat.le_of_ble_eq_true rfl⟩ ⟨Nat.le_of_ble_eq_true rfl, Nat.le_of_ble_eq_true rfl⟩ hS (by have hz9 := hS.1; rintro q (h | h) <;> first | exact Or.inr (by omega) | exact h.elim | exact Or.inl h | (simp only [ftA] at h ⊢; omega)) (fun v H1 locs hpo hfr hS => ?_)
    obtain ⟨rfl, hR⟩ := hpo
    generalize H1 = H at hfr hS hR ⊢
    refine W.widen (k := 0) (n := 0) (Nat.le_of_ble_eq_true rfl) (Nat.le_of_ble_eq_true rfl) ?_
    refine mh_iret hB ⟨Nat.le_of_ble_eq_true rfl, Nat.le_of_ble_eq_true rfl⟩ hS dX11_recolour_31 ⟨?_, ?_⟩
    · rfl
    · exact hR
  · skip
    refine lv_iload_n hx hb dX11_recolour_12 rfl (lv_at hl 2 rfl) ?_
    refine cl_X11_153 (As := [.int y]) (rest := []) hB (c_X11_isColour l g H y) rfl hl.1 (Nat.le_of_ble_eq_true rfl) dX11_recolour_13 ⟨Nat.le_of_ble_eq_true rfl, Nat.le_of_ble_eq_true rfl⟩ ⟨Nat.le_of_ble_eq_true rfl, Nat.le_of_ble_eq_true rfl⟩ hS (by have hz9 := hS.1; rintro q (h | h) <;> first | exact Or.inr (by omega) | exact h.elim | exact Or.inl h | (simp only [ftA] at h ⊢; omega)) (fun v H1 locs hpo hfr hS => ?_)
    obtain ⟨rfl, rfl⟩ := hpo
    refine W.widen (k := 0) (n := 0) (Nat.le_of_ble_eq_true rfl) (Nat.le_of_ble_eq_true rfl) ?_
    refine mb_if_eq (tgt := 26) hB dX11_recolour_16 (by decide) (fun h_16 => ?_) (fun h_16 => ?_)
    · skip
      refine lv_aload_n hx hb dX11_recolour_26 rfl (lv_at hl 0 rfl) ?_
      refine lv_iconst (v := nI 1) hx hb dX11_recolour_27 (by decide) ?_
      refine cl_X11_81 (As := [.int (nI 1)]) (rest := []) hB (c_X11_fails l g H r zq zsp zrm zst zsl zsv ztx zln (nI 0) zsg zbg zwd zhg zin zop zbe zwi zhi zbk zot zer zen zpo zpi zgr zsh zsn (nI 1) hR) hR.o rfl hl.1 (Nat.le_of_ble_eq_true rfl) dX11_recolour_28 ⟨Nat.le_of_ble_eq_true rfl, Nat.le_of_ble_eq_true rfl⟩ ⟨Nat.le_of_ble_eq_true rfl, Nat.le_of_ble_eq_true rfl⟩ hS (by have hz9 := hS.1; rintro q (h | h) <;> first | exact Or.inr (by omega) | exact h.elim | exact Or.inl h | (simp only [ftA] at h ⊢; omega)) (fun v H1 locs hpo hfr hS => ?_)
      obtain ⟨rfl, hR⟩ := hpo
      generalize H1 = H at hfr hS hR ⊢
      refine W.widen (k := 0) (n := 0) (Nat.le_of_ble_eq_true rfl) (Nat.le_of_ble_eq_true rfl) ?_
      refine mh_iret hB ⟨Nat.le_of_ble_eq_true rfl, Nat.le_of_ble_eq_true rfl⟩ hS dX11_recolour_31 ⟨?_, ?_⟩
      · rfl
      · exact hR
    · skip
      refine lv_iload_n hx hb dX11_recolour_19 rfl (lv_at hl 3 rfl) ?_
      refine cl_X11_153 (As := [.int z]) (rest := []) hB (c_X11_isColour l g H z) rfl hl.1 (Nat.le_of_ble_eq_true rfl) dX11_recolour_20 ⟨Nat.le_of_ble_eq_true rfl, Nat.le_of_ble_eq_true rfl⟩ ⟨Nat.le_of_ble_eq_true rfl, Nat.le_of_ble_eq_true rfl⟩ hS (by have hz9 := hS.1; rintro q (h | h) <;> first | exact Or.inr (by omega) | exact h.elim | exact Or.inl h | (simp only [ftA] at h ⊢; omega)) (fun v H1 locs hpo hfr hS => ?_)
      obtain ⟨rfl, rfl⟩ := hpo
      refine W.widen (k := 0) (n := 0) (Nat.le_of_ble_eq_true rfl) (Nat.le_of_ble_eq_true rfl) ?_
      refine mb_if_ne (tgt := 32) hB dX11_recolour_23 (by decide) (fun h => by rcases hx1 with z9 | z9 | z9; (rw [z9] at h_9; cases h_9); (rw [z9] at h_16; cases h_16); (rw [z9] at h; cases h)) (fun h_23 => ?_)
      refine lv_aload_n hx hb dX11_recolour_26 rfl (lv_at hl 0 rfl) ?_
      refine lv_iconst (v := nI 1) hx hb dX11_recolour_27 (by decide) ?_
      refine cl_X11_81 (As := [.int (nI 1)]) (rest := []) hB (c_X11_fails l g H r zq zsp zrm zst zsl zsv ztx zln (nI 0) zsg zbg zwd zhg zin zop zbe zwi zhi zbk zot zer zen zpo zpi zgr zsh zsn (nI 1) hR) hR.o rfl hl.1 (Nat.le_of_ble_eq_true rfl) dX11_recolour_28 ⟨Nat.le_of_ble_eq_true rfl, Nat.le_of_ble_eq_true rfl⟩ ⟨Nat.le_of_ble_eq_true rfl, Nat.le_of_ble_eq_true rfl⟩ hS (by have hz9 := hS.1; rintro q (h | h) <;> first | exact Or.inr (by omega) | exact h.elim | exact Or.inl h | (simp only [ftA] at h ⊢; omega)) (fun v H1 locs hpo hfr hS => ?_)
      obtain ⟨rfl, hR⟩ := hpo
      generalize H1 = H at hfr hS hR ⊢
      refine W.widen (k := 0) (n := 0) (Nat.le_of_ble_eq_true rfl) (Nat.le_of_ble_eq_true rfl) ?_
      refine mh_iret hB ⟨Nat.le_of_ble_eq_true rfl, Nat.le_of_ble_eq_true rfl⟩ hS dX11_recolour_31 ⟨?_, ?_⟩
      · rfl
      · exact hR

def rm_c_X11_recolour_t2 : Room := { frames := 3, cells := 0, slots := 0, locals := 63 }
set_option maxRecDepth 100000 in
set_option maxHeartbeats 400000 in
theorem c_X11_recolour_t2 (l : Launch) (g : GG) (H0 : Heap) (r : Nat) (zq : Nat → Int32) (zsp : Nat → Int32) (zrm : Nat → Int32) (zst : Int32) (zsl : Nat → Int32) (zsv : Nat → Int32) (ztx : Nat → Int32) (zln : Int32) (zth : Int32) (zsg : Nat → Int32) (zbg : Nat → Int32) (zwd : Nat → Int32) (zhg : Nat → Int32) (zin : Nat → Int32) (zop : Int32) (zbe : Int32) (zwi : Int32) (zhi : Int32) (zbk : Nat → Int32) (zot : Nat → Int32) (zer : Int32) (zen : Int32) (zpo : Nat → Int32) (zpi : Int32) (zgr : Int32) (zsh : Nat → Int32) (zsn : Int32) (f : Nat) (a0 : Nat) (b0 : Nat) (hR : ModAt g r zq zsp zrm zst zsl zsv ztx zln zth zsg zbg zwd zhg zin zop zbe zwi zhi zbk zot zer zen zpo zpi zgr zsh zsn H0) (hW : WF zq) (hf : f < 3) (ha : a0 < 6) (hb8 : b0 < 6) (hs0 : ¬ (0 < szF zq f ∧ swF zq f = 0)) : Ct l yX11_recolour cX11_recolour 4 (some .int) rm_c_X11_recolour_t2 g [.ref r, .int (nI f), .int (nI a0), .int (nI b0)] H0 (ftA (fun q => r ≤ q ∧ q < r + 16) H0.size) (fun v H1 => v = some (.int (nI 0)) ∧ ModAt g r zq zsp zrm zst zsl zsv ztx zln (nI 2) zsg zbg zwd zhg zin zop zbe zwi zhi zbk zot zer zen zpo zpi zgr zsh zsn H1) := by
  refine Ct.of (by decide) (fun _ h => Or.inr h) (Nat.le_of_ble_eq_true rfl) ?_
  intro p e s m below meth c ls hB hin hS hH hl
  have hx := hB.x
  have hb := hB.b
  have hl : lv_has ls 4 [(0, .ref r), (1, .int (nI f)), (2, .int (nI a0)), (3, .int (nI b0))] := hl
  refine lv_aload_n hx hb dX11_recolour_0 rfl (lv_at hl 0 rfl) ?_
  refine lv_iconst (v := nI 0) hx hb dX11_recolour_1 (by decide) ?_
  refine pf_X11_56 hB hR.o (by first | exact Or.inl rfl | (simp only [ftA]; omega) | (simp [ftA]; omega)) hS rfl rfl (Nat.le_of_ble_eq_true rfl) dX11_recolour_2 (fun H locs hwr => ?_)
  obtain ⟨hR, hS⟩ := hR.w_zth hwr
  refine lv_iload_n hx hb dX11_recolour_5 rfl (lv_at hl 1 rfl) ?_
  refine cl_X11_175 (As := [.int (nI f)]) (rest := []) hB (c_X11_isFrame l g H (nI f)) rfl hl.1 (Nat.le_of_ble_eq_true rfl) dX11_recolour_6 ⟨Nat.le_of_ble_eq_true rfl, Nat.le_of_ble_eq_true rfl⟩ ⟨Nat.le_of_ble_eq_true rfl, Nat.le_of_ble_eq_true rfl⟩ hS (by have hz9 := hS.1; rintro q (h | h) <;> first | exact Or.inr (by omega) | exact h.elim | exact Or.inl h | (simp only [ftA] at h ⊢; omega)) (fun v H1 locs hpo hfr hS => ?_)
  obtain ⟨rfl, rfl⟩ := hpo
  refine W.widen (k := 0) (n := 0) (Nat.le_of_ble_eq_true rfl) (Nat.le_of_ble_eq_true rfl) ?_
  refine mb_if_eq (tgt := 26) hB dX11_recolour_9 (by decide) (fun h => by rw [isIx_of hf (by omega)] at h; cases h) (fun h_9 => ?_)
  refine lv_iload_n hx hb dX11_recolour_12 rfl (lv_at hl 2 rfl) ?_
  refine cl_X11_153 (As := [.int (nI a0)]) (rest := []) hB (c_X11_isColour l g H (nI a0)) rfl hl.1 (Nat.le_of_ble_eq_true rfl) dX11_recolour_13 ⟨Nat.le_of_ble_eq_true rfl, Nat.le_of_ble_eq_true rfl⟩ ⟨Nat.le_of_ble_eq_true rfl, Nat.le_of_ble_eq_true rfl⟩ hS (by have hz9 := hS.1; rintro q (h | h) <;> first | exact Or.inr (by omega) | exact h.elim | exact Or.inl h | (simp only [ftA] at h ⊢; omega)) (fun v H1 locs hpo hfr hS => ?_)
  obtain ⟨rfl, rfl⟩ := hpo
  refine W.widen (k := 0) (n := 0) (Nat.le_of_ble_eq_true rfl) (Nat.le_of_ble_eq_true rfl) ?_
  refine mb_if_eq (tgt := 26) hB dX11_recolour_16 (by decide) (fun h => by rw [isIx_of ha (by omega)] at h; cases h) (fun h_16 => ?_)
  refine lv_iload_n hx hb dX11_recolour_19 rfl (lv_at hl 3 rfl) ?_
  refine cl_X11_153 (As := [.int (nI b0)]) (rest := []) hB (c_X11_isColour l g H (nI b0)) rfl hl.1 (Nat.le_of_ble_eq_true rfl) dX11_recolour_20 ⟨Nat.le_of_ble_eq_true rfl, Nat.le_of_ble_eq_true rfl⟩ ⟨Nat.le_of_ble_eq_true rfl, Nat.le_of_ble_eq_true rfl⟩ hS (by have hz9 := hS.1; rintro q (h | h) <;> first | exact Or.inr (by omega) | exact h.elim | exact Or.inl h | (simp only [ftA] at h ⊢; omega)) (fun v H1 locs hpo hfr hS => ?_)
  obtain ⟨rfl, rfl⟩ := hpo
  refine W.widen (k := 0) (n := 0) (Nat.le_of_ble_eq_true rfl) (Nat.le_of_ble_eq_true rfl) ?_
  refine mb_if_ne (tgt := 32) hB dX11_recolour_23 (by decide) (fun h_23 => ?_) (fun h => by rw [isIx_of hb8 (by omega)] at h; cases h)
  refine lv_aload_n hx hb dX11_recolour_32 rfl (lv_at hl 0 rfl) ?_
  refine lv_iload_n hx hb dX11_recolour_33 rfl (lv_at hl 1 rfl) ?_
  refine cl_X11_209 (As := [.int (nI f)]) (rest := []) hB (c_X11_canRecolour l g H r zq zsp zrm zst zsl zsv ztx zln (nI 0) zsg zbg zwd zhg zin zop zbe zwi zhi zbk zot zer zen zpo zpi zgr zsh zsn f hR (by omega) (hW.fr hf)) hR.o rfl hl.1 (Nat.le_of_ble_eq_true rfl) dX11_recolour_34 ⟨Nat.le_of_ble_eq_true rfl, Nat.le_of_ble_eq_true rfl⟩ ⟨Nat.le_of_ble_eq_true rfl, Nat.le_of_ble_eq_true rfl⟩ hS (by have hz9 := hS.1; rintro q (h | h) <;> first | exact Or.inr (by omega) | exact h.elim | exact Or.inl h | (simp only [ftA] at h ⊢; omega)) (fun v H1 locs hpo hfr hS => ?_)
  obtain ⟨rfl, rfl⟩ := hpo
  refine W.widen (k := 0) (n := 0) (Nat.le_of_ble_eq_true rfl) (Nat.le_of_ble_eq_true rfl) ?_
  refine mb_if_ne (tgt := 46) hB dX11_recolour_37 (by decide) (fun h => by rw [decide_eq_false hs0] at h; cases h) (fun h_37 => ?_)
  refine lv_aload_n hx hb dX11_recolour_40 rfl (lv_at hl 0 rfl) ?_
  refine lv_iconst (v := nI 2) hx hb dX11_recolour_41 (by decide) ?_
  refine cl_X11_81 (As := [.int (nI 2)]) (rest := []) hB (c_X11_fails l g H r zq zsp zrm zst zsl zsv ztx zln (nI 0) zsg zbg zwd zhg zin zop zbe zwi zhi zbk zot zer zen zpo zpi zgr zsh zsn (nI 2) hR) hR.o rfl hl.1 (Nat.le_of_ble_eq_true rfl) dX11_recolour_42 ⟨Nat.le_of_ble_eq_true rfl, Nat.le_of_ble_eq_true rfl⟩ ⟨Nat.le_of_ble_eq_true rfl, Nat.le_of_ble_eq_true rfl⟩ hS (by have hz9 := hS.1; rintro q (h | h) <;> first | exact Or.inr (by omega) | exact h.elim | exact Or.inl h | (simp only [ftA] at h ⊢; omega)) (fun v H1 locs hpo hfr hS => ?_)
  obtain ⟨rfl, hR⟩ := hpo
  generalize H1 = H at hfr hS hR ⊢
  refine W.widen (k := 0) (n := 0) (Nat.le_of_ble_eq_true rfl) (Nat.le_of_ble_eq_true rfl) ?_
  refine mh_iret hB ⟨Nat.le_of_ble_eq_true rfl, Nat.le_of_ble_eq_true rfl⟩ hS dX11_recolour_45 ⟨?_, ?_⟩
  · rfl
  · exact hR

def rm_c_X11_seamsOf : Room := { frames := 2, cells := 0, slots := 0, locals := 43 }
set_option maxRecDepth 100000 in
set_option maxHeartbeats 400000 in
theorem c_X11_seamsOf (l : Launch) (g : GG) (H0 : Heap) (r : Nat) (zq : Nat → Int32) (zsp : Nat → Int32) (zrm : Nat → Int32) (zst : Int32) (zsl : Nat → Int32) (zsv : Nat → Int32) (ztx : Nat → Int32) (zln : Int32) (zth : Int32) (zsg : Nat → Int32) (zbg : Nat → Int32) (zwd : Nat → Int32) (zhg : Nat → Int32) (zin : Nat → Int32) (zop : Int32) (zbe : Int32) (zwi : Int32) (zhi : Int32) (zbk : Nat → Int32) (zot : Nat → Int32) (zer : Int32) (zen : Int32) (zpo : Nat → Int32) (zpi : Int32) (zgr : Int32) (zsh : Nat → Int32) (zsn : Int32) (f : Nat) (hR : ModAt g r zq zsp zrm zst zsl zsv ztx zln zth zsg zbg zwd zhg zin zop zbe zwi zhi zbk zot zer zen zpo zpi zgr zsh zsn H0) (hf : f < 3) (hF : WFf zq f) : Ct l yX11_seamsOf cX11_seamsOf 5 (some .int) rm_c_X11_seamsOf g [.ref r, .int (nI f)] H0 (ftA (fun _ => False) H0.size) (fun v H1 => v = some (.int (nI (seamN (wdF zq f) (szF zq f) (clF zq f) (szF zq f)))) ∧ H0 = H1) := by
  refine Ct.of (by decide) (fun _ h => Or.inr h) (Nat.le_of_ble_eq_true rfl) ?_
  intro p e s m below meth c ls hB hin hS hH hl
  have hx := hB.x
  have hb := hB.b
  have hl : lv_has ls 5 [(0, .ref r), (1, .int (nI f))] := hl
  have hsz := WF.sz hF
  have hw16 := hF.w16
  have hw0 : 0 < szF zq f → 0 < wdF zq f := fun z9 => (WF.szw hF z9).1
  refine lv_aload_n hx hb dX11_seamsOf_0 rfl (lv_at hl 0 rfl) ?_
  refine gf_X11_7 hB hR.o rfl dX11_seamsOf_1 ?_
  refine lv_iload_n hx hb dX11_seamsOf_4 rfl (lv_at hl 1 rfl) ?_
  refine lv_iconst (v := nI 0) hx hb dX11_seamsOf_5 (by decide) ?_
  refine cl_X11_71 (As := [.int (nI f), .int (nI 0)]) (rest := [.ref (r + 1)]) hB (c_X11_at l g H0 f 0) rfl hl.1 (Nat.le_of_ble_eq_true rfl) dX11_seamsOf_6 ⟨Nat.le_of_ble_eq_true rfl, Nat.le_of_ble_eq_true rfl⟩ ⟨Nat.le_of_ble_eq_true rfl, Nat.le_of_ble_eq_true rfl⟩ hS (by have hz9 := hS.1; rintro q (h | h) <;> first | exact Or.inr (by omega) | exact h.elim | exact Or.inl h | (simp only [ftA] at h ⊢; omega)) (fun v H1 locs hpo hfr hS => ?_)
  obtain ⟨rfl, rfl⟩ := hpo
  refine W.widen (k := 0) (n := 0) (Nat.le_of_ble_eq_true rfl) (Nat.le_of_ble_eq_true rfl) ?_
  refine mn_iald hB hR.a_zq (by omega) (by omega) dX11_seamsOf_9 ?_
  refine mh_top (y := .int (nI (wdF zq f))) (by rw [hF.w]) ?_
  refine lv_istore_n (lv' := [(2, .int (nI (wdF zq f))), (0, .ref r), (1, .int (nI f))]) hx hb dX11_seamsOf_10 rfl hl (by decide) rfl (fun ls hl => ?_)
  refine lv_iconst (v := nI 0) hx hb dX11_seamsOf_11 (by decide) ?_
  refine lv_istore_n (lv' := [(3, .int (nI 0)), (2, .int (nI (wdF zq f))), (0, .ref r), (1, .int (nI f))]) hx hb dX11_seamsOf_12 rfl hl (by decide) rfl (fun ls hl => ?_)
  refine lv_iconst (v := nI 0) hx hb dX11_seamsOf_13 (by decide) ?_
  refine lv_istore (lv' := [(4, .int (nI 0)), (3, .int (nI 0)), (2, .int (nI (wdF zq f))), (0, .ref r), (1, .int (nI f))]) hx hb dX11_seamsOf_14 hl (by decide) rfl (fun ls hl => ?_)
  refine mh_loopR (σ := Nat) (fun xx9 locs ls => match xx9 with | i9 => i9 ≤ szF zq f ∧ va_S (ftA (fun _ => False) H0.size) H0 H0 locs ∧ lv_has ls 5 [(0, .ref r), (1, .int (nI f)), (2, .int (nI (wdF zq f))), (3, .int (nI (seamN (wdF zq f) (szF zq f) (clF zq f) i9))), (4, .int (nI i9))]) (fun xx9 => match xx9 with | i9 => szF zq f - i9) ?_ 0 ⟨(by omega), hS, lv_sub hl [3, 4, 2, 1, 0] rfl⟩
  rintro i9 locs ls ⟨hi9, hS, hl⟩ ih
  have ih16 := ih
  refine lv_iload hx hb dX11_seamsOf_16 (lv_at hl 4 rfl) ?_
  refine lv_aload_n hx hb dX11_seamsOf_18 rfl (lv_at hl 0 rfl) ?_
  refine lv_iload_n hx hb dX11_seamsOf_19 rfl (lv_at hl 1 rfl) ?_
  refine cl_X11_75 (As := [.int (nI f)]) (rest := [.int (nI i9)]) hB (c_X11_patches l g H0 r zq zsp zrm zst zsl zsv ztx zln zth zsg zbg zwd zhg zin zop zbe zwi zhi zbk zot zer zen zpo zpi zgr zsh zsn f hR (by omega) (by omega)) hR.o rfl hl.1 (Nat.le_of_ble_eq_true rfl) dX11_seamsOf_20 ⟨Nat.le_of_ble_eq_true rfl, Nat.le_of_ble_eq_true rfl⟩ ⟨Nat.le_of_ble_eq_true rfl, Nat.le_of_ble_eq_true rfl⟩ hS (by have hz9 := hS.1; rintro q (h | h) <;> first | exact Or.inr (by omega) | exact h.elim | exact Or.inl h | (simp only [ftA] at h ⊢; omega)) (fun v H1 locs hpo hfr hS => ?_)
  obtain ⟨rfl, rfl⟩ := hpo
  refine W.widen (k := 0) (n := 0) (Nat.le_of_ble_eq_true rfl) (Nat.le_of_ble_eq_true rfl) ?_
  refine mn_icmp_ge (tgt := 108) hB dX11_seamsOf_23 (by decide) (by omega) (by omega) (fun h_23 => ?_) (fun h_23 => ?_)
  · skip
    have hin9 : i9 = szF zq f := by omega
    subst hin9
    refine lv_iload_n hx hb dX11_seamsOf_108 rfl (lv_at hl 3 rfl) ?_
    refine mh_iret hB ⟨Nat.le_of_ble_eq_true rfl, Nat.le_of_ble_eq_true rfl⟩ hS dX11_seamsOf_109 ⟨?_, rfl⟩
    · rfl
  · skip
    have hwp := hw0 (by omega)
    have hc1 := hF.c6 (k := i9) (by omega)
    refine lv_iload_n hx hb dX11_seamsOf_26 rfl (lv_at hl 3 rfl) ?_
    refine lv_iload hx hb dX11_seamsOf_27 (lv_at hl 4 rfl) ?_
    refine lv_iload_n hx hb dX11_seamsOf_29 rfl (lv_at hl 2 rfl) ?_
    refine mn_irem hB dX11_seamsOf_30 (by omega) (by omega) (by omega) ?_
    refine lv_iload_n hx hb dX11_seamsOf_31 rfl (lv_at hl 2 rfl) ?_
    refine lv_iconst (v := nI 1) hx hb dX11_seamsOf_32 (by decide) ?_
    refine mn_isub hB dX11_seamsOf_33 (by omega) ?_
    refine mn_icmp_ge (tgt := 60) hB dX11_seamsOf_34 (by decide) (by have := Nat.mod_lt i9 hwp; omega) (by omega) (fun h_34 => ?_) (fun h_34 => ?_)
    · skip
      refine lv_iconst (v := nI 0) hx hb dX11_seamsOf_60 (by decide) ?_
      refine mn_iadd hB dX11_seamsOf_61 ?_
      refine mh_top (y := .int (nI (seamN (wdF zq f) (szF zq f) (clF zq f) i9 + (if i9 % wdF zq f < wdF zq f - 1 ∧ ¬ clF zq f i9 = clF zq f (i9 + 1) then 1 else 0)))) (by split <;> first | rfl | (exfalso; omega)) ?_
      refine lv_istore_n (lv' := [(3, .int (nI (seamN (wdF zq f) (szF zq f) (clF zq f) i9 + (if i9 % wdF zq f < wdF zq f - 1 ∧ ¬ clF zq f i9 = clF zq f (i9 + 1) then 1 else 0)))), (0, .ref r), (1, .int (nI f)), (2, .int (nI (wdF zq f))), (4, .int (nI i9))]) hx hb dX11_seamsOf_62 rfl hl (by decide) rfl (fun ls hl => ?_)
      refine lv_iload_n hx hb dX11_seamsOf_63 rfl (lv_at hl 0 rfl) ?_
      refine lv_iload hx hb dX11_seamsOf_64 (lv_at hl 4 rfl) ?_
      refine lv_iload_n hx hb dX11_seamsOf_66 rfl (lv_at hl 3 rfl) ?_
      refine mn_iadd hB dX11_seamsOf_67 ?_
      refine lv_aload_n hx hb dX11_seamsOf_68 rfl (lv_at hl 1 rfl) ?_
      refine lv_iload_n hx hb dX11_seamsOf_69 rfl (lv_at hl 2 rfl) ?_
      refine cl_X11_75 (As := [.int (nI f)]) (rest := [.int (nI (i9 + (wdF zq f))), .int (nI (seamN (wdF zq f) (szF zq f) (clF zq f) i9 + (if i9 % wdF zq f < wdF zq f - 1 ∧ ¬ clF zq f i9 = clF zq f (i9 + 1) then 1 else 0)))]) hB (c_X11_patches l g H0 r zq zsp zrm zst zsl zsv ztx zln zth zsg zbg zwd zhg zin zop zbe zwi zhi zbk zot zer zen zpo zpi zgr zsh zsn f hR (by omega) (by omega)) hR.o rfl hl.1 (Nat.le_of_ble_eq_true rfl) dX11_seamsOf_70 ⟨Nat.le_of_ble_eq_true rfl, Nat.le_of_ble_eq_true rfl⟩ ⟨Nat.le_of_ble_eq_true rfl, Nat.le_of_ble_eq_true rfl⟩ hS (by have hz9 := hS.1; rintro q (h | h) <;> first | exact Or.inr (by omega) | exact h.elim | exact Or.inl h | (simp only [ftA] at h ⊢; omega)) (fun v H1 locs hpo hfr hS => ?_)
      obtain ⟨rfl, rfl⟩ := hpo
      refine W.widen (k := 0) (n := 0) (Nat.le_of_ble_eq_true rfl) (Nat.le_of_ble_eq_true rfl) ?_
      refine mn_icmp_ge (tgt := 99) hB dX11_seamsOf_73 (by decide) (by omega) (by omega) (fun h_73 => ?_) (fun h_73 => ?_)
      · skip
        refine lv_iconst (v := nI 0) hx hb dX11_seamsOf_99 (by decide) ?_
        refine mn_iadd hB dX11_seamsOf_100 ?_
        refine mh_top (y := .int (nI (seamN (wdF zq f) (szF zq f) (clF zq f) (i9 + 1)))) (by simp only [seamN]; (repeat' split) <;> first | rfl | (exfalso; omega)) ?_
        refine lv_istore_n (lv' := [(3, .int (nI (seamN (wdF zq f) (szF zq f) (clF zq f) (i9 + 1)))), (0, .ref r), (1, .int (nI f)), (2, .int (nI (wdF zq f))), (4, .int (nI i9))]) hx hb dX11_seamsOf_101 rfl hl (by decide) rfl (fun ls hl => ?_)
        refine lv_iinc (v := nI (i9 + 1)) (lv' := [(4, .int (nI (i9 + 1))), (3, .int (nI (seamN (wdF zq f) (szF zq f) (clF zq f) (i9 + 1)))), (0, .ref r), (1, .int (nI f)), (2, .int (nI (wdF zq f)))]) hx hb dX11_seamsOf_102 hl (k := 4) rfl (nI_1 _) (by decide) rfl (fun ls hl => ?_)
        refine lv_goto (tgt := 16) hx hb dX11_seamsOf_105 (by decide) ?_
        refine ih16 (i9 + 1) _ _ ⟨(by omega), hS, lv_sub hl [2, 3, 4, 1, 0] rfl⟩ (by dsimp only; omega)
      · skip
        refine lv_aload_n hx hb dX11_seamsOf_76 rfl (lv_at hl 1 rfl) ?_
        refine lv_iload_n hx hb dX11_seamsOf_77 rfl (lv_at hl 2 rfl) ?_
        refine lv_iload hx hb dX11_seamsOf_78 (lv_at hl 4 rfl) ?_
        refine cl_X11_150 (As := [.int (nI f), .int (nI i9)]) (rest := [.int (nI (seamN (wdF zq f) (szF zq f) (clF zq f) i9 + (if i9 % wdF zq f < wdF zq f - 1 ∧ ¬ clF zq f i9 = clF zq f (i9 + 1) then 1 else 0)))]) hB (c_X11_colourAt l g H0 r zq zsp zrm zst zsl zsv ztx zln zth zsg zbg zwd zhg zin zop zbe zwi zhi zbk zot zer zen zpo zpi zgr zsh zsn f i9 hR (by omega) (by omega) (by omega)) hR.o rfl hl.1 (Nat.le_of_ble_eq_true rfl) dX11_seamsOf_80 ⟨Nat.le_of_ble_eq_true rfl, Nat.le_of_ble_eq_true rfl⟩ ⟨Nat.le_of_ble_eq_true rfl, Nat.le_of_ble_eq_true rfl⟩ hS (by have hz9 := hS.1; rintro q (h | h) <;> first | exact Or.inr (by omega) | exact h.elim | exact Or.inl h | (simp only [ftA] at h ⊢; omega)) (fun v H1 locs hpo hfr hS => ?_)
        obtain ⟨rfl, rfl⟩ := hpo
        refine W.widen (k := 0) (n := 0) (Nat.le_of_ble_eq_true rfl) (Nat.le_of_ble_eq_true rfl) ?_
        refine lv_aload_n hx hb dX11_seamsOf_83 rfl (lv_at hl 1 rfl) ?_
        refine lv_iload_n hx hb dX11_seamsOf_84 rfl (lv_at hl 2 rfl) ?_
        refine lv_iload hx hb dX11_seamsOf_85 (lv_at hl 4 rfl) ?_
        refine lv_iload_n hx hb dX11_seamsOf_87 rfl (lv_at hl 3 rfl) ?_
        refine mn_iadd hB dX11_seamsOf_88 ?_
        refine cl_X11_150 (As := [.int (nI f), .int (nI (i9 + (wdF zq f)))]) (rest := [.int (nI (clF zq f i9)), .int (nI (seamN (wdF zq f) (szF zq f) (clF zq f) i9 + (if i9 % wdF zq f < wdF zq f - 1 ∧ ¬ clF zq f i9 = clF zq f (i9 + 1) then 1 else 0)))]) hB (c_X11_colourAt l g H0 r zq zsp zrm zst zsl zsv ztx zln zth zsg zbg zwd zhg zin zop zbe zwi zhi zbk zot zer zen zpo zpi zgr zsh zsn f (i9 + (wdF zq f)) hR (by omega) (by omega) (by omega)) hR.o rfl hl.1 (Nat.le_of_ble_eq_true rfl) dX11_seamsOf_89 ⟨Nat.le_of_ble_eq_true rfl, Nat.le_of_ble_eq_true rfl⟩ ⟨Nat.le_of_ble_eq_true rfl, Nat.le_of_ble_eq_true rfl⟩ hS (by have hz9 := hS.1; rintro q (h | h) <;> first | exact Or.inr (by omega) | exact h.elim | exact Or.inl h | (simp only [ftA] at h ⊢; omega)) (fun v H1 locs hpo hfr hS => ?_)
        obtain ⟨rfl, rfl⟩ := hpo
        refine W.widen (k := 0) (n := 0) (Nat.le_of_ble_eq_true rfl) (Nat.le_of_ble_eq_true rfl) ?_
        have hc3 := hF.c6 (k := i9 + wdF zq f) (by omega)
        refine mn_icmp_eq (tgt := 99) hB dX11_seamsOf_92 (by decide) (by omega) (by omega) (fun h_92 => ?_) (fun h_92 => ?_)
        · skip
          refine lv_iconst (v := nI 0) hx hb dX11_seamsOf_99 (by decide) ?_
          refine mn_iadd hB dX11_seamsOf_100 ?_
          refine mh_top (y := .int (nI (seamN (wdF zq f) (szF zq f) (clF zq f) (i9 + 1)))) (by simp only [seamN]; (repeat' split) <;> first | rfl | (exfalso; omega)) ?_
          refine lv_istore_n (lv' := [(3, .int (nI (seamN (wdF zq f) (szF zq f) (clF zq f) (i9 + 1)))), (0, .ref r), (1, .int (nI f)), (2, .int (nI (wdF zq f))), (4, .int (nI i9))]) hx hb dX11_seamsOf_101 rfl hl (by decide) rfl (fun ls hl => ?_)
          refine lv_iinc (v := nI (i9 + 1)) (lv' := [(4, .int (nI (i9 + 1))), (3, .int (nI (seamN (wdF zq f) (szF zq f) (clF zq f) (i9 + 1)))), (0, .ref r), (1, .int (nI f)), (2, .int (nI (wdF zq f)))]) hx hb dX11_seamsOf_102 hl (k := 4) rfl (nI_1 _) (by decide) rfl (fun ls hl => ?_)
          refine lv_goto (tgt := 16) hx hb dX11_seamsOf_105 (by decide) ?_
          refine ih16 (i9 + 1) _ _ ⟨(by omega), hS, lv_sub hl [2, 3, 4, 1, 0] rfl⟩ (by dsimp only; omega)
        · skip
          refine lv_iconst (v := nI 1) hx hb dX11_seamsOf_95 (by decide) ?_
          refine lv_goto (tgt := 100) hx hb dX11_seamsOf_96 (by decide) ?_
          refine mn_iadd hB dX11_seamsOf_100 ?_
          refine mh_top (y := .int (nI (seamN (wdF zq f) (szF zq f) (clF zq f) (i9 + 1)))) (by simp only [seamN]; (repeat' split) <;> first | rfl | (exfalso; omega)) ?_
          refine lv_istore_n (lv' := [(3, .int (nI (seamN (wdF zq f) (szF zq f) (clF zq f) (i9 + 1)))), (0, .ref r), (1, .int (nI f)), (2, .int (nI (wdF zq f))), (4, .int (nI i9))]) hx hb dX11_seamsOf_101 rfl hl (by decide) rfl (fun ls hl => ?_)
          refine lv_iinc (v := nI (i9 + 1)) (lv' := [(4, .int (nI (i9 + 1))), (3, .int (nI (seamN (wdF zq f) (szF zq f) (clF zq f) (i9 + 1)))), (0, .ref r), (1, .int (nI f)), (2, .int (nI (wdF zq f)))]) hx hb dX11_seamsOf_102 hl (k := 4) rfl (nI_1 _) (by decide) rfl (fun ls hl => ?_)
          refine lv_goto (tgt := 16) hx hb dX11_seamsOf_105 (by decide) ?_
          refine ih16 (i9 + 1) _ _ ⟨(by omega), hS, lv_sub hl [2, 3, 4, 1, 0] rfl⟩ (by dsimp only; omega)
    · skip
      refine lv_aload_n hx hb dX11_seamsOf_37 rfl (lv_at hl 0 rfl) ?_
      refine lv_iload_n hx hb dX11_seamsOf_38 rfl (lv_at hl 1 rfl) ?_
      refine lv_iload hx hb dX11_seamsOf_39 (lv_at hl 4 rfl) ?_
      refine cl_X11_150 (As := [.int (nI f), .int (nI i9)]) (rest := [.int (nI (seamN (wdF zq f) (szF zq f) (clF zq f) i9))]) hB (c_X11_colourAt l g H0 r zq zsp zrm zst zsl zsv ztx zln zth zsg zbg zwd zhg zin zop zbe zwi zhi zbk zot zer zen zpo zpi zgr zsh zsn f i9 hR (by omega) (by omega) (by omega)) hR.o rfl hl.1 (Nat.le_of_ble_eq_true rfl) dX11_seamsOf_41 ⟨Nat.le_of_ble_eq_true rfl, Nat.le_of_ble_eq_true rfl⟩ ⟨Nat.le_of_ble_eq_true rfl, Nat.le_of_ble_eq_true rfl⟩ hS (by have hz9 := hS.1; rintro q (h | h) <;> first | exact Or.inr (by omega) | exact h.elim | exact Or.inl h | (simp only [ftA] at h ⊢; omega)) (fun v H1 locs hpo hfr hS => ?_)
      obtain ⟨rfl, rfl⟩ := hpo
      refine W.widen (k := 0) (n := 0) (Nat.le_of_ble_eq_true rfl) (Nat.le_of_ble_eq_true rfl) ?_
      refine lv_aload_n hx hb dX11_seamsOf_44 rfl (lv_at hl 0 rfl) ?_
      refine lv_iload_n hx hb dX11_seamsOf_45 rfl (lv_at hl 1 rfl) ?_
      refine lv_iload hx hb dX11_seamsOf_46 (lv_at hl 4 rfl) ?_
      refine lv_iconst (v := nI 1) hx hb dX11_seamsOf_48 (by decide) ?_
      refine mn_iadd hB dX11_seamsOf_49 ?_
      refine cl_X11_150 (As := [.int (nI f), .int (nI (i9 + 1))]) (rest := [.int (nI (clF zq f i9)), .int (nI (seamN (wdF zq f) (szF zq f) (clF zq f) i9))]) hB (c_X11_colourAt l g H0 r zq zsp zrm zst zsl zsv ztx zln zth zsg zbg zwd zhg zin zop zbe zwi zhi zbk zot zer zen zpo zpi zgr zsh zsn f (i9 + 1) hR (by omega) (by omega) (by have hz9 := seam_in (k := i9) (h := htF zq f) (by first | exact h_23 | (show i9 < szF zq f; omega)) h_34; have : wdF zq f * htF zq f ≤ 256 := hsz; omega)) hR.o rfl hl.1 (Nat.le_of_ble_eq_true rfl) dX11_seamsOf_50 ⟨Nat.le_of_ble_eq_true rfl, Nat.le_of_ble_eq_true rfl⟩ ⟨Nat.le_of_ble_eq_true rfl, Nat.le_of_ble_eq_true rfl⟩ hS (by have hz9 := hS.1; rintro q (h | h) <;> first | exact Or.inr (by omega) | exact h.elim | exact Or.inl h | (simp only [ftA] at h ⊢; omega)) (fun v H1 locs hpo hfr hS => ?_)
      obtain ⟨rfl, rfl⟩ := hpo
      refine W.widen (k := 0) (n := 0) (Nat.le_of_ble_eq_true rfl) (Nat.le_of_ble_eq_true rfl) ?_
      have hc2 := hF.c6 (k := i9 + 1) (by have hz9 := seam_in (k := i9) (h := htF zq f) (by show i9 < szF zq f; omega) h_34; have : wdF zq f * htF zq f ≤ 256 := hsz; omega)
      refine mn_icmp_eq (tgt := 60) hB dX11_seamsOf_53 (by decide) (by omega) (by omega) (fun h_53 => ?_) (fun h_53 => ?_)
      · skip
        refine lv_iconst (v := nI 0) hx hb dX11_seamsOf_60 (by decide) ?_
        refine mn_iadd hB dX11_seamsOf_61 ?_
        refine mh_top (y := .int (nI (seamN (wdF zq f) (szF zq f) (clF zq f) i9 + (if i9 % wdF zq f < wdF zq f - 1 ∧ ¬ clF zq f i9 = clF zq f (i9 + 1) then 1 else 0)))) (by split <;> first | rfl | (exfalso; omega)) ?_
        refine lv_istore_n (lv' := [(3, .int (nI (seamN (wdF zq f) (szF zq f) (clF zq f) i9 + (if i9 % wdF zq f < wdF zq f - 1 ∧ ¬ clF zq f i9 = clF zq f (i9 + 1) then 1 else 0)))), (0, .ref r), (1, .int (nI f)), (2, .int (nI (wdF zq f))), (4, .int (nI i9))]) hx hb dX11_seamsOf_62 rfl hl (by decide) rfl (fun ls hl => ?_)
        refine lv_iload_n hx hb dX11_seamsOf_63 rfl (lv_at hl 0 rfl) ?_
        refine lv_iload hx hb dX11_seamsOf_64 (lv_at hl 4 rfl) ?_
        refine lv_iload_n hx hb dX11_seamsOf_66 rfl (lv_at hl 3 rfl) ?_
        refine mn_iadd hB dX11_seamsOf_67 ?_
        refine lv_aload_n hx hb dX11_seamsOf_68 rfl (lv_at hl 1 rfl) ?_
        refine lv_iload_n hx hb dX11_seamsOf_69 rfl (lv_at hl 2 rfl) ?_
        refine cl_X11_75 (As := [.int (nI f)]) (rest := [.int (nI (i9 + (wdF zq f))), .int (nI (seamN (wdF zq f) (szF zq f) (clF zq f) i9 + (if i9 % wdF zq f < wdF zq f - 1 ∧ ¬ clF zq f i9 = clF zq f (i9 + 1) then 1 else 0)))]) hB (c_X11_patches l g H0 r zq zsp zrm zst zsl zsv ztx zln zth zsg zbg zwd zhg zin zop zbe zwi zhi zbk zot zer zen zpo zpi zgr zsh zsn f hR (by omega) (by omega)) hR.o rfl hl.1 (Nat.le_of_ble_eq_true rfl) dX11_seamsOf_70 ⟨Nat.le_of_ble_eq_true rfl, Nat.le_of_ble_eq_true rfl⟩ ⟨Nat.le_of_ble_eq_true rfl, Nat.le_of_ble_eq_true rfl⟩ hS (by have hz9 := hS.1; rintro q (h | h) <;> first | exact Or.inr (by omega) | exact h.elim | exact Or.inl h | (simp only [ftA] at h ⊢; omega)) (fun v H1 locs hpo hfr hS => ?_)
        obtain ⟨rfl, rfl⟩ := hpo
        refine W.widen (k := 0) (n := 0) (Nat.le_of_ble_eq_true rfl) (Nat.le_of_ble_eq_true rfl) ?_
        refine mn_icmp_ge (tgt := 99) hB dX11_seamsOf_73 (by decide) (by omega) (by omega) (fun h_73 => ?_) (fun h_73 => ?_)
        · skip
          refine lv_iconst (v := nI 0) hx hb dX11_seamsOf_99 (by decide) ?_
          refine mn_iadd hB dX11_seamsOf_100 ?_
          refine mh_top (y := .int (nI (seamN (wdF zq f) (szF zq f) (clF zq f) (i9 + 1)))) (by simp only [seamN]; (repeat' split) <;> first | rfl | (exfalso; omega)) ?_
          refine lv_istore_n (lv' := [(3, .int (nI (seamN (wdF zq f) (szF zq f) (clF zq f) (i9 + 1)))), (0, .ref r), (1, .int (nI f)), (2, .int (nI (wdF zq f))), (4, .int (nI i9))]) hx hb dX11_seamsOf_101 rfl hl (by decide) rfl (fun ls hl => ?_)
          refine lv_iinc (v := nI (i9 + 1)) (lv' := [(4, .int (nI (i9 + 1))), (3, .int (nI (seamN (wdF zq f) (szF zq f) (clF zq f) (i9 + 1)))), (0, .ref r), (1, .int (nI f)), (2, .int (nI (wdF zq f)))]) hx hb dX11_seamsOf_102 hl (k := 4) rfl (nI_1 _) (by decide) rfl (fun ls hl => ?_)
          refine lv_goto (tgt := 16) hx hb dX11_seamsOf_105 (by decide) ?_
          refine ih16 (i9 + 1) _ _ ⟨(by omega), hS, lv_sub hl [2, 3, 4, 1, 0] rfl⟩ (by dsimp only; omega)
        · skip
          refine lv_aload_n hx hb dX11_seamsOf_76 rfl (lv_at hl 1 rfl) ?_
          refine lv_iload_n hx hb dX11_seamsOf_77 rfl (lv_at hl 2 rfl) ?_
          refine lv_iload hx hb dX11_seamsOf_78 (lv_at hl 4 rfl) ?_
          refine cl_X11_150 (As := [.int (nI f), .int (nI i9)]) (rest := [.int (nI (seamN (wdF zq f) (szF zq f) (clF zq f) i9 + (if i9 % wdF zq f < wdF zq f - 1 ∧ ¬ clF zq f i9 = clF zq f (i9 + 1) then 1 else 0)))]) hB (c_X11_colourAt l g H0 r zq zsp zrm zst zsl zsv ztx zln zth zsg zbg zwd zhg zin zop zbe zwi zhi zbk zot zer zen zpo zpi zgr zsh zsn f i9 hR (by omega) (by omega) (by omega)) hR.o rfl hl.1 (Nat.le_of_ble_eq_true rfl) dX11_seamsOf_80 ⟨Nat.le_of_ble_eq_true rfl, Nat.le_of_ble_eq_true rfl⟩ ⟨Nat.le_of_ble_eq_true rfl, Nat.le_of_ble_eq_true rfl⟩ hS (by have hz9 := hS.1; rintro q (h | h) <;> first | exact Or.inr (by omega) | exact h.elim | exact Or.inl h | (simp only [ftA] at h ⊢; omega)) (fun v H1 locs hpo hfr hS => ?_)
          obtain ⟨rfl, rfl⟩ := hpo
          refine W.widen (k := 0) (n := 0) (Nat.le_of_ble_eq_true rfl) (Nat.le_of_ble_eq_true rfl) ?_
          refine lv_aload_n hx hb dX11_seamsOf_83 rfl (lv_at hl 1 rfl) ?_
          refine lv_iload_n hx hb dX11_seamsOf_84 rfl (lv_at hl 2 rfl) ?_
          refine lv_iload hx hb dX11_seamsOf_85 (lv_at hl 4 rfl) ?_
          refine lv_iload_n hx hb dX11_seamsOf_87 rfl (lv_at hl 3 rfl) ?_
          refine mn_iadd hB dX11_seamsOf_88 ?_
          refine cl_X11_150 (As := [.int (nI f), .int (nI (i9 + (wdF zq f)))]) (rest := [.int (nI (clF zq f i9)), .int (nI (seamN (wdF zq f) (szF zq f) (clF zq f) i9 + (if i9 % wdF zq f < wdF zq f - 1 ∧ ¬ clF zq f i9 = clF zq f (i9 + 1) then 1 else 0)))]) hB (c_X11_colourAt l g H0 r zq zsp zrm zst zsl zsv ztx zln zth zsg zbg zwd zhg zin zop zbe zwi zhi zbk zot zer zen zpo zpi zgr zsh zsn f (i9 + (wdF zq f)) hR (by omega) (by omega) (by omega)) hR.o rfl hl.1 (Nat.le_of_ble_eq_true rfl) dX11_seamsOf_89 ⟨Nat.le_of_ble_eq_true rfl, Nat.le_of_ble_eq_true rfl⟩ ⟨Nat.le_of_ble_eq_true rfl, Nat.le_of_ble_eq_true rfl⟩ hS (by have hz9 := hS.1; rintro q (h | h) <;> first | exact Or.inr (by omega) | exact h.elim | exact Or.inl h | (simp only [ftA] at h ⊢; omega)) (fun v H1 locs hpo hfr hS => ?_)
          obtain ⟨rfl, rfl⟩ := hpo
          refine W.widen (k := 0) (n := 0) (Nat.le_of_ble_eq_true rfl) (Nat.le_of_ble_eq_true rfl) ?_
          have hc3 := hF.c6 (k := i9 + wdF zq f) (by omega)
          refine mn_icmp_eq (tgt := 99) hB dX11_seamsOf_92 (by decide) (by omega) (by omega) (fun h_92 => ?_) (fun h_92 => ?_)
          · skip
            refine lv_iconst (v := nI 0) hx hb dX11_seamsOf_99 (by decide) ?_
            refine mn_iadd hB dX11_seamsOf_100 ?_
            refine mh_top (y := .int (nI (seamN (wdF zq f) (szF zq f) (clF zq f) (i9 + 1)))) (by simp only [seamN]; (repeat' split) <;> first | rfl | (exfalso; omega)) ?_
            refine lv_istore_n (lv' := [(3, .int (nI (seamN (wdF zq f) (szF zq f) (clF zq f) (i9 + 1)))), (0, .ref r), (1, .int (nI f)), (2, .int (nI (wdF zq f))), (4, .int (nI i9))]) hx hb dX11_seamsOf_101 rfl hl (by decide) rfl (fun ls hl => ?_)
            refine lv_iinc (v := nI (i9 + 1)) (lv' := [(4, .int (nI (i9 + 1))), (3, .int (nI (seamN (wdF zq f) (szF zq f) (clF zq f) (i9 + 1)))), (0, .ref r), (1, .int (nI f)), (2, .int (nI (wdF zq f)))]) hx hb dX11_seamsOf_102 hl (k := 4) rfl (nI_1 _) (by decide) rfl (fun ls hl => ?_)
            refine lv_goto (tgt := 16) hx hb dX11_seamsOf_105 (by decide) ?_
            refine ih16 (i9 + 1) _ _ ⟨(by omega), hS, lv_sub hl [2, 3, 4, 1, 0] rfl⟩ (by dsimp only; omega)
          · skip
            refine lv_iconst (v := nI 1) hx hb dX11_seamsOf_95 (by decide) ?_
            refine lv_goto (tgt := 100) hx hb dX11_seamsOf_96 (by decide) ?_
            refine mn_iadd hB dX11_seamsOf_100 ?_
            refine mh_top (y := .int (nI (seamN (wdF zq f) (szF zq f) (clF zq f) (i9 + 1)))) (by simp only [seamN]; (repeat' split) <;> first | rfl | (exfalso; omega)) ?_
            refine lv_istore_n (lv' := [(3, .int (nI (seamN (wdF zq f) (szF zq f) (clF zq f) (i9 + 1)))), (0, .ref r), (1, .int (nI f)), (2, .int (nI (wdF zq f))), (4, .int (nI i9))]) hx hb dX11_seamsOf_101 rfl hl (by decide) rfl (fun ls hl => ?_)
            refine lv_iinc (v := nI (i9 + 1)) (lv' := [(4, .int (nI (i9 + 1))), (3, .int (nI (seamN (wdF zq f) (szF zq f) (clF zq f) (i9 + 1)))), (0, .ref r), (1, .int (nI f)), (2, .int (nI (wdF zq f)))]) hx hb dX11_seamsOf_102 hl (k := 4) rfl (nI_1 _) (by decide) rfl (fun ls hl => ?_)
            refine lv_goto (tgt := 16) hx hb dX11_seamsOf_105 (by decide) ?_
            refine ih16 (i9 + 1) _ _ ⟨(by omega), hS, lv_sub hl [2, 3, 4, 1, 0] rfl⟩ (by dsimp only; omega)
      · skip
        refine lv_iconst (v := nI 1) hx hb dX11_seamsOf_56 (by decide) ?_
        refine lv_goto (tgt := 61) hx hb dX11_seamsOf_57 (by decide) ?_
        refine mn_iadd hB dX11_seamsOf_61 ?_
        refine mh_top (y := .int (nI (seamN (wdF zq f) (szF zq f) (clF zq f) i9 + (if i9 % wdF zq f < wdF zq f - 1 ∧ ¬ clF zq f i9 = clF zq f (i9 + 1) then 1 else 0)))) (by split <;> first | rfl | (exfalso; omega)) ?_
        refine lv_istore_n (lv' := [(3, .int (nI (seamN (wdF zq f) (szF zq f) (clF zq f) i9 + (if i9 % wdF zq f < wdF zq f - 1 ∧ ¬ clF zq f i9 = clF zq f (i9 + 1) then 1 else 0)))), (0, .ref r), (1, .int (nI f)), (2, .int (nI (wdF zq f))), (4, .int (nI i9))]) hx hb dX11_seamsOf_62 rfl hl (by decide) rfl (fun ls hl => ?_)
        refine lv_iload_n hx hb dX11_seamsOf_63 rfl (lv_at hl 0 rfl) ?_
        refine lv_iload hx hb dX11_seamsOf_64 (lv_at hl 4 rfl) ?_
        refine lv_iload_n hx hb dX11_seamsOf_66 rfl (lv_at hl 3 rfl) ?_
        refine mn_iadd hB dX11_seamsOf_67 ?_
        refine lv_aload_n hx hb dX11_seamsOf_68 rfl (lv_at hl 1 rfl) ?_
        refine lv_iload_n hx hb dX11_seamsOf_69 rfl (lv_at hl 2 rfl) ?_
        refine cl_X11_75 (As := [.int (nI f)]) (rest := [.int (nI (i9 + (wdF zq f))), .int (nI (seamN (wdF zq f) (szF zq f) (clF zq f) i9 + (if i9 % wdF zq f < wdF zq f - 1 ∧ ¬ clF zq f i9 = clF zq f (i9 + 1) then 1 else 0)))]) hB (c_X11_patches l g H0 r zq zsp zrm zst zsl zsv ztx zln zth zsg zbg zwd zhg zin zop zbe zwi zhi zbk zot zer zen zpo zpi zgr zsh zsn f hR (by omega) (by omega)) hR.o rfl hl.1 (Nat.le_of_ble_eq_true rfl) dX11_seamsOf_70 ⟨Nat.le_of_ble_eq_true rfl, Nat.le_of_ble_eq_true rfl⟩ ⟨Nat.le_of_ble_eq_true rfl, Nat.le_of_ble_eq_true rfl⟩ hS (by have hz9 := hS.1; rintro q (h | h) <;> first | exact Or.inr (by omega) | exact h.elim | exact Or.inl h | (simp only [ftA] at h ⊢; omega)) (fun v H1 locs hpo hfr hS => ?_)
        obtain ⟨rfl, rfl⟩ := hpo
        refine W.widen (k := 0) (n := 0) (Nat.le_of_ble_eq_true rfl) (Nat.le_of_ble_eq_true rfl) ?_
        refine mn_icmp_ge (tgt := 99) hB dX11_seamsOf_73 (by decide) (by omega) (by omega) (fun h_73 => ?_) (fun h_73 => ?_)
        · skip
          refine lv_iconst (v := nI 0) hx hb dX11_seamsOf_99 (by decide) ?_
          refine mn_iadd hB dX11_seamsOf_100 ?_
          refine mh_top (y := .int (nI (seamN (wdF zq f) (szF zq f) (clF zq f) (i9 + 1)))) (by simp only [seamN]; (repeat' split) <;> first | rfl | (exfalso; omega)) ?_
          refine lv_istore_n (lv' := [(3, .int (nI (seamN (wdF zq f) (szF zq f) (clF zq f) (i9 + 1)))), (0, .ref r), (1, .int (nI f)), (2, .int (nI (wdF zq f))), (4, .int (nI i9))]) hx hb dX11_seamsOf_101 rfl hl (by decide) rfl (fun ls hl => ?_)
          refine lv_iinc (v := nI (i9 + 1)) (lv' := [(4, .int (nI (i9 + 1))), (3, .int (nI (seamN (wdF zq f) (szF zq f) (clF zq f) (i9 + 1)))), (0, .ref r), (1, .int (nI f)), (2, .int (nI (wdF zq f)))]) hx hb dX11_seamsOf_102 hl (k := 4) rfl (nI_1 _) (by decide) rfl (fun ls hl => ?_)
          refine lv_goto (tgt := 16) hx hb dX11_seamsOf_105 (by decide) ?_
          refine ih16 (i9 + 1) _ _ ⟨(by omega), hS, lv_sub hl [2, 3, 4, 1, 0] rfl⟩ (by dsimp only; omega)
        · skip
          refine lv_aload_n hx hb dX11_seamsOf_76 rfl (lv_at hl 1 rfl) ?_
          refine lv_iload_n hx hb dX11_seamsOf_77 rfl (lv_at hl 2 rfl) ?_
          refine lv_iload hx hb dX11_seamsOf_78 (lv_at hl 4 rfl) ?_
          refine cl_X11_150 (As := [.int (nI f), .int (nI i9)]) (rest := [.int (nI (seamN (wdF zq f) (szF zq f) (clF zq f) i9 + (if i9 % wdF zq f < wdF zq f - 1 ∧ ¬ clF zq f i9 = clF zq f (i9 + 1) then 1 else 0)))]) hB (c_X11_colourAt l g H0 r zq zsp zrm zst zsl zsv ztx zln zth zsg zbg zwd zhg zin zop zbe zwi zhi zbk zot zer zen zpo zpi zgr zsh zsn f i9 hR (by omega) (by omega) (by omega)) hR.o rfl hl.1 (Nat.le_of_ble_eq_true rfl) dX11_seamsOf_80 ⟨Nat.le_of_ble_eq_true rfl, Nat.le_of_ble_eq_true rfl⟩ ⟨Nat.le_of_ble_eq_true rfl, Nat.le_of_ble_eq_true rfl⟩ hS (by have hz9 := hS.1; rintro q (h | h) <;> first | exact Or.inr (by omega) | exact h.elim | exact Or.inl h | (simp only [ftA] at h ⊢; omega)) (fun v H1 locs hpo hfr hS => ?_)
          obtain ⟨rfl, rfl⟩ := hpo
          refine W.widen (k := 0) (n := 0) (Nat.le_of_ble_eq_true rfl) (Nat.le_of_ble_eq_true rfl) ?_
          refine lv_aload_n hx hb dX11_seamsOf_83 rfl (lv_at hl 1 rfl) ?_
          refine lv_iload_n hx hb dX11_seamsOf_84 rfl (lv_at hl 2 rfl) ?_
          refine lv_iload hx hb dX11_seamsOf_85 (lv_at hl 4 rfl) ?_
          refine lv_iload_n hx hb dX11_seamsOf_87 rfl (lv_at hl 3 rfl) ?_
          refine mn_iadd hB dX11_seamsOf_88 ?_
          refine cl_X11_150 (As := [.int (nI f), .int (nI (i9 + (wdF zq f)))]) (rest := [.int (nI (clF zq f i9)), .int (nI (seamN (wdF zq f) (szF zq f) (clF zq f) i9 + (if i9 % wdF zq f < wdF zq f - 1 ∧ ¬ clF zq f i9 = clF zq f (i9 + 1) then 1 else 0)))]) hB (c_X11_colourAt l g H0 r zq zsp zrm zst zsl zsv ztx zln zth zsg zbg zwd zhg zin zop zbe zwi zhi zbk zot zer zen zpo zpi zgr zsh zsn f (i9 + (wdF zq f)) hR (by omega) (by omega) (by omega)) hR.o rfl hl.1 (Nat.le_of_ble_eq_true rfl) dX11_seamsOf_89 ⟨Nat.le_of_ble_eq_true rfl, Nat.le_of_ble_eq_true rfl⟩ ⟨Nat.le_of_ble_eq_true rfl, Nat.le_of_ble_eq_true rfl⟩ hS (by have hz9 := hS.1; rintro q (h | h) <;> first | exact Or.inr (by omega) | exact h.elim | exact Or.inl h | (simp only [ftA] at h ⊢; omega)) (fun v H1 locs hpo hfr hS => ?_)
          obtain ⟨rfl, rfl⟩ := hpo
          refine W.widen (k := 0) (n := 0) (Nat.le_of_ble_eq_true rfl) (Nat.le_of_ble_eq_true rfl) ?_
          have hc3 := hF.c6 (k := i9 + wdF zq f) (by omega)
          refine mn_icmp_eq (tgt := 99) hB dX11_seamsOf_92 (by decide) (by omega) (by omega) (fun h_92 => ?_) (fun h_92 => ?_)
          · skip
            refine lv_iconst (v := nI 0) hx hb dX11_seamsOf_99 (by decide) ?_
            refine mn_iadd hB dX11_seamsOf_100 ?_
            refine mh_top (y := .int (nI (seamN (wdF zq f) (szF zq f) (clF zq f) (i9 + 1)))) (by simp only [seamN]; (repeat' split) <;> first | rfl | (exfalso; omega)) ?_
            refine lv_istore_n (lv' := [(3, .int (nI (seamN (wdF zq f) (szF zq f) (clF zq f) (i9 + 1)))), (0, .ref r), (1, .int (nI f)), (2, .int (nI (wdF zq f))), (4, .int (nI i9))]) hx hb dX11_seamsOf_101 rfl hl (by decide) rfl (fun ls hl => ?_)
            refine lv_iinc (v := nI (i9 + 1)) (lv' := [(4, .int (nI (i9 + 1))), (3, .int (nI (seamN (wdF zq f) (szF zq f) (clF zq f) (i9 + 1)))), (0, .ref r), (1, .int (nI f)), (2, .int (nI (wdF zq f)))]) hx hb dX11_seamsOf_102 hl (k := 4) rfl (nI_1 _) (by decide) rfl (fun ls hl => ?_)
            refine lv_goto (tgt := 16) hx hb dX11_seamsOf_105 (by decide) ?_
            refine ih16 (i9 + 1) _ _ ⟨(by omega), hS, lv_sub hl [2, 3, 4, 1, 0] rfl⟩ (by dsimp only; omega)
          · skip
            refine lv_iconst (v := nI 1) hx hb dX11_seamsOf_95 (by decide) ?_
            refine lv_goto (tgt := 100) hx hb dX11_seamsOf_96 (by decide) ?_
            refine mn_iadd hB dX11_seamsOf_100 ?_
            refine mh_top (y := .int (nI (seamN (wdF zq f) (szF zq f) (clF zq f) (i9 + 1)))) (by simp only [seamN]; (repeat' split) <;> first | rfl | (exfalso; omega)) ?_
            refine lv_istore_n (lv' := [(3, .int (nI (seamN (wdF zq f) (szF zq f) (clF zq f) (i9 + 1)))), (0, .ref r), (1, .int (nI f)), (2, .int (nI (wdF zq f))), (4, .int (nI i9))]) hx hb dX11_seamsOf_101 rfl hl (by decide) rfl (fun ls hl => ?_)
            refine lv_iinc (v := nI (i9 + 1)) (lv' := [(4, .int (nI (i9 + 1))), (3, .int (nI (seamN (wdF zq f) (szF zq f) (clF zq f) (i9 + 1)))), (0, .ref r), (1, .int (nI f)), (2, .int (nI (wdF zq f)))]) hx hb dX11_seamsOf_102 hl (k := 4) rfl (nI_1 _) (by decide) rfl (fun ls hl => ?_)
            refine lv_goto (tgt := 16) hx hb dX11_seamsOf_105 (by decide) ?_
            refine ih16 (i9 + 1) _ _ ⟨(by omega), hS, lv_sub hl [2, 3, 4, 1, 0] rfl⟩ (by dsimp only; omega)
