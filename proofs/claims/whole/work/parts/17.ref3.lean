def rm_c_X11_remember_lt : Room := { frames := 0, cells := 0, slots := 0, locals := 0 }
set_option maxRecDepth 100000 in
set_option maxHeartbeats 400000 in
theorem c_X11_remember_lt (l : Launch) (g : GG) (H0 : Heap) (r : Nat) (zq : Nat → Int32) (zsp : Nat → Int32) (zrm : Nat → Int32) (zsl : Nat → Int32) (zsv : Nat → Int32) (ztx : Nat → Int32) (zln : Int32) (zth : Int32) (zsg : Nat → Int32) (zbg : Nat → Int32) (zwd : Nat → Int32) (zhg : Nat → Int32) (zin : Nat → Int32) (zop : Int32) (zbe : Int32) (zwi : Int32) (zhi : Int32) (zbk : Nat → Int32) (zot : Nat → Int32) (zer : Int32) (zen : Int32) (zpo : Nat → Int32) (zpi : Int32) (zgr : Int32) (zsh : Nat → Int32) (zsn : Int32) (n : Nat) (hR : ModAt g r zq zsp zrm (nI n) zsl zsv ztx zln zth zsg zbg zwd zhg zin zop zbe zwi zhi zbk zot zer zen zpo zpi zgr zsh zsn H0) (hn : n < 14) : Ct l yX11_remember cX11_remember 2 none rm_c_X11_remember_lt g [.ref r] H0 (ftA (fun q => r ≤ q ∧ q < r + 16) H0.size) (fun v H1 => v = none ∧ ModAt g r zq zsp (remU zrm n zq 866) (nI (n + 1)) zsl zsv ztx zln zth zsg zbg zwd zhg zin zop zbe zwi zhi zbk zot zer zen zpo zpi zgr zsh zsn H1) := by
  refine Ct.of (by decide) (fun _ h => Or.inr h) (Nat.le_of_ble_eq_true rfl) ?_
  intro p e s m below meth c ls hB hin hS hH hl
  have hx := hB.x
  have hb := hB.b
  have hl : lv_has ls 2 [(0, .ref r)] := hl
  refine lv_aload_n hx hb dX11_remember_0 rfl (lv_at hl 0 rfl) ?_
  refine gf_X11_60 hB hR.o rfl dX11_remember_1 ?_
  refine lv_bipush (v := nI 14) hx hb dX11_remember_4 (by decide) ?_
  refine mn_icmp_ne (tgt := 50) hB dX11_remember_6 (by decide) (by omega) (by omega) (fun h_6 => ?_) (fun h => by exfalso; omega)
  refine lv_iconst (v := nI 0) hx hb dX11_remember_50 (by decide) ?_
  refine lv_istore_n (lv' := [(1, .int (nI 0)), (0, .ref r)]) hx hb dX11_remember_51 rfl hl (by decide) rfl (fun ls hl => ?_)
  refine mh_loop (σ := Nat) (fun xx9 H locs ls => match xx9 with | i9 => i9 ≤ 866 ∧ ModAt g r zq zsp (remU zrm n zq i9) (nI n) zsl zsv ztx zln zth zsg zbg zwd zhg zin zop zbe zwi zhi zbk zot zer zen zpo zpi zgr zsh zsn H ∧ va_S (ftA (fun q => r ≤ q ∧ q < r + 16) H0.size) H0 H locs ∧ lv_has ls 2 [(0, .ref r), (1, .int (nI i9))]) (fun xx9 => match xx9 with | i9 => 866 - i9) ?_ 0 ⟨(by omega), (by rw [remU_0]; exact hR), hS, lv_sub hl [1, 0] rfl⟩
  rintro i9 H locs ls ⟨hi, hR, hS, hl⟩ ih
  have ih52 := ih
  refine lv_iload_n hx hb dX11_remember_52 rfl (lv_at hl 1 rfl) ?_
  refine lv_sipush (v := nI 866) hx hb dX11_remember_53 (by decide +kernel) ?_
  refine mn_icmp_ge (tgt := 86) hB dX11_remember_56 (by decide) (by omega) (by omega) (fun h_56 => ?_) (fun h_56 => ?_)
  · skip
    have hin : i9 = 866 := by omega
    subst hin
    refine lv_aload_n hx hb dX11_remember_86 rfl (lv_at hl 0 rfl) ?_
    refine lv_dup hx hb dX11_remember_87 rfl ?_
    refine gf_X11_60 hB hR.o rfl dX11_remember_88 ?_
    refine lv_iconst (v := nI 1) hx hb dX11_remember_91 (by decide) ?_
    refine mn_iadd hB dX11_remember_92 ?_
    refine pf_X11_60 hB hR.o (by first | exact Or.inl rfl | (simp only [ftA]; omega) | (simp [ftA]; omega)) hS rfl rfl (Nat.le_of_ble_eq_true rfl) dX11_remember_93 (fun H locs hwr => ?_)
    obtain ⟨hR, hS⟩ := hR.w_zst hwr
    refine mh_vret hB ⟨Nat.le_of_ble_eq_true rfl, Nat.le_of_ble_eq_true rfl⟩ hS dX11_remember_96 ⟨?_, ?_⟩
    · rfl
    · exact hR
  · skip
    refine lv_aload_n hx hb dX11_remember_59 rfl (lv_at hl 0 rfl) ?_
    refine gf_X11_16 hB hR.o rfl dX11_remember_60 ?_
    refine lv_sipush (v := nI 866) hx hb dX11_remember_63 (by decide +kernel) ?_
    refine lv_aload_n hx hb dX11_remember_66 rfl (lv_at hl 0 rfl) ?_
    refine gf_X11_60 hB hR.o rfl dX11_remember_67 ?_
    refine mn_imul hB dX11_remember_70 ?_
    refine lv_iload_n hx hb dX11_remember_71 rfl (lv_at hl 1 rfl) ?_
    refine mn_iadd hB dX11_remember_72 ?_
    refine lv_aload_n hx hb dX11_remember_73 rfl (lv_at hl 0 rfl) ?_
    refine gf_X11_7 hB hR.o rfl dX11_remember_74 ?_
    refine lv_iload_n hx hb dX11_remember_77 rfl (lv_at hl 1 rfl) ?_
    refine mn_iald hB hR.a_zq (by omega) (by omega) dX11_remember_78 ?_
    refine mn_iast hB hR.a_zrm (by first | exact Or.inl rfl | (simp only [ftA]; omega) | (simp [ftA]; omega)) hS (by omega) (by omega) dX11_remember_79 (fun H locs hwr => ?_)
    obtain ⟨hR, hS⟩ := hR.w_zrm hwr
    refine lv_iinc (v := nI (i9 + 1)) (lv' := [(1, .int (nI (i9 + 1))), (0, .ref r)]) hx hb dX11_remember_80 hl (k := 1) rfl (nI_1 _) (by decide) rfl (fun ls hl => ?_)
    refine lv_goto (tgt := 52) hx hb dX11_remember_83 (by decide) ?_
    refine ih52 (i9 + 1) _ _ _ ⟨(by omega), (by rw [← remU_up]; exact hR), hS, lv_sub hl [1, 0] rfl⟩ (by dsimp only; omega)

def rm_c_X11_remember_eq : Room := { frames := 0, cells := 0, slots := 0, locals := 0 }
set_option maxRecDepth 100000 in
set_option maxHeartbeats 400000 in
theorem c_X11_remember_eq (l : Launch) (g : GG) (H0 : Heap) (r : Nat) (zq : Nat → Int32) (zsp : Nat → Int32) (zrm : Nat → Int32) (zsl : Nat → Int32) (zsv : Nat → Int32) (ztx : Nat → Int32) (zln : Int32) (zth : Int32) (zsg : Nat → Int32) (zbg : Nat → Int32) (zwd : Nat → Int32) (zhg : Nat → Int32) (zin : Nat → Int32) (zop : Int32) (zbe : Int32) (zwi : Int32) (zhi : Int32) (zbk : Nat → Int32) (zot : Nat → Int32) (zer : Int32) (zen : Int32) (zpo : Nat → Int32) (zpi : Int32) (zgr : Int32) (zsh : Nat → Int32) (zsn : Int32) (hR : ModAt g r zq zsp zrm (nI 14) zsl zsv ztx zln zth zsg zbg zwd zhg zin zop zbe zwi zhi zbk zot zer zen zpo zpi zgr zsh zsn H0) : Ct l yX11_remember cX11_remember 2 none rm_c_X11_remember_eq g [.ref r] H0 (ftA (fun q => r ≤ q ∧ q < r + 16) H0.size) (fun v H1 => v = none ∧ ModAt g r zq zsp (remU (shfU zrm 11258) 13 zq 866) (nI 14) zsl zsv ztx zln zth zsg zbg zwd zhg zin zop zbe zwi zhi zbk zot zer zen zpo zpi zgr zsh zsn H1) := by
  refine Ct.of (by decide) (fun _ h => Or.inr h) (Nat.le_of_ble_eq_true rfl) ?_
  intro p e s m below meth c ls hB hin hS hH hl
  have hx := hB.x
  have hb := hB.b
  have hl : lv_has ls 2 [(0, .ref r)] := hl
  refine lv_aload_n hx hb dX11_remember_0 rfl (lv_at hl 0 rfl) ?_
  refine gf_X11_60 hB hR.o rfl dX11_remember_1 ?_
  refine lv_bipush (v := nI 14) hx hb dX11_remember_4 (by decide) ?_
  refine mn_icmp_ne (tgt := 50) hB dX11_remember_6 (by decide) (by omega) (by omega) (fun h => by exfalso; omega) (fun h_6 => ?_)
  refine lv_iconst (v := nI 0) hx hb dX11_remember_9 (by decide) ?_
  refine lv_istore_n (lv' := [(1, .int (nI 0)), (0, .ref r)]) hx hb dX11_remember_10 rfl hl (by decide) rfl (fun ls hl => ?_)
  refine mh_loop (σ := Nat) (fun xx9 H locs ls => match xx9 with | i9 => i9 ≤ 11258 ∧ ModAt g r zq zsp (shfU zrm i9) (nI 14) zsl zsv ztx zln zth zsg zbg zwd zhg zin zop zbe zwi zhi zbk zot zer zen zpo zpi zgr zsh zsn H ∧ va_S (ftA (fun q => r ≤ q ∧ q < r + 16) H0.size) H0 H locs ∧ lv_has ls 2 [(0, .ref r), (1, .int (nI i9))]) (fun xx9 => match xx9 with | i9 => 11258 - i9) ?_ 0 ⟨(by omega), (by rw [shfU_0]; exact hR), hS, lv_sub hl [1, 0] rfl⟩
  rintro i9 H locs ls ⟨hi, hR, hS, hl⟩ ih
  have ih11 := ih
  refine lv_iload_n hx hb dX11_remember_11 rfl (lv_at hl 1 rfl) ?_
  refine lv_sipush (v := nI 11258) hx hb dX11_remember_12 (by decide +kernel) ?_
  refine mn_icmp_ge (tgt := 40) hB dX11_remember_15 (by decide) (by omega) (by omega) (fun h_15 => ?_) (fun h_15 => ?_)
  · skip
    have hin : i9 = 11258 := by omega
    subst hin
    refine lv_aload_n hx hb dX11_remember_40 rfl (lv_at hl 0 rfl) ?_
    refine lv_dup hx hb dX11_remember_41 rfl ?_
    refine gf_X11_60 hB hR.o rfl dX11_remember_42 ?_
    refine lv_iconst (v := nI 1) hx hb dX11_remember_45 (by decide) ?_
    refine mn_isub hB dX11_remember_46 (by omega) ?_
    refine mh_top (y := .int (nI 13)) (rfl) ?_
    refine pf_X11_60 hB hR.o (by first | exact Or.inl rfl | (simp only [ftA]; omega) | (simp [ftA]; omega)) hS rfl rfl (Nat.le_of_ble_eq_true rfl) dX11_remember_47 (fun H locs hwr => ?_)
    obtain ⟨hR, hS⟩ := hR.w_zst hwr
    refine lv_iconst (v := nI 0) hx hb dX11_remember_50 (by decide) ?_
    refine lv_istore_n (lv' := [(1, .int (nI 0)), (0, .ref r)]) hx hb dX11_remember_51 rfl hl (by decide) rfl (fun ls hl => ?_)
    refine mh_loop (σ := Nat) (fun xx9 H locs ls => match xx9 with | i9 => i9 ≤ 866 ∧ ModAt g r zq zsp (remU (shfU zrm 11258) 13 zq i9) (nI 13) zsl zsv ztx zln zth zsg zbg zwd zhg zin zop zbe zwi zhi zbk zot zer zen zpo zpi zgr zsh zsn H ∧ va_S (ftA (fun q => r ≤ q ∧ q < r + 16) H0.size) H0 H locs ∧ lv_has ls 2 [(0, .ref r), (1, .int (nI i9))]) (fun xx9 => match xx9 with | i9 => 866 - i9) ?_ 0 ⟨(by omega), (by rw [remU_0]; exact hR), hS, lv_sub hl [1, 0] rfl⟩
    rintro i9 H locs ls ⟨hi, hR, hS, hl⟩ ih
    have ih52 := ih
    refine lv_iload_n hx hb dX11_remember_52 rfl (lv_at hl 1 rfl) ?_
    refine lv_sipush (v := nI 866) hx hb dX11_remember_53 (by decide +kernel) ?_
    refine mn_icmp_ge (tgt := 86) hB dX11_remember_56 (by decide) (by omega) (by omega) (fun h_56 => ?_) (fun h_56 => ?_)
    · skip
      have hin : i9 = 866 := by omega
      subst hin
      refine lv_aload_n hx hb dX11_remember_86 rfl (lv_at hl 0 rfl) ?_
      refine lv_dup hx hb dX11_remember_87 rfl ?_
      refine gf_X11_60 hB hR.o rfl dX11_remember_88 ?_
      refine lv_iconst (v := nI 1) hx hb dX11_remember_91 (by decide) ?_
      refine mn_iadd hB dX11_remember_92 ?_
      refine pf_X11_60 hB hR.o (by first | exact Or.inl rfl | (simp only [ftA]; omega) | (simp [ftA]; omega)) hS rfl rfl (Nat.le_of_ble_eq_true rfl) dX11_remember_93 (fun H locs hwr => ?_)
      obtain ⟨hR, hS⟩ := hR.w_zst hwr
      refine mh_vret hB ⟨Nat.le_of_ble_eq_true rfl, Nat.le_of_ble_eq_true rfl⟩ hS dX11_remember_96 ⟨?_, ?_⟩
      · rfl
      · exact hR
    · skip
      refine lv_aload_n hx hb dX11_remember_59 rfl (lv_at hl 0 rfl) ?_
      refine gf_X11_16 hB hR.o rfl dX11_remember_60 ?_
      refine lv_sipush (v := nI 866) hx hb dX11_remember_63 (by decide +kernel) ?_
      refine lv_aload_n hx hb dX11_remember_66 rfl (lv_at hl 0 rfl) ?_
      refine gf_X11_60 hB hR.o rfl dX11_remember_67 ?_
      refine mn_imul hB dX11_remember_70 ?_
      refine lv_iload_n hx hb dX11_remember_71 rfl (lv_at hl 1 rfl) ?_
      refine mn_iadd hB dX11_remember_72 ?_
      refine lv_aload_n hx hb dX11_remember_73 rfl (lv_at hl 0 rfl) ?_
      refine gf_X11_7 hB hR.o rfl dX11_remember_74 ?_
      refine lv_iload_n hx hb dX11_remember_77 rfl (lv_at hl 1 rfl) ?_
      refine mn_iald hB hR.a_zq (by omega) (by omega) dX11_remember_78 ?_
      refine mn_iast hB hR.a_zrm (by first | exact Or.inl rfl | (simp only [ftA]; omega) | (simp [ftA]; omega)) hS (by omega) (by omega) dX11_remember_79 (fun H locs hwr => ?_)
      obtain ⟨hR, hS⟩ := hR.w_zrm hwr
      refine lv_iinc (v := nI (i9 + 1)) (lv' := [(1, .int (nI (i9 + 1))), (0, .ref r)]) hx hb dX11_remember_80 hl (k := 1) rfl (nI_1 _) (by decide) rfl (fun ls hl => ?_)
      refine lv_goto (tgt := 52) hx hb dX11_remember_83 (by decide) ?_
      refine ih52 (i9 + 1) _ _ _ ⟨(by omega), (by rw [← remU_up]; exact hR), hS, lv_sub hl [1, 0] rfl⟩ (by dsimp only; omega)
  · skip
    refine lv_aload_n hx hb dX11_remember_18 rfl (lv_at hl 0 rfl) ?_
    refine gf_X11_16 hB hR.o rfl dX11_remember_19 ?_
    refine lv_iload_n hx hb dX11_remember_22 rfl (lv_at hl 1 rfl) ?_
    refine lv_aload_n hx hb dX11_remember_23 rfl (lv_at hl 0 rfl) ?_
    refine gf_X11_16 hB hR.o rfl dX11_remember_24 ?_
    refine lv_iload_n hx hb dX11_remember_27 rfl (lv_at hl 1 rfl) ?_
    refine lv_sipush (v := nI 866) hx hb dX11_remember_28 (by decide +kernel) ?_
    refine mn_iadd hB dX11_remember_31 ?_
    refine mn_iald hB hR.a_zrm (by omega) (by omega) dX11_remember_32 ?_
    refine mh_top (y := .int (zrm (i9 + 866))) (by rw [shfU_r]) ?_
    refine mn_iast hB hR.a_zrm (by first | exact Or.inl rfl | (simp only [ftA]; omega) | (simp [ftA]; omega)) hS (by omega) (by omega) dX11_remember_33 (fun H locs hwr => ?_)
    obtain ⟨hR, hS⟩ := hR.w_zrm hwr
    refine lv_iinc (v := nI (i9 + 1)) (lv' := [(1, .int (nI (i9 + 1))), (0, .ref r)]) hx hb dX11_remember_34 hl (k := 1) rfl (nI_1 _) (by decide) rfl (fun ls hl => ?_)
    refine lv_goto (tgt := 11) hx hb dX11_remember_37 (by decide) ?_
    refine ih11 (i9 + 1) _ _ _ ⟨(by omega), (by rw [← shfU_up]; exact hR), hS, lv_sub hl [1, 0] rfl⟩ (by dsimp only; omega)

theorem c_X11_remember (l : Launch) (g : GG) (H0 : Heap) (r : Nat) (zq : Nat → Int32) (zsp : Nat → Int32) (zrm : Nat → Int32) (zsl : Nat → Int32) (zsv : Nat → Int32) (ztx : Nat → Int32) (zln : Int32) (zth : Int32) (zsg : Nat → Int32) (zbg : Nat → Int32) (zwd : Nat → Int32) (zhg : Nat → Int32) (zin : Nat → Int32) (zop : Int32) (zbe : Int32) (zwi : Int32) (zhi : Int32) (zbk : Nat → Int32) (zot : Nat → Int32) (zer : Int32) (zen : Int32) (zpo : Nat → Int32) (zpi : Int32) (zgr : Int32) (zsh : Nat → Int32) (zsn : Int32) (n : Nat) (hR : ModAt g r zq zsp zrm (nI n) zsl zsv ztx zln zth zsg zbg zwd zhg zin zop zbe zwi zhi zbk zot zer zen zpo zpi zgr zsh zsn H0) (hn : n ≤ 14) : Ct l yX11_remember cX11_remember 2 none rm_c_X11_remember_lt g [.ref r] H0 (ftA (fun q => r ≤ q ∧ q < r + 16) H0.size) (fun v H1 => v = none ∧ ModAt g r zq zsp (remA zrm n zq) (nI (nxtS n)) zsl zsv ztx zln zth zsg zbg zwd zhg zin zop zbe zwi zhi zbk zot zer zen zpo zpi zgr zsh zsn H1) := by
  by_cases h : n < 14
  · have h1 := c_X11_remember_lt l g H0 r zq zsp zrm zsl zsv ztx zln zth zsg zbg zwd zhg zin zop zbe zwi zhi zbk zot zer zen zpo zpi zgr zsh zsn n hR h
    rw [show nxtS n = n + 1 from if_pos h, show remA zrm n zq = remU zrm n zq 866 from if_pos h]
    exact h1
  · have e : n = 14 := by omega
    subst e
    have h1 := c_X11_remember_eq l g H0 r zq zsp zrm zsl zsv ztx zln zth zsg zbg zwd zhg zin zop zbe zwi zhi zbk zot zer zen zpo zpi zgr zsh zsn hR
    rw [show nxtS 14 = 14 from rfl, show remA zrm 14 zq = remU (shfU zrm 11258) 13 zq 866 from rfl]
    exact h1

def rm_c_X11_addMember : Room := { frames := 1, cells := 0, slots := 0, locals := 21 }
set_option maxRecDepth 100000 in
set_option maxHeartbeats 400000 in
theorem c_X11_addMember (l : Launch) (g : GG) (H0 : Heap) (r : Nat) (zq : Nat → Int32) (zsp : Nat → Int32) (zrm : Nat → Int32) (zsl : Nat → Int32) (zsv : Nat → Int32) (ztx : Nat → Int32) (zln : Int32) (zth : Int32) (zsg : Nat → Int32) (zbg : Nat → Int32) (zwd : Nat → Int32) (zhg : Nat → Int32) (zin : Nat → Int32) (zop : Int32) (zbe : Int32) (zwi : Int32) (zhi : Int32) (zbk : Nat → Int32) (zot : Nat → Int32) (zer : Int32) (zen : Int32) (zpo : Nat → Int32) (zpi : Int32) (zgr : Int32) (zsh : Nat → Int32) (zsn : Int32) (n : Nat) (hR : ModAt g r zq zsp zrm (nI n) zsl zsv ztx zln zth zsg zbg zwd zhg zin zop zbe zwi zhi zbk zot zer zen zpo zpi zgr zsh zsn H0) (hn : n ≤ 14) (hW : WF zq) (h5 : nmQ zq < 5) : Ct l yX11_addMember cX11_addMember 1 (some .int) rm_c_X11_addMember g [.ref r] H0 (ftA (fun q => r ≤ q ∧ q < r + 16) H0.size) (fun v H1 => v = some (.int (nI (nmQ zq + 1 - 1))) ∧ ModAt g r (upd zq 0 (nI (nmQ zq + 1))) zsp (remA zrm n zq) (nI (nxtS n)) zsl zsv ztx zln (nI 0) zsg zbg zwd zhg zin zop zbe zwi zhi zbk zot zer zen zpo zpi zgr zsh zsn H1) := by
  refine Ct.of (by decide) (fun _ h => Or.inr h) (Nat.le_of_ble_eq_true rfl) ?_
  intro p e s m below meth c ls hB hin hS hH hl
  have hx := hB.x
  have hb := hB.b
  have hl : lv_has ls 1 [(0, .ref r)] := hl
  refine lv_aload_n hx hb dX11_addMember_0 rfl (lv_at hl 0 rfl) ?_
  refine lv_iconst (v := nI 0) hx hb dX11_addMember_1 (by decide) ?_
  refine pf_X11_56 hB hR.o (by first | exact Or.inl rfl | (simp only [ftA]; omega) | (simp [ftA]; omega)) hS rfl rfl (Nat.le_of_ble_eq_true rfl) dX11_addMember_2 (fun H locs hwr => ?_)
  obtain ⟨hR, hS⟩ := hR.w_zth hwr
  refine lv_aload_n hx hb dX11_addMember_5 rfl (lv_at hl 0 rfl) ?_
  refine gf_X11_7 hB hR.o rfl dX11_addMember_6 ?_
  refine lv_iconst (v := nI 0) hx hb dX11_addMember_9 (by decide) ?_
  refine mn_iald hB hR.a_zq (by omega) (by omega) dX11_addMember_10 ?_
  refine mh_top (y := .int (nI (nmQ zq))) (by rw [hW.1]) ?_
  refine lv_iconst (v := nI 5) hx hb dX11_addMember_11 (by decide) ?_
  refine mn_icmp_ne (tgt := 21) hB dX11_addMember_12 (by decide) (by omega) (by omega) (fun h_12 => ?_) (fun h => by exfalso; omega)
  refine lv_aload_n hx hb dX11_addMember_21 rfl (lv_at hl 0 rfl) ?_
  refine cl_X11_200 (As := []) (rest := []) hB (c_X11_remember l g H r zq zsp zrm zsl zsv ztx zln (nI 0) zsg zbg zwd zhg zin zop zbe zwi zhi zbk zot zer zen zpo zpi zgr zsh zsn n hR (by omega)) hR.o rfl hl.1 (Nat.le_of_ble_eq_true rfl) dX11_addMember_22 ⟨Nat.le_of_ble_eq_true rfl, Nat.le_of_ble_eq_true rfl⟩ ⟨Nat.le_of_ble_eq_true rfl, Nat.le_of_ble_eq_true rfl⟩ hS (by have hz9 := hS.1; rintro q (h | h) <;> first | exact Or.inr (by omega) | exact h.elim | exact Or.inl h | (simp only [ftA] at h ⊢; omega)) (fun v H1 locs hpo hfr hS => ?_)
  obtain ⟨rfl, hR⟩ := hpo
  generalize H1 = H at hfr hS hR ⊢
  refine W.widen (k := 0) (n := 0) (Nat.le_of_ble_eq_true rfl) (Nat.le_of_ble_eq_true rfl) ?_
  refine lv_aload_n hx hb dX11_addMember_25 rfl (lv_at hl 0 rfl) ?_
  refine gf_X11_7 hB hR.o rfl dX11_addMember_26 ?_
  refine lv_iconst (v := nI 0) hx hb dX11_addMember_29 (by decide) ?_
  refine lv_dup2_11 hx hb dX11_addMember_30 rfl rfl ?_
  refine mn_iald hB hR.a_zq (by omega) (by omega) dX11_addMember_31 ?_
  refine mh_top (y := .int (nI (nmQ zq))) (by rw [hW.1]) ?_
  refine lv_iconst (v := nI 1) hx hb dX11_addMember_32 (by decide) ?_
  refine mn_iadd hB dX11_addMember_33 ?_
  refine mn_iast hB hR.a_zq (by first | exact Or.inl rfl | (simp only [ftA]; omega) | (simp [ftA]; omega)) hS (by omega) (by omega) dX11_addMember_34 (fun H locs hwr => ?_)
  obtain ⟨hR, hS⟩ := hR.w_zq hwr
  refine lv_aload_n hx hb dX11_addMember_35 rfl (lv_at hl 0 rfl) ?_
  refine gf_X11_7 hB hR.o rfl dX11_addMember_36 ?_
  refine lv_iconst (v := nI 0) hx hb dX11_addMember_39 (by decide) ?_
  refine mn_iald hB hR.a_zq (by omega) (by omega) dX11_addMember_40 ?_
  refine mh_top (y := .int (nI (nmQ zq + 1))) (by rw [upd_s (α := Nat)]) ?_
  refine lv_iconst (v := nI 1) hx hb dX11_addMember_41 (by decide) ?_
  refine mn_isub hB dX11_addMember_42 (by omega) ?_
  refine mh_iret hB ⟨Nat.le_of_ble_eq_true rfl, Nat.le_of_ble_eq_true rfl⟩ hS dX11_addMember_43 ⟨?_, ?_⟩
  · rfl
  · exact hR

def rm_c_X11_addMember_t1 : Room := { frames := 1, cells := 0, slots := 0, locals := 21 }
set_option maxRecDepth 100000 in
set_option maxHeartbeats 400000 in
theorem c_X11_addMember_t1 (l : Launch) (g : GG) (H0 : Heap) (r : Nat) (zq : Nat → Int32) (zsp : Nat → Int32) (zrm : Nat → Int32) (zst : Int32) (zsl : Nat → Int32) (zsv : Nat → Int32) (ztx : Nat → Int32) (zln : Int32) (zth : Int32) (zsg : Nat → Int32) (zbg : Nat → Int32) (zwd : Nat → Int32) (zhg : Nat → Int32) (zin : Nat → Int32) (zop : Int32) (zbe : Int32) (zwi : Int32) (zhi : Int32) (zbk : Nat → Int32) (zot : Nat → Int32) (zer : Int32) (zen : Int32) (zpo : Nat → Int32) (zpi : Int32) (zgr : Int32) (zsh : Nat → Int32) (zsn : Int32) (hR : ModAt g r zq zsp zrm zst zsl zsv ztx zln zth zsg zbg zwd zhg zin zop zbe zwi zhi zbk zot zer zen zpo zpi zgr zsh zsn H0) (hW : WF zq) (h5 : nmQ zq = 5) : Ct l yX11_addMember cX11_addMember 1 (some .int) rm_c_X11_addMember_t1 g [.ref r] H0 (ftA (fun q => r ≤ q ∧ q < r + 16) H0.size) (fun v H1 => v = some (.int (nI 0)) ∧ ModAt g r zq zsp zrm zst zsl zsv ztx zln (nI 1) zsg zbg zwd zhg zin zop zbe zwi zhi zbk zot zer zen zpo zpi zgr zsh zsn H1) := by
  refine Ct.of (by decide) (fun _ h => Or.inr h) (Nat.le_of_ble_eq_true rfl) ?_
  intro p e s m below meth c ls hB hin hS hH hl
  have hx := hB.x
  have hb := hB.b
  have hl : lv_has ls 1 [(0, .ref r)] := hl
  refine lv_aload_n hx hb dX11_addMember_0 rfl (lv_at hl 0 rfl) ?_
  refine lv_iconst (v := nI 0) hx hb dX11_addMember_1 (by decide) ?_
  refine pf_X11_56 hB hR.o (by first | exact Or.inl rfl | (simp only [ftA]; omega) | (simp [ftA]; omega)) hS rfl rfl (Nat.le_of_ble_eq_true rfl) dX11_addMember_2 (fun H locs hwr => ?_)
  obtain ⟨hR, hS⟩ := hR.w_zth hwr
  refine lv_aload_n hx hb dX11_addMember_5 rfl (lv_at hl 0 rfl) ?_
  refine gf_X11_7 hB hR.o rfl dX11_addMember_6 ?_
  refine lv_iconst (v := nI 0) hx hb dX11_addMember_9 (by decide) ?_
  refine mn_iald hB hR.a_zq (by omega) (by omega) dX11_addMember_10 ?_
  refine mh_top (y := .int (nI (nmQ zq))) (by rw [hW.1]) ?_
  refine lv_iconst (v := nI 5) hx hb dX11_addMember_11 (by decide) ?_
  refine mn_icmp_ne (tgt := 21) hB dX11_addMember_12 (by decide) (by omega) (by omega) (fun h => by exfalso; omega) (fun h_12 => ?_)
  refine lv_aload_n hx hb dX11_addMember_15 rfl (lv_at hl 0 rfl) ?_
  refine lv_iconst (v := nI 1) hx hb dX11_addMember_16 (by decide) ?_
  refine cl_X11_81 (As := [.int (nI 1)]) (rest := []) hB (c_X11_fails l g H r zq zsp zrm zst zsl zsv ztx zln (nI 0) zsg zbg zwd zhg zin zop zbe zwi zhi zbk zot zer zen zpo zpi zgr zsh zsn (nI 1) hR) hR.o rfl hl.1 (Nat.le_of_ble_eq_true rfl) dX11_addMember_17 ⟨Nat.le_of_ble_eq_true rfl, Nat.le_of_ble_eq_true rfl⟩ ⟨Nat.le_of_ble_eq_true rfl, Nat.le_of_ble_eq_true rfl⟩ hS (by have hz9 := hS.1; rintro q (h | h) <;> first | exact Or.inr (by omega) | exact h.elim | exact Or.inl h | (simp only [ftA] at h ⊢; omega)) (fun v H1 locs hpo hfr hS => ?_)
  obtain ⟨rfl, hR⟩ := hpo
  generalize H1 = H at hfr hS hR ⊢
  refine W.widen (k := 0) (n := 0) (Nat.le_of_ble_eq_true rfl) (Nat.le_of_ble_eq_true rfl) ?_
  refine mh_iret hB ⟨Nat.le_of_ble_eq_true rfl, Nat.le_of_ble_eq_true rfl⟩ hS dX11_addMember_20 ⟨?_, ?_⟩
  · rfl
  · exact hR

def rm_c_X11_give : Room := { frames := 2, cells := 0, slots := 0, locals := 46 }
set_option maxRecDepth 100000 in
set_option maxHeartbeats 400000 in
theorem c_X11_give (l : Launch) (g : GG) (H0 : Heap) (r : Nat) (zq : Nat → Int32) (zsp : Nat → Int32) (zrm : Nat → Int32) (zsl : Nat → Int32) (zsv : Nat → Int32) (ztx : Nat → Int32) (zln : Int32) (zth : Int32) (zsg : Nat → Int32) (zbg : Nat → Int32) (zwd : Nat → Int32) (zhg : Nat → Int32) (zin : Nat → Int32) (zop : Int32) (zbe : Int32) (zwi : Int32) (zhi : Int32) (zbk : Nat → Int32) (zot : Nat → Int32) (zer : Int32) (zen : Int32) (zpo : Nat → Int32) (zpi : Int32) (zgr : Int32) (zsh : Nat → Int32) (zsn : Int32) (n : Nat) (k : Nat) (c0 : Nat) (x : Nat) (hR : ModAt g r zq zsp zrm (nI n) zsl zsv ztx zln zth zsg zbg zwd zhg zin zop zbe zwi zhi zbk zot zer zen zpo zpi zgr zsh zsn H0) (hn : n ≤ 14) (hW : WF zq) (hk : k < nmQ zq) (hc : c0 < 6) (hx1 : 0 < x) (hx2 : x < 100) : Ct l yX11_give cX11_give 4 (some .int) rm_c_X11_give g [.ref r, .int (nI k), .int (nI c0), .int (nI x)] H0 (ftA (fun q => r ≤ q ∧ q < r + 16) H0.size) (fun v H1 => v = some (.int (givQ zq k c0 (nI x) (50 + c0))) ∧ ModAt g r (givQ zq k c0 (nI x)) zsp (remA zrm n zq) (nI (nxtS n)) zsl zsv ztx zln (nI 0) zsg zbg zwd zhg zin zop zbe zwi zhi zbk zot zer zen zpo zpi zgr zsh zsn H1) := by
  refine Ct.of (by decide) (fun _ h => Or.inr h) (Nat.le_of_ble_eq_true rfl) ?_
  intro p e s m below meth c ls hB hin hS hH hl
  have hx := hB.x
  have hb := hB.b
  have hl : lv_has ls 4 [(0, .ref r), (1, .int (nI k)), (2, .int (nI c0)), (3, .int (nI x))] := hl
  have hnm := hW.2.2.1
  refine lv_aload_n hx hb dX11_give_0 rfl (lv_at hl 0 rfl) ?_
  refine lv_iconst (v := nI 0) hx hb dX11_give_1 (by decide) ?_
  refine pf_X11_56 hB hR.o (by first | exact Or.inl rfl | (simp only [ftA]; omega) | (simp [ftA]; omega)) hS rfl rfl (Nat.le_of_ble_eq_true rfl) dX11_give_2 (fun H locs hwr => ?_)
  obtain ⟨hR, hS⟩ := hR.w_zth hwr
  refine lv_aload_n hx hb dX11_give_5 rfl (lv_at hl 0 rfl) ?_
  refine lv_iload_n hx hb dX11_give_6 rfl (lv_at hl 1 rfl) ?_
  refine cl_X11_145 (As := [.int (nI k)]) (rest := []) hB (c_X11_isMember l g H r zq zsp zrm (nI n) zsl zsv ztx zln (nI 0) zsg zbg zwd zhg zin zop zbe zwi zhi zbk zot zer zen zpo zpi zgr zsh zsn (nI k) hR (by omega)) hR.o rfl hl.1 (Nat.le_of_ble_eq_true rfl) dX11_give_7 ⟨Nat.le_of_ble_eq_true rfl, Nat.le_of_ble_eq_true rfl⟩ ⟨Nat.le_of_ble_eq_true rfl, Nat.le_of_ble_eq_true rfl⟩ hS (by have hz9 := hS.1; rintro q (h | h) <;> first | exact Or.inr (by omega) | exact h.elim | exact Or.inl h | (simp only [ftA] at h ⊢; omega)) (fun v H1 locs hpo hfr hS => ?_)
  obtain ⟨rfl, rfl⟩ := hpo
  refine W.widen (k := 0) (n := 0) (Nat.le_of_ble_eq_true rfl) (Nat.le_of_ble_eq_true rfl) ?_
  refine mb_if_eq (tgt := 20) hB dX11_give_10 (by decide) (fun h => by rw [isIx_of hk (by omega)] at h; cases h) (fun h_10 => ?_)
  refine lv_iload_n hx hb dX11_give_13 rfl (lv_at hl 2 rfl) ?_
  refine cl_X11_153 (As := [.int (nI c0)]) (rest := []) hB (c_X11_isColour l g H (nI c0)) rfl hl.1 (Nat.le_of_ble_eq_true rfl) dX11_give_14 ⟨Nat.le_of_ble_eq_true rfl, Nat.le_of_ble_eq_true rfl⟩ ⟨Nat.le_of_ble_eq_true rfl, Nat.le_of_ble_eq_true rfl⟩ hS (by have hz9 := hS.1; rintro q (h | h) <;> first | exact Or.inr (by omega) | exact h.elim | exact Or.inl h | (simp only [ftA] at h ⊢; omega)) (fun v H1 locs hpo hfr hS => ?_)
  obtain ⟨rfl, rfl⟩ := hpo
  refine W.widen (k := 0) (n := 0) (Nat.le_of_ble_eq_true rfl) (Nat.le_of_ble_eq_true rfl) ?_
  refine mb_if_ne (tgt := 26) hB dX11_give_17 (by decide) (fun h_17 => ?_) (fun h => by rw [isIx_of hc (by omega)] at h; cases h)
  refine lv_iload_n hx hb dX11_give_26 rfl (lv_at hl 3 rfl) ?_
  refine lv_i2l (v := (nI x).toInt64) hx hb dX11_give_27 rfl ?_
  refine lv_lconst (v := 1) hx hb dX11_give_28 (by decide) ?_
  refine lv_ldc2 (v := (99)) hx hb hB.ow (hB.K.2 _ kw_1218 _) dX11_give_29 ?_
  refine cl_X11_63 (As := [.long ((nI x).toInt64), .long 1, .long (99)]) (rest := []) hB (c_X11_in l g H ((nI x).toInt64) 1 (99)) rfl hl.1 (Nat.le_of_ble_eq_true rfl) dX11_give_32 ⟨Nat.le_of_ble_eq_true rfl, Nat.le_of_ble_eq_true rfl⟩ ⟨Nat.le_of_ble_eq_true rfl, Nat.le_of_ble_eq_true rfl⟩ hS (by have hz9 := hS.1; rintro q (h | h) <;> first | exact Or.inr (by omega) | exact h.elim | exact Or.inl h | (simp only [ftA] at h ⊢; omega)) (fun v H1 locs hpo hfr hS => ?_)
  obtain ⟨rfl, rfl⟩ := hpo
  refine W.widen (k := 0) (n := 0) (Nat.le_of_ble_eq_true rfl) (Nat.le_of_ble_eq_true rfl) ?_
  refine mb_if_ne (tgt := 44) hB dX11_give_35 (by decide) (fun h_35 => ?_) (fun h => by rw [isRg_of hx1 hx2] at h; cases h)
  refine lv_aload_n hx hb dX11_give_44 rfl (lv_at hl 0 rfl) ?_
  refine cl_X11_200 (As := []) (rest := []) hB (c_X11_remember l g H r zq zsp zrm zsl zsv ztx zln (nI 0) zsg zbg zwd zhg zin zop zbe zwi zhi zbk zot zer zen zpo zpi zgr zsh zsn n hR (by omega)) hR.o rfl hl.1 (Nat.le_of_ble_eq_true rfl) dX11_give_45 ⟨Nat.le_of_ble_eq_true rfl, Nat.le_of_ble_eq_true rfl⟩ ⟨Nat.le_of_ble_eq_true rfl, Nat.le_of_ble_eq_true rfl⟩ hS (by have hz9 := hS.1; rintro q (h | h) <;> first | exact Or.inr (by omega) | exact h.elim | exact Or.inl h | (simp only [ftA] at h ⊢; omega)) (fun v H1 locs hpo hfr hS => ?_)
  obtain ⟨rfl, hR⟩ := hpo
  generalize H1 = H at hfr hS hR ⊢
  refine W.widen (k := 0) (n := 0) (Nat.le_of_ble_eq_true rfl) (Nat.le_of_ble_eq_true rfl) ?_
  refine lv_aload_n hx hb dX11_give_48 rfl (lv_at hl 0 rfl) ?_
  refine lv_iload_n hx hb dX11_give_49 rfl (lv_at hl 1 rfl) ?_
  refine lv_iload_n hx hb dX11_give_50 rfl (lv_at hl 2 rfl) ?_
  refine lv_iload_n hx hb dX11_give_51 rfl (lv_at hl 3 rfl) ?_
  refine cl_X11_205 (As := [.int (nI k), .int (nI c0), .int (nI x)]) (rest := []) hB (c_X11_gives l g H r zq zsp (remA zrm n zq) (nI (nxtS n)) zsl zsv ztx zln (nI 0) zsg zbg zwd zhg zin zop zbe zwi zhi zbk zot zer zen zpo zpi zgr zsh zsn k c0 (nI x) hR (by omega) (by omega)) hR.o rfl hl.1 (Nat.le_of_ble_eq_true rfl) dX11_give_52 ⟨Nat.le_of_ble_eq_true rfl, Nat.le_of_ble_eq_true rfl⟩ ⟨Nat.le_of_ble_eq_true rfl, Nat.le_of_ble_eq_true rfl⟩ hS (by have hz9 := hS.1; rintro q (h | h) <;> first | exact Or.inr (by omega) | exact h.elim | exact Or.inl h | (simp only [ftA] at h ⊢; omega)) (fun v H1 locs hpo hfr hS => ?_)
  obtain ⟨rfl, hR⟩ := hpo
  generalize H1 = H at hfr hS hR ⊢
  refine W.widen (k := 0) (n := 0) (Nat.le_of_ble_eq_true rfl) (Nat.le_of_ble_eq_true rfl) ?_
  refine mh_iret hB ⟨Nat.le_of_ble_eq_true rfl, Nat.le_of_ble_eq_true rfl⟩ hS dX11_give_55 ⟨?_, ?_⟩
  · rfl
  · exact hR

def rm_c_X11_give_t1 : Room := { frames := 2, cells := 0, slots := 0, locals := 46 }
set_option maxRecDepth 100000 in
set_option maxHeartbeats 400000 in
theorem c_X11_give_t1 (l : Launch) (g : GG) (H0 : Heap) (r : Nat) (zq : Nat → Int32) (zsp : Nat → Int32) (zrm : Nat → Int32) (zst : Int32) (zsl : Nat → Int32) (zsv : Nat → Int32) (ztx : Nat → Int32) (zln : Int32) (zth : Int32) (zsg : Nat → Int32) (zbg : Nat → Int32) (zwd : Nat → Int32) (zhg : Nat → Int32) (zin : Nat → Int32) (zop : Int32) (zbe : Int32) (zwi : Int32) (zhi : Int32) (zbk : Nat → Int32) (zot : Nat → Int32) (zer : Int32) (zen : Int32) (zpo : Nat → Int32) (zpi : Int32) (zgr : Int32) (zsh : Nat → Int32) (zsn : Int32) (x : Int32) (y : Int32) (z : Int32) (hR : ModAt g r zq zsp zrm zst zsl zsv ztx zln zth zsg zbg zwd zhg zin zop zbe zwi zhi zbk zot zer zen zpo zpi zgr zsh zsn H0) (hW : WF zq) (hx1 : isIx x (nmQ zq) = false ∨ isIx y 6 = false) : Ct l yX11_give cX11_give 4 (some .int) rm_c_X11_give_t1 g [.ref r, .int x, .int y, .int z] H0 (ftA (fun q => r ≤ q ∧ q < r + 16) H0.size) (fun v H1 => v = some (.int (nI 0)) ∧ ModAt g r zq zsp zrm zst zsl zsv ztx zln (nI 1) zsg zbg zwd zhg zin zop zbe zwi zhi zbk zot zer zen zpo zpi zgr zsh zsn H1) := by
  refine Ct.of (by decide) (fun _ h => Or.inr h) (Nat.le_of_ble_eq_true rfl) ?_
  intro p e s m below meth c ls hB hin hS hH hl
  have hx := hB.x
  have hb := hB.b
  have hl : lv_has ls 4 [(0, .ref r), (1, .int x), (2, .int y), (3, .int z)] := hl
  refine lv_aload_n hx hb dX11_give_0 rfl (lv_at hl 0 rfl) ?_
  refine lv_iconst (v := nI 0) hx hb dX11_give_1 (by decide) ?_
  refine pf_X11_56 hB hR.o (by first | exact Or.inl rfl | (simp only [ftA]; omega) | (simp [ftA]; omega)) hS rfl rfl (Nat.le_of_ble_eq_true rfl) dX11_give_2 (fun H locs hwr => ?_)
  obtain ⟨hR, hS⟩ := hR.w_zth hwr
  refine lv_aload_n hx hb dX11_give_5 rfl (lv_at hl 0 rfl) ?_
  refine lv_iload_n hx hb dX11_give_6 rfl (lv_at hl 1 rfl) ?_
  refine cl_X11_145 (As := [.int x]) (rest := []) hB (c_X11_isMember l g H r zq zsp zrm zst zsl zsv ztx zln (nI 0) zsg zbg zwd zhg zin zop zbe zwi zhi zbk zot zer zen zpo zpi zgr zsh zsn x hR (by omega)) hR.o rfl hl.1 (Nat.le_of_ble_eq_true rfl) dX11_give_7 ⟨Nat.le_of_ble_eq_true rfl, Nat.le_of_ble_eq_true rfl⟩ ⟨Nat.le_of_ble_eq_true rfl, Nat.le_of_ble_eq_true rfl⟩ hS (by have hz9 := hS.1; rintro q (h | h) <;> first | exact Or.inr (by omega) | exact h.elim | exact Or.inl h | (simp only [ftA] at h ⊢; omega)) (fun v H1 locs hpo hfr hS => ?_)
  obtain ⟨rfl, rfl⟩ := hpo
  refine W.widen (k := 0) (n := 0) (Nat.le_of_ble_eq_true rfl) (Nat.le_of_ble_eq_true rfl) ?_
  refine mb_if_eq (tgt := 20) hB dX11_give_10 (by decide) (fun h_10 => ?_) (fun h_10 => ?_)
  · skip
    refine lv_aload_n hx hb dX11_give_20 rfl (lv_at hl 0 rfl) ?_
    refine lv_iconst (v := nI 1) hx hb dX11_give_21 (by decide) ?_
    refine cl_X11_81 (As := [.int (nI 1)]) (rest := []) hB (c_X11_fails l g H r zq zsp zrm zst zsl zsv ztx zln (nI 0) zsg zbg zwd zhg zin zop zbe zwi zhi zbk zot zer zen zpo zpi zgr zsh zsn (nI 1) hR) hR.o rfl hl.1 (Nat.le_of_ble_eq_true rfl) dX11_give_22 ⟨Nat.le_of_ble_eq_true rfl, Nat.le_of_ble_eq_true rfl⟩ ⟨Nat.le_of_ble_eq_true rfl, Nat.le_of_ble_eq_true rfl⟩ hS (by have hz9 := hS.1; rintro q (h | h) <;> first | exact Or.inr (by omega) | exact h.elim | exact Or.inl h | (simp only [ftA] at h ⊢; omega)) (fun v H1 locs hpo hfr hS => ?_)
    obtain ⟨rfl, hR⟩ := hpo
    generalize H1 = H at hfr hS hR ⊢
    refine W.widen (k := 0) (n := 0) (Nat.le_of_ble_eq_true rfl) (Nat.le_of_ble_eq_true rfl) ?_
    refine mh_iret hB ⟨Nat.le_of_ble_eq_true rfl, Nat.le_of_ble_eq_true rfl⟩ hS dX11_give_25 ⟨?_, ?_⟩
    · rfl
    · exact hR
  · skip
    refine lv_iload_n hx hb dX11_give_13 rfl (lv_at hl 2 rfl) ?_
    refine cl_X11_153 (As := [.int y]) (rest := []) hB (c_X11_isColour l g H y) rfl hl.1 (Nat.le_of_ble_eq_true rfl) dX11_give_14 ⟨Nat.le_of_ble_eq_true rfl, Nat.le_of_ble_eq_true rfl⟩ ⟨Nat.le_of_ble_eq_true rfl, Nat.le_of_ble_eq_true rfl⟩ hS (by have hz9 := hS.1; rintro q (h | h) <;> first | exact Or.inr (by omega) | exact h.elim | exact Or.inl h | (simp only [ftA] at h ⊢; omega)) (fun v H1 locs hpo hfr hS => ?_)
    obtain ⟨rfl, rfl⟩ := hpo
    refine W.widen (k := 0) (n := 0) (Nat.le_of_ble_eq_true rfl) (Nat.le_of_ble_eq_true rfl) ?_
    refine mb_if_ne (tgt := 26) hB dX11_give_17 (by decide) (fun h => by rcases hx1 with z9 | z9; (rw [z9] at h_10; cases h_10); (rw [z9] at h; cases h)) (fun h_17 => ?_)
    refine lv_aload_n hx hb dX11_give_20 rfl (lv_at hl 0 rfl) ?_
    refine lv_iconst (v := nI 1) hx hb dX11_give_21 (by decide) ?_
    refine cl_X11_81 (As := [.int (nI 1)]) (rest := []) hB (c_X11_fails l g H r zq zsp zrm zst zsl zsv ztx zln (nI 0) zsg zbg zwd zhg zin zop zbe zwi zhi zbk zot zer zen zpo zpi zgr zsh zsn (nI 1) hR) hR.o rfl hl.1 (Nat.le_of_ble_eq_true rfl) dX11_give_22 ⟨Nat.le_of_ble_eq_true rfl, Nat.le_of_ble_eq_true rfl⟩ ⟨Nat.le_of_ble_eq_true rfl, Nat.le_of_ble_eq_true rfl⟩ hS (by have hz9 := hS.1; rintro q (h | h) <;> first | exact Or.inr (by omega) | exact h.elim | exact Or.inl h | (simp only [ftA] at h ⊢; omega)) (fun v H1 locs hpo hfr hS => ?_)
    obtain ⟨rfl, hR⟩ := hpo
    generalize H1 = H at hfr hS hR ⊢
    refine W.widen (k := 0) (n := 0) (Nat.le_of_ble_eq_true rfl) (Nat.le_of_ble_eq_true rfl) ?_
    refine mh_iret hB ⟨Nat.le_of_ble_eq_true rfl, Nat.le_of_ble_eq_true rfl⟩ hS dX11_give_25 ⟨?_, ?_⟩
    · rfl
    · exact hR

def rm_c_X11_give_t2 : Room := { frames := 2, cells := 0, slots := 0, locals := 46 }
set_option maxRecDepth 100000 in
set_option maxHeartbeats 400000 in
theorem c_X11_give_t2 (l : Launch) (g : GG) (H0 : Heap) (r : Nat) (zq : Nat → Int32) (zsp : Nat → Int32) (zrm : Nat → Int32) (zst : Int32) (zsl : Nat → Int32) (zsv : Nat → Int32) (ztx : Nat → Int32) (zln : Int32) (zth : Int32) (zsg : Nat → Int32) (zbg : Nat → Int32) (zwd : Nat → Int32) (zhg : Nat → Int32) (zin : Nat → Int32) (zop : Int32) (zbe : Int32) (zwi : Int32) (zhi : Int32) (zbk : Nat → Int32) (zot : Nat → Int32) (zer : Int32) (zen : Int32) (zpo : Nat → Int32) (zpi : Int32) (zgr : Int32) (zsh : Nat → Int32) (zsn : Int32) (k : Nat) (c0 : Nat) (z : Int32) (hR : ModAt g r zq zsp zrm zst zsl zsv ztx zln zth zsg zbg zwd zhg zin zop zbe zwi zhi zbk zot zer zen zpo zpi zgr zsh zsn H0) (hW : WF zq) (hk : k < nmQ zq) (hc : c0 < 6) (hx1 : inL z.toInt64 1 99 = false) : Ct l yX11_give cX11_give 4 (some .int) rm_c_X11_give_t2 g [.ref r, .int (nI k), .int (nI c0), .int z] H0 (ftA (fun q => r ≤ q ∧ q < r + 16) H0.size) (fun v H1 => v = some (.int (nI 0)) ∧ ModAt g r zq zsp zrm zst zsl zsv ztx zln (nI 2) zsg zbg zwd zhg zin zop zbe zwi zhi zbk zot zer zen zpo zpi zgr zsh zsn H1) := by
  refine Ct.of (by decide) (fun _ h => Or.inr h) (Nat.le_of_ble_eq_true rfl) ?_
  intro p e s m below meth c ls hB hin hS hH hl
  have hx := hB.x
  have hb := hB.b
  have hl : lv_has ls 4 [(0, .ref r), (1, .int (nI k)), (2, .int (nI c0)), (3, .int z)] := hl
  have hnm := hW.2.2.1
  refine lv_aload_n hx hb dX11_give_0 rfl (lv_at hl 0 rfl) ?_
  refine lv_iconst (v := nI 0) hx hb dX11_give_1 (by decide) ?_
  refine pf_X11_56 hB hR.o (by first | exact Or.inl rfl | (simp only [ftA]; omega) | (simp [ftA]; omega)) hS rfl rfl (Nat.le_of_ble_eq_true rfl) dX11_give_2 (fun H locs hwr => ?_)
  obtain ⟨hR, hS⟩ := hR.w_zth hwr
  refine lv_aload_n hx hb dX11_give_5 rfl (lv_at hl 0 rfl) ?_
  refine lv_iload_n hx hb dX11_give_6 rfl (lv_at hl 1 rfl) ?_
  refine cl_X11_145 (As := [.int (nI k)]) (rest := []) hB (c_X11_isMember l g H r zq zsp zrm zst zsl zsv ztx zln (nI 0) zsg zbg zwd zhg zin zop zbe zwi zhi zbk zot zer zen zpo zpi zgr zsh zsn (nI k) hR (by omega)) hR.o rfl hl.1 (Nat.le_of_ble_eq_true rfl) dX11_give_7 ⟨Nat.le_of_ble_eq_true rfl, Nat.le_of_ble_eq_true rfl⟩ ⟨Nat.le_of_ble_eq_true rfl, Nat.le_of_ble_eq_true rfl⟩ hS (by have hz9 := hS.1; rintro q (h | h) <;> first | exact Or.inr (by omega) | exact h.elim | exact Or.inl h | (simp only [ftA] at h ⊢; omega)) (fun v H1 locs hpo hfr hS => ?_)
  obtain ⟨rfl, rfl⟩ := hpo
  refine W.widen (k := 0) (n := 0) (Nat.le_of_ble_eq_true rfl) (Nat.le_of_ble_eq_true rfl) ?_
  refine mb_if_eq (tgt := 20) hB dX11_give_10 (by decide) (fun h => by rw [isIx_of hk (by omega)] at h; cases h) (fun h_10 => ?_)
  refine lv_iload_n hx hb dX11_give_13 rfl (lv_at hl 2 rfl) ?_
  refine cl_X11_153 (As := [.int (nI c0)]) (rest := []) hB (c_X11_isColour l g H (nI c0)) rfl hl.1 (Nat.le_of_ble_eq_true rfl) dX11_give_14 ⟨Nat.le_of_ble_eq_true rfl, Nat.le_of_ble_eq_true rfl⟩ ⟨Nat.le_of_ble_eq_true rfl, Nat.le_of_ble_eq_true rfl⟩ hS (by have hz9 := hS.1; rintro q (h | h) <;> first | exact Or.inr (by omega) | exact h.elim | exact Or.inl h | (simp only [ftA] at h ⊢; omega)) (fun v H1 locs hpo hfr hS => ?_)
  obtain ⟨rfl, rfl⟩ := hpo
  refine W.widen (k := 0) (n := 0) (Nat.le_of_ble_eq_true rfl) (Nat.le_of_ble_eq_true rfl) ?_
  refine mb_if_ne (tgt := 26) hB dX11_give_17 (by decide) (fun h_17 => ?_) (fun h => by rw [isIx_of hc (by omega)] at h; cases h)
  refine lv_iload_n hx hb dX11_give_26 rfl (lv_at hl 3 rfl) ?_
  refine lv_i2l (v := (z).toInt64) hx hb dX11_give_27 rfl ?_
  refine lv_lconst (v := 1) hx hb dX11_give_28 (by decide) ?_
  refine lv_ldc2 (v := (99)) hx hb hB.ow (hB.K.2 _ kw_1218 _) dX11_give_29 ?_
  refine cl_X11_63 (As := [.long ((z).toInt64), .long 1, .long (99)]) (rest := []) hB (c_X11_in l g H ((z).toInt64) 1 (99)) rfl hl.1 (Nat.le_of_ble_eq_true rfl) dX11_give_32 ⟨Nat.le_of_ble_eq_true rfl, Nat.le_of_ble_eq_true rfl⟩ ⟨Nat.le_of_ble_eq_true rfl, Nat.le_of_ble_eq_true rfl⟩ hS (by have hz9 := hS.1; rintro q (h | h) <;> first | exact Or.inr (by omega) | exact h.elim | exact Or.inl h | (simp only [ftA] at h ⊢; omega)) (fun v H1 locs hpo hfr hS => ?_)
  obtain ⟨rfl, rfl⟩ := hpo
  refine W.widen (k := 0) (n := 0) (Nat.le_of_ble_eq_true rfl) (Nat.le_of_ble_eq_true rfl) ?_
  refine mb_if_ne (tgt := 44) hB dX11_give_35 (by decide) (fun h => by rw [hx1] at h; cases h) (fun h_35 => ?_)
  refine lv_aload_n hx hb dX11_give_38 rfl (lv_at hl 0 rfl) ?_
  refine lv_iconst (v := nI 2) hx hb dX11_give_39 (by decide) ?_
  refine cl_X11_81 (As := [.int (nI 2)]) (rest := []) hB (c_X11_fails l g H r zq zsp zrm zst zsl zsv ztx zln (nI 0) zsg zbg zwd zhg zin zop zbe zwi zhi zbk zot zer zen zpo zpi zgr zsh zsn (nI 2) hR) hR.o rfl hl.1 (Nat.le_of_ble_eq_true rfl) dX11_give_40 ⟨Nat.le_of_ble_eq_true rfl, Nat.le_of_ble_eq_true rfl⟩ ⟨Nat.le_of_ble_eq_true rfl, Nat.le_of_ble_eq_true rfl⟩ hS (by have hz9 := hS.1; rintro q (h | h) <;> first | exact Or.inr (by omega) | exact h.elim | exact Or.inl h | (simp only [ftA] at h ⊢; omega)) (fun v H1 locs hpo hfr hS => ?_)
  obtain ⟨rfl, hR⟩ := hpo
  generalize H1 = H at hfr hS hR ⊢
  refine W.widen (k := 0) (n := 0) (Nat.le_of_ble_eq_true rfl) (Nat.le_of_ble_eq_true rfl) ?_
  refine mh_iret hB ⟨Nat.le_of_ble_eq_true rfl, Nat.le_of_ble_eq_true rfl⟩ hS dX11_give_43 ⟨?_, ?_⟩
  · rfl
  · exact hR

def rm_c_X11_sew : Room := { frames := 3, cells := 0, slots := 0, locals := 69 }
set_option maxRecDepth 100000 in
set_option maxHeartbeats 400000 in
theorem c_X11_sew (l : Launch) (g : GG) (H0 : Heap) (r : Nat) (zq : Nat → Int32) (zsp : Nat → Int32) (zrm : Nat → Int32) (zsl : Nat → Int32) (zsv : Nat → Int32) (ztx : Nat → Int32) (zln : Int32) (zth : Int32) (zsg : Nat → Int32) (zbg : Nat → Int32) (zwd : Nat → Int32) (zhg : Nat → Int32) (zin : Nat → Int32) (zop : Int32) (zbe : Int32) (zwi : Int32) (zhi : Int32) (zbk : Nat → Int32) (zot : Nat → Int32) (zer : Int32) (zen : Int32) (zpo : Nat → Int32) (zpi : Int32) (zgr : Int32) (zsh : Nat → Int32) (zsn : Int32) (n : Nat) (f : Nat) (x : Nat) (hR : ModAt g r zq zsp zrm (nI n) zsl zsv ztx zln zth zsg zbg zwd zhg zin zop zbe zwi zhi zbk zot zer zen zpo zpi zgr zsh zsn H0) (hn : n ≤ 14) (hW : WF zq) (hf : f < 3) (hx1 : 0 < x) (hx2 : x < 100) (hs0 : 0 < szF zq f) (h0 : 0 < nmQ zq) : Ct l yX11_sew cX11_sew 3 (some .int) rm_c_X11_sew g [.ref r, .int (nI f), .int (nI x)] H0 (ftA (fun q => r ≤ q ∧ q < r + 16) H0.size) (fun v H1 => v = some (.int (nI (sewN f (tnQ zq) x zq))) ∧ ModAt g r (sewE f x zq) zsp (remA zrm n zq) (nI (nxtS n)) zsl zsv ztx zln (nI 0) zsg zbg zwd zhg zin zop zbe zwi zhi zbk zot zer zen zpo zpi zgr zsh zsn H1) := by
  refine Ct.of (by decide) (fun _ h => Or.inr h) (Nat.le_of_ble_eq_true rfl) ?_
  intro p e s m below meth c ls hB hin hS hH hl
  have hx := hB.x
  have hb := hB.b
  have hl : lv_has ls 3 [(0, .ref r), (1, .int (nI f)), (2, .int (nI x))] := hl
  refine lv_aload_n hx hb dX11_sew_0 rfl (lv_at hl 0 rfl) ?_
  refine lv_iconst (v := nI 0) hx hb dX11_sew_1 (by decide) ?_
  refine pf_X11_56 hB hR.o (by first | exact Or.inl rfl | (simp only [ftA]; omega) | (simp [ftA]; omega)) hS rfl rfl (Nat.le_of_ble_eq_true rfl) dX11_sew_2 (fun H locs hwr => ?_)
  obtain ⟨hR, hS⟩ := hR.w_zth hwr
  refine lv_iload_n hx hb dX11_sew_5 rfl (lv_at hl 1 rfl) ?_
  refine cl_X11_175 (As := [.int (nI f)]) (rest := []) hB (c_X11_isFrame l g H (nI f)) rfl hl.1 (Nat.le_of_ble_eq_true rfl) dX11_sew_6 ⟨Nat.le_of_ble_eq_true rfl, Nat.le_of_ble_eq_true rfl⟩ ⟨Nat.le_of_ble_eq_true rfl, Nat.le_of_ble_eq_true rfl⟩ hS (by have hz9 := hS.1; rintro q (h | h) <;> first | exact Or.inr (by omega) | exact h.elim | exact Or.inl h | (simp only [ftA] at h ⊢; omega)) (fun v H1 locs hpo hfr hS => ?_)
  obtain ⟨rfl, rfl⟩ := hpo
  refine W.widen (k := 0) (n := 0) (Nat.le_of_ble_eq_true rfl) (Nat.le_of_ble_eq_true rfl) ?_
  refine mb_if_ne (tgt := 18) hB dX11_sew_9 (by decide) (fun h_9 => ?_) (fun h => by rw [isIx_of hf (by omega)] at h; cases h)
  refine lv_iload_n hx hb dX11_sew_18 rfl (lv_at hl 2 rfl) ?_
  refine lv_i2l (v := (nI x).toInt64) hx hb dX11_sew_19 rfl ?_
  refine lv_lconst (v := 1) hx hb dX11_sew_20 (by decide) ?_
  refine lv_ldc2 (v := (99)) hx hb hB.ow (hB.K.2 _ kw_1218 _) dX11_sew_21 ?_
  refine cl_X11_63 (As := [.long ((nI x).toInt64), .long 1, .long (99)]) (rest := []) hB (c_X11_in l g H ((nI x).toInt64) 1 (99)) rfl hl.1 (Nat.le_of_ble_eq_true rfl) dX11_sew_24 ⟨Nat.le_of_ble_eq_true rfl, Nat.le_of_ble_eq_true rfl⟩ ⟨Nat.le_of_ble_eq_true rfl, Nat.le_of_ble_eq_true rfl⟩ hS (by have hz9 := hS.1; rintro q (h | h) <;> first | exact Or.inr (by omega) | exact h.elim | exact Or.inl h | (simp only [ftA] at h ⊢; omega)) (fun v H1 locs hpo hfr hS => ?_)
  obtain ⟨rfl, rfl⟩ := hpo
  refine W.widen (k := 0) (n := 0) (Nat.le_of_ble_eq_true rfl) (Nat.le_of_ble_eq_true rfl) ?_
  refine mb_if_ne (tgt := 36) hB dX11_sew_27 (by decide) (fun h_27 => ?_) (fun h => by rw [isRg_of hx1 hx2] at h; cases h)
  refine lv_aload_n hx hb dX11_sew_36 rfl (lv_at hl 0 rfl) ?_
  refine lv_iload_n hx hb dX11_sew_37 rfl (lv_at hl 1 rfl) ?_
  refine cl_X11_215 (As := [.int (nI f)]) (rest := []) hB (c_X11_canSew l g H r zq zsp zrm (nI n) zsl zsv ztx zln (nI 0) zsg zbg zwd zhg zin zop zbe zwi zhi zbk zot zer zen zpo zpi zgr zsh zsn f hR (by omega) (by omega)) hR.o rfl hl.1 (Nat.le_of_ble_eq_true rfl) dX11_sew_38 ⟨Nat.le_of_ble_eq_true rfl, Nat.le_of_ble_eq_true rfl⟩ ⟨Nat.le_of_ble_eq_true rfl, Nat.le_of_ble_eq_true rfl⟩ hS (by have hz9 := hS.1; rintro q (h | h) <;> first | exact Or.inr (by omega) | exact h.elim | exact Or.inl h | (simp only [ftA] at h ⊢; omega)) (fun v H1 locs hpo hfr hS => ?_)
  obtain ⟨rfl, rfl⟩ := hpo
  refine W.widen (k := 0) (n := 0) (Nat.le_of_ble_eq_true rfl) (Nat.le_of_ble_eq_true rfl) ?_
  refine mb_if_ne (tgt := 50) hB dX11_sew_41 (by decide) (fun h_41 => ?_) (fun h => by rw [decide_eq_true (And.intro hs0 h0)] at h; cases h)
  refine lv_aload_n hx hb dX11_sew_50 rfl (lv_at hl 0 rfl) ?_
  refine cl_X11_200 (As := []) (rest := []) hB (c_X11_remember l g H r zq zsp zrm zsl zsv ztx zln (nI 0) zsg zbg zwd zhg zin zop zbe zwi zhi zbk zot zer zen zpo zpi zgr zsh zsn n hR (by omega)) hR.o rfl hl.1 (Nat.le_of_ble_eq_true rfl) dX11_sew_51 ⟨Nat.le_of_ble_eq_true rfl, Nat.le_of_ble_eq_true rfl⟩ ⟨Nat.le_of_ble_eq_true rfl, Nat.le_of_ble_eq_true rfl⟩ hS (by have hz9 := hS.1; rintro q (h | h) <;> first | exact Or.inr (by omega) | exact h.elim | exact Or.inl h | (simp only [ftA] at h ⊢; omega)) (fun v H1 locs hpo hfr hS => ?_)
  obtain ⟨rfl, hR⟩ := hpo
  generalize H1 = H at hfr hS hR ⊢
  refine W.widen (k := 0) (n := 0) (Nat.le_of_ble_eq_true rfl) (Nat.le_of_ble_eq_true rfl) ?_
  refine lv_aload_n hx hb dX11_sew_54 rfl (lv_at hl 0 rfl) ?_
  refine lv_iload_n hx hb dX11_sew_55 rfl (lv_at hl 1 rfl) ?_
  refine lv_iload_n hx hb dX11_sew_56 rfl (lv_at hl 2 rfl) ?_
  refine cl_X11_218 (As := [.int (nI f), .int (nI x)]) (rest := []) hB (c_X11_sews l g H r zq zsp (remA zrm n zq) (nI (nxtS n)) zsl zsv ztx zln (nI 0) zsg zbg zwd zhg zin zop zbe zwi zhi zbk zot zer zen zpo zpi zgr zsh zsn f x hR (by omega) (by omega) (by omega) (by omega)) hR.o rfl hl.1 (Nat.le_of_ble_eq_true rfl) dX11_sew_57 ⟨Nat.le_of_ble_eq_true rfl, Nat.le_of_ble_eq_true rfl⟩ ⟨Nat.le_of_ble_eq_true rfl, Nat.le_of_ble_eq_true rfl⟩ hS (by have hz9 := hS.1; rintro q (h | h) <;> first | exact Or.inr (by omega) | exact h.elim | exact Or.inl h | (simp only [ftA] at h ⊢; omega)) (fun v H1 locs hpo hfr hS => ?_)
  obtain ⟨rfl, hR⟩ := hpo
  generalize H1 = H at hfr hS hR ⊢
  refine W.widen (k := 0) (n := 0) (Nat.le_of_ble_eq_true rfl) (Nat.le_of_ble_eq_true rfl) ?_
  refine mh_iret hB ⟨Nat.le_of_ble_eq_true rfl, Nat.le_of_ble_eq_true rfl⟩ hS dX11_sew_60 ⟨?_, ?_⟩
  · rfl
  · exact hR

def rm_c_X11_sew_t1 : Room := { frames := 2, cells := 0, slots := 0, locals := 45 }
set_option maxRecDepth 100000 in
set_option maxHeartbeats 400000 in
theorem c_X11_sew_t1 (l : Launch) (g : GG) (H0 : Heap) (r : Nat) (zq : Nat → Int32) (zsp : Nat → Int32) (zrm : Nat → Int32) (zst : Int32) (zsl : Nat → Int32) (zsv : Nat → Int32) (ztx : Nat → Int32) (zln : Int32) (zth : Int32) (zsg : Nat → Int32) (zbg : Nat → Int32) (zwd : Nat → Int32) (zhg : Nat → Int32) (zin : Nat → Int32) (zop : Int32) (zbe : Int32) (zwi : Int32) (zhi : Int32) (zbk : Nat → Int32) (zot : Nat → Int32) (zer : Int32) (zen : Int32) (zpo : Nat → Int32) (zpi : Int32) (zgr : Int32) (zsh : Nat → Int32) (zsn : Int32) (x : Int32) (y : Int32) (hR : ModAt g r zq zsp zrm zst zsl zsv ztx zln zth zsg zbg zwd zhg zin zop zbe zwi zhi zbk zot zer zen zpo zpi zgr zsh zsn H0) (hx1 : isIx x 3 = false) : Ct l yX11_sew cX11_sew 3 (some .int) rm_c_X11_sew_t1 g [.ref r, .int x, .int y] H0 (ftA (fun q => r ≤ q ∧ q < r + 16) H0.size) (fun v H1 => v = some (.int (nI 0)) ∧ ModAt g r zq zsp zrm zst zsl zsv ztx zln (nI 1) zsg zbg zwd zhg zin zop zbe zwi zhi zbk zot zer zen zpo zpi zgr zsh zsn H1) := by
  refine Ct.of (by decide) (fun _ h => Or.inr h) (Nat.le_of_ble_eq_true rfl) ?_
  intro p e s m below meth c ls hB hin hS hH hl
  have hx := hB.x
  have hb := hB.b
  have hl : lv_has ls 3 [(0, .ref r), (1, .int x), (2, .int y)] := hl
  refine lv_aload_n hx hb dX11_sew_0 rfl (lv_at hl 0 rfl) ?_
  refine lv_iconst (v := nI 0) hx hb dX11_sew_1 (by decide) ?_
  refine pf_X11_56 hB hR.o (by first | exact Or.inl rfl | (simp only [ftA]; omega) | (simp [ftA]; omega)) hS rfl rfl (Nat.le_of_ble_eq_true rfl) dX11_sew_2 (fun H locs hwr => ?_)
  obtain ⟨hR, hS⟩ := hR.w_zth hwr
  refine lv_iload_n hx hb dX11_sew_5 rfl (lv_at hl 1 rfl) ?_
  refine cl_X11_175 (As := [.int x]) (rest := []) hB (c_X11_isFrame l g H x) rfl hl.1 (Nat.le_of_ble_eq_true rfl) dX11_sew_6 ⟨Nat.le_of_ble_eq_true rfl, Nat.le_of_ble_eq_true rfl⟩ ⟨Nat.le_of_ble_eq_true rfl, Nat.le_of_ble_eq_true rfl⟩ hS (by have hz9 := hS.1; rintro q (h | h) <;> first | exact Or.inr (by omega) | exact h.elim | exact Or.inl h | (simp only [ftA] at h ⊢; omega)) (fun v H1 locs hpo hfr hS => ?_)
  obtain ⟨rfl, rfl⟩ := hpo
  refine W.widen (k := 0) (n := 0) (Nat.le_of_ble_eq_true rfl) (Nat.le_of_ble_eq_true rfl) ?_
  refine mb_if_ne (tgt := 18) hB dX11_sew_9 (by decide) (fun h => by rw [hx1] at h; cases h) (fun h_9 => ?_)
  refine lv_aload_n hx hb dX11_sew_12 rfl (lv_at hl 0 rfl) ?_
  refine lv_iconst (v := nI 1) hx hb dX11_sew_13 (by decide) ?_
  refine cl_X11_81 (As := [.int (nI 1)]) (rest := []) hB (c_X11_fails l g H r zq zsp zrm zst zsl zsv ztx zln (nI 0) zsg zbg zwd zhg zin zop zbe zwi zhi zbk zot zer zen zpo zpi zgr zsh zsn (nI 1) hR) hR.o rfl hl.1 (Nat.le_of_ble_eq_true rfl) dX11_sew_14 ⟨Nat.le_of_ble_eq_true rfl, Nat.le_of_ble_eq_true rfl⟩ ⟨Nat.le_of_ble_eq_true rfl, Nat.le_of_ble_eq_true rfl⟩ hS (by have hz9 := hS.1; rintro q (h | h) <;> first | exact Or.inr (by omega) | exact h.elim | exact Or.inl h | (simp only [ftA] at h ⊢; omega)) (fun v H1 locs hpo hfr hS => ?_)
  obtain ⟨rfl, hR⟩ := hpo
  generalize H1 = H at hfr hS hR ⊢
  refine W.widen (k := 0) (n := 0) (Nat.le_of_ble_eq_true rfl) (Nat.le_of_ble_eq_true rfl) ?_
  refine mh_iret hB ⟨Nat.le_of_ble_eq_true rfl, Nat.le_of_ble_eq_true rfl⟩ hS dX11_sew_17 ⟨?_, ?_⟩
  · rfl
  · exact hR

def rm_c_X11_sew_t2 : Room := { frames := 2, cells := 0, slots := 0, locals := 45 }
set_option maxRecDepth 100000 in
set_option maxHeartbeats 400000 in
theorem c_X11_sew_t2 (l : Launch) (g : GG) (H0 : Heap) (r : Nat) (zq : Nat → Int32) (zsp : Nat → Int32) (zrm : Nat → Int32) (zst : Int32) (zsl : Nat → Int32) (zsv : Nat → Int32) (ztx : Nat → Int32) (zln : Int32) (zth : Int32) (zsg : Nat → Int32) (zbg : Nat → Int32) (zwd : Nat → Int32) (zhg : Nat → Int32) (zin : Nat → Int32) (zop : Int32) (zbe : Int32) (zwi : Int32) (zhi : Int32) (zbk : Nat → Int32) (zot : Nat → Int32) (zer : Int32) (zen : Int32) (zpo : Nat → Int32) (zpi : Int32) (zgr : Int32) (zsh : Nat → Int32) (zsn : Int32) (f : Nat) (y : Int32) (hR : ModAt g r zq zsp zrm zst zsl zsv ztx zln zth zsg zbg zwd zhg zin zop zbe zwi zhi zbk zot zer zen zpo zpi zgr zsh zsn H0) (hf : f < 3) (hx1 : inL y.toInt64 1 99 = false) : Ct l yX11_sew cX11_sew 3 (some .int) rm_c_X11_sew_t2 g [.ref r, .int (nI f), .int y] H0 (ftA (fun q => r ≤ q ∧ q < r + 16) H0.size) (fun v H1 => v = some (.int (nI 0)) ∧ ModAt g r zq zsp zrm zst zsl zsv ztx zln (nI 2) zsg zbg zwd zhg zin zop zbe zwi zhi zbk zot zer zen zpo zpi zgr zsh zsn H1) := by
  refine Ct.of (by decide) (fun _ h => Or.inr h) (Nat.le_of_ble_eq_true rfl) ?_
  intro p e s m below meth c ls hB hin hS hH hl
  have hx := hB.x
  have hb := hB.b
  have hl : lv_has ls 3 [(0, .ref r), (1, .int (nI f)), (2, .int y)] := hl
  refine lv_aload_n hx hb dX11_sew_0 rfl (lv_at hl 0 rfl) ?_
  refine lv_iconst (v := nI 0) hx hb dX11_sew_1 (by decide) ?_
  refine pf_X11_56 hB hR.o (by first | exact Or.inl rfl | (simp only [ftA]; omega) | (simp [ftA]; omega)) hS rfl rfl (Nat.le_of_ble_eq_true rfl) dX11_sew_2 (fun H locs hwr => ?_)
  obtain ⟨hR, hS⟩ := hR.w_zth hwr
  refine lv_iload_n hx hb dX11_sew_5 rfl (lv_at hl 1 rfl) ?_
  refine cl_X11_175 (As := [.int (nI f)]) (rest := []) hB (c_X11_isFrame l g H (nI f)) rfl hl.1 (Nat.le_of_ble_eq_true rfl) dX11_sew_6 ⟨Nat.le_of_ble_eq_true rfl, Nat.le_of_ble_eq_true rfl⟩ ⟨Nat.le_of_ble_eq_true rfl, Nat.le_of_ble_eq_true rfl⟩ hS (by have hz9 := hS.1; rintro q (h | h) <;> first | exact Or.inr (by omega) | exact h.elim | exact Or.inl h | (simp only [ftA] at h ⊢; omega)) (fun v H1 locs hpo hfr hS => ?_)
  obtain ⟨rfl, rfl⟩ := hpo
  refine W.widen (k := 0) (n := 0) (Nat.le_of_ble_eq_true rfl) (Nat.le_of_ble_eq_true rfl) ?_
  refine mb_if_ne (tgt := 18) hB dX11_sew_9 (by decide) (fun h_9 => ?_) (fun h => by rw [isIx_of hf (by omega)] at h; cases h)
  refine lv_iload_n hx hb dX11_sew_18 rfl (lv_at hl 2 rfl) ?_
  refine lv_i2l (v := (y).toInt64) hx hb dX11_sew_19 rfl ?_
  refine lv_lconst (v := 1) hx hb dX11_sew_20 (by decide) ?_
  refine lv_ldc2 (v := (99)) hx hb hB.ow (hB.K.2 _ kw_1218 _) dX11_sew_21 ?_
  refine cl_X11_63 (As := [.long ((y).toInt64), .long 1, .long (99)]) (rest := []) hB (c_X11_in l g H ((y).toInt64) 1 (99)) rfl hl.1 (Nat.le_of_ble_eq_true rfl) dX11_sew_24 ⟨Nat.le_of_ble_eq_true rfl, Nat.le_of_ble_eq_true rfl⟩ ⟨Nat.le_of_ble_eq_true rfl, Nat.le_of_ble_eq_true rfl⟩ hS (by have hz9 := hS.1; rintro q (h | h) <;> first | exact Or.inr (by omega) | exact h.elim | exact Or.inl h | (simp only [ftA] at h ⊢; omega)) (fun v H1 locs hpo hfr hS => ?_)
  obtain ⟨rfl, rfl⟩ := hpo
  refine W.widen (k := 0) (n := 0) (Nat.le_of_ble_eq_true rfl) (Nat.le_of_ble_eq_true rfl) ?_
  refine mb_if_ne (tgt := 36) hB dX11_sew_27 (by decide) (fun h => by rw [hx1] at h; cases h) (fun h_27 => ?_)
  refine lv_aload_n hx hb dX11_sew_30 rfl (lv_at hl 0 rfl) ?_
  refine lv_iconst (v := nI 2) hx hb dX11_sew_31 (by decide) ?_
  refine cl_X11_81 (As := [.int (nI 2)]) (rest := []) hB (c_X11_fails l g H r zq zsp zrm zst zsl zsv ztx zln (nI 0) zsg zbg zwd zhg zin zop zbe zwi zhi zbk zot zer zen zpo zpi zgr zsh zsn (nI 2) hR) hR.o rfl hl.1 (Nat.le_of_ble_eq_true rfl) dX11_sew_32 ⟨Nat.le_of_ble_eq_true rfl, Nat.le_of_ble_eq_true rfl⟩ ⟨Nat.le_of_ble_eq_true rfl, Nat.le_of_ble_eq_true rfl⟩ hS (by have hz9 := hS.1; rintro q (h | h) <;> first | exact Or.inr (by omega) | exact h.elim | exact Or.inl h | (simp only [ftA] at h ⊢; omega)) (fun v H1 locs hpo hfr hS => ?_)
  obtain ⟨rfl, hR⟩ := hpo
  generalize H1 = H at hfr hS hR ⊢
  refine W.widen (k := 0) (n := 0) (Nat.le_of_ble_eq_true rfl) (Nat.le_of_ble_eq_true rfl) ?_
  refine mh_iret hB ⟨Nat.le_of_ble_eq_true rfl, Nat.le_of_ble_eq_true rfl⟩ hS dX11_sew_35 ⟨?_, ?_⟩
  · rfl
  · exact hR

def rm_c_X11_sew_t3 : Room := { frames := 3, cells := 0, slots := 0, locals := 63 }
set_option maxRecDepth 100000 in
set_option maxHeartbeats 400000 in
theorem c_X11_sew_t3 (l : Launch) (g : GG) (H0 : Heap) (r : Nat) (zq : Nat → Int32) (zsp : Nat → Int32) (zrm : Nat → Int32) (zst : Int32) (zsl : Nat → Int32) (zsv : Nat → Int32) (ztx : Nat → Int32) (zln : Int32) (zth : Int32) (zsg : Nat → Int32) (zbg : Nat → Int32) (zwd : Nat → Int32) (zhg : Nat → Int32) (zin : Nat → Int32) (zop : Int32) (zbe : Int32) (zwi : Int32) (zhi : Int32) (zbk : Nat → Int32) (zot : Nat → Int32) (zer : Int32) (zen : Int32) (zpo : Nat → Int32) (zpi : Int32) (zgr : Int32) (zsh : Nat → Int32) (zsn : Int32) (f : Nat) (x : Nat) (hR : ModAt g r zq zsp zrm zst zsl zsv ztx zln zth zsg zbg zwd zhg zin zop zbe zwi zhi zbk zot zer zen zpo zpi zgr zsh zsn H0) (hW : WF zq) (hf : f < 3) (hx1 : 0 < x) (hx2 : x < 100) (hs0 : ¬ (0 < szF zq f ∧ 0 < nmQ zq)) : Ct l yX11_sew cX11_sew 3 (some .int) rm_c_X11_sew_t3 g [.ref r, .int (nI f), .int (nI x)] H0 (ftA (fun q => r ≤ q ∧ q < r + 16) H0.size) (fun v H1 => v = some (.int (nI 0)) ∧ ModAt g r zq zsp zrm zst zsl zsv ztx zln (nI 3) zsg zbg zwd zhg zin zop zbe zwi zhi zbk zot zer zen zpo zpi zgr zsh zsn H1) := by
  refine Ct.of (by decide) (fun _ h => Or.inr h) (Nat.le_of_ble_eq_true rfl) ?_
  intro p e s m below meth c ls hB hin hS hH hl
  have hx := hB.x
  have hb := hB.b
  have hl : lv_has ls 3 [(0, .ref r), (1, .int (nI f)), (2, .int (nI x))] := hl
  refine lv_aload_n hx hb dX11_sew_0 rfl (lv_at hl 0 rfl) ?_
  refine lv_iconst (v := nI 0) hx hb dX11_sew_1 (by decide) ?_
  refine pf_X11_56 hB hR.o (by first | exact Or.inl rfl | (simp only [ftA]; omega) | (simp [ftA]; omega)) hS rfl rfl (Nat.le_of_ble_eq_true rfl) dX11_sew_2 (fun H locs hwr => ?_)
  obtain ⟨hR, hS⟩ := hR.w_zth hwr
  refine lv_iload_n hx hb dX11_sew_5 rfl (lv_at hl 1 rfl) ?_
  refine cl_X11_175 (As := [.int (nI f)]) (rest := []) hB (c_X11_isFrame l g H (nI f)) rfl hl.1 (Nat.le_of_ble_eq_true rfl) dX11_sew_6 ⟨Nat.le_of_ble_eq_true rfl, Nat.le_of_ble_eq_true rfl⟩ ⟨Nat.le_of_ble_eq_true rfl, Nat.le_of_ble_eq_true rfl⟩ hS (by have hz9 := hS.1; rintro q (h | h) <;> first | exact Or.inr (by omega) | exact h.elim | exact Or.inl h | (simp only [ftA] at h ⊢; omega)) (fun v H1 locs hpo hfr hS => ?_)
  obtain ⟨rfl, rfl⟩ := hpo
  refine W.widen (k := 0) (n := 0) (Nat.le_of_ble_eq_true rfl) (Nat.le_of_ble_eq_true rfl) ?_
  refine mb_if_ne (tgt := 18) hB dX11_sew_9 (by decide) (fun h_9 => ?_) (fun h => by rw [isIx_of hf (by omega)] at h; cases h)
  refine lv_iload_n hx hb dX11_sew_18 rfl (lv_at hl 2 rfl) ?_
  refine lv_i2l (v := (nI x).toInt64) hx hb dX11_sew_19 rfl ?_
  refine lv_lconst (v := 1) hx hb dX11_sew_20 (by decide) ?_
  refine lv_ldc2 (v := (99)) hx hb hB.ow (hB.K.2 _ kw_1218 _) dX11_sew_21 ?_
  refine cl_X11_63 (As := [.long ((nI x).toInt64), .long 1, .long (99)]) (rest := []) hB (c_X11_in l g H ((nI x).toInt64) 1 (99)) rfl hl.1 (Nat.le_of_ble_eq_true rfl) dX11_sew_24 ⟨Nat.le_of_ble_eq_true rfl, Nat.le_of_ble_eq_true rfl⟩ ⟨Nat.le_of_ble_eq_true rfl, Nat.le_of_ble_eq_true rfl⟩ hS (by have hz9 := hS.1; rintro q (h | h) <;> first | exact Or.inr (by omega) | exact h.elim | exact Or.inl h | (simp only [ftA] at h ⊢; omega)) (fun v H1 locs hpo hfr hS => ?_)
  obtain ⟨rfl, rfl⟩ := hpo
  refine W.widen (k := 0) (n := 0) (Nat.le_of_ble_eq_true rfl) (Nat.le_of_ble_eq_true rfl) ?_
  refine mb_if_ne (tgt := 36) hB dX11_sew_27 (by decide) (fun h_27 => ?_) (fun h => by rw [isRg_of hx1 hx2] at h; cases h)
  refine lv_aload_n hx hb dX11_sew_36 rfl (lv_at hl 0 rfl) ?_
  refine lv_iload_n hx hb dX11_sew_37 rfl (lv_at hl 1 rfl) ?_
  refine cl_X11_215 (As := [.int (nI f)]) (rest := []) hB (c_X11_canSew l g H r zq zsp zrm zst zsl zsv ztx zln (nI 0) zsg zbg zwd zhg zin zop zbe zwi zhi zbk zot zer zen zpo zpi zgr zsh zsn f hR (by omega) (by omega)) hR.o rfl hl.1 (Nat.le_of_ble_eq_true rfl) dX11_sew_38 ⟨Nat.le_of_ble_eq_true rfl, Nat.le_of_ble_eq_true rfl⟩ ⟨Nat.le_of_ble_eq_true rfl, Nat.le_of_ble_eq_true rfl⟩ hS (by have hz9 := hS.1; rintro q (h | h) <;> first | exact Or.inr (by omega) | exact h.elim | exact Or.inl h | (simp only [ftA] at h ⊢; omega)) (fun v H1 locs hpo hfr hS => ?_)
  obtain ⟨rfl, rfl⟩ := hpo
  refine W.widen (k := 0) (n := 0) (Nat.le_of_ble_eq_true rfl) (Nat.le_of_ble_eq_true rfl) ?_
  refine mb_if_ne (tgt := 50) hB dX11_sew_41 (by decide) (fun h => by rw [decide_eq_false hs0] at h; cases h) (fun h_41 => ?_)
  refine lv_aload_n hx hb dX11_sew_44 rfl (lv_at hl 0 rfl) ?_
  refine lv_iconst (v := nI 3) hx hb dX11_sew_45 (by decide) ?_
  refine cl_X11_81 (As := [.int (nI 3)]) (rest := []) hB (c_X11_fails l g H r zq zsp zrm zst zsl zsv ztx zln (nI 0) zsg zbg zwd zhg zin zop zbe zwi zhi zbk zot zer zen zpo zpi zgr zsh zsn (nI 3) hR) hR.o rfl hl.1 (Nat.le_of_ble_eq_true rfl) dX11_sew_46 ⟨Nat.le_of_ble_eq_true rfl, Nat.le_of_ble_eq_true rfl⟩ ⟨Nat.le_of_ble_eq_true rfl, Nat.le_of_ble_eq_true rfl⟩ hS (by have hz9 := hS.1; rintro q (h | h) <;> first | exact Or.inr (by omega) | exact h.elim | exact Or.inl h | (simp only [ftA] at h ⊢; omega)) (fun v H1 locs hpo hfr hS => ?_)
  obtain ⟨rfl, hR⟩ := hpo
  generalize H1 = H at hfr hS hR ⊢
  refine W.widen (k := 0) (n := 0) (Nat.le_of_ble_eq_true rfl) (Nat.le_of_ble_eq_true rfl) ?_
  refine mh_iret hB ⟨Nat.le_of_ble_eq_true rfl, Nat.le_of_ble_eq_true rfl⟩ hS dX11_sew_49 ⟨?_, ?_⟩
  · rfl
  · exact hR

def rm_c_X11_takesApart : Room := { frames := 2, cells := 0, slots := 0, locals := 43 }
set_option maxRecDepth 100000 in
set_option maxHeartbeats 400000 in
theorem c_X11_takesApart (l : Launch) (g : GG) (H0 : Heap) (r : Nat) (zq : Nat → Int32) (zsp : Nat → Int32) (zrm : Nat → Int32) (zst : Int32) (zsl : Nat → Int32) (zsv : Nat → Int32) (ztx : Nat → Int32) (zln : Int32) (zth : Int32) (zsg : Nat → Int32) (zbg : Nat → Int32) (zwd : Nat → Int32) (zhg : Nat → Int32) (zin : Nat → Int32) (zop : Int32) (zbe : Int32) (zwi : Int32) (zhi : Int32) (zbk : Nat → Int32) (zot : Nat → Int32) (zer : Int32) (zen : Int32) (zpo : Nat → Int32) (zpi : Int32) (zgr : Int32) (zsh : Nat → Int32) (zsn : Int32) (f : Nat) (hR : ModAt g r zq zsp zrm zst zsl zsv ztx zln zth zsg zbg zwd zhg zin zop zbe zwi zhi zbk zot zer zen zpo zpi zgr zsh zsn H0) (hW : WF zq) (hf : f < 3) : Ct l yX11_takesApart cX11_takesApart 4 (some .int) rm_c_X11_takesApart g [.ref r, .int (nI f)] H0 (ftA (fun q => r ≤ q ∧ q < r + 16) H0.size) (fun v H1 => v = some (.int (nI (swF zq f))) ∧ ModAt g r (tapQ zq f) zsp zrm zst zsl zsv ztx zln zth zsg zbg zwd zhg zin zop zbe zwi zhi zbk zot zer zen zpo zpi zgr zsh zsn H1) := by
  refine Ct.of (by decide) (fun _ h => Or.inr h) (Nat.le_of_ble_eq_true rfl) ?_
  intro p e s m below meth c ls hB hin hS hH hl
  have hx := hB.x
  have hb := hB.b
  have hl : lv_has ls 4 [(0, .ref r), (1, .int (nI f))] := hl
  have hF := hW.fr hf
  have hsz := WF.sz hF
  have hsw := WF.sw hF
  refine lv_aload_n hx hb dX11_takesApart_0 rfl (lv_at hl 0 rfl) ?_
  refine gf_X11_7 hB hR.o rfl dX11_takesApart_1 ?_
  refine lv_iload_n hx hb dX11_takesApart_4 rfl (lv_at hl 1 rfl) ?_
  refine lv_iconst (v := nI 2) hx hb dX11_takesApart_5 (by decide) ?_
  refine cl_X11_71 (As := [.int (nI f), .int (nI 2)]) (rest := [.ref (r + 1)]) hB (c_X11_at l g H0 f 2) rfl hl.1 (Nat.le_of_ble_eq_true rfl) dX11_takesApart_6 ⟨Nat.le_of_ble_eq_true rfl, Nat.le_of_ble_eq_true rfl⟩ ⟨Nat.le_of_ble_eq_true rfl, Nat.le_of_ble_eq_true rfl⟩ hS (by have hz9 := hS.1; rintro q (h | h) <;> first | exact Or.inr (by omega) | exact h.elim | exact Or.inl h | (simp only [ftA] at h ⊢; omega)) (fun v H1 locs hpo hfr hS => ?_)
  obtain ⟨rfl, rfl⟩ := hpo
  refine W.widen (k := 0) (n := 0) (Nat.le_of_ble_eq_true rfl) (Nat.le_of_ble_eq_true rfl) ?_
  refine mn_iald hB hR.a_zq (by omega) (by omega) dX11_takesApart_9 ?_
  refine mh_top (y := .int (nI (swF zq f))) (by rw [hF.s]) ?_
  refine lv_istore_n (lv' := [(2, .int (nI (swF zq f))), (0, .ref r), (1, .int (nI f))]) hx hb dX11_takesApart_10 rfl hl (by decide) rfl (fun ls hl => ?_)
  refine lv_iconst (v := nI 0) hx hb dX11_takesApart_11 (by decide) ?_
  refine lv_istore_n (lv' := [(3, .int (nI 0)), (2, .int (nI (swF zq f))), (0, .ref r), (1, .int (nI f))]) hx hb dX11_takesApart_12 rfl hl (by decide) rfl (fun ls hl => ?_)
  refine mh_loop (σ := Nat) (fun xx9 H locs ls => match xx9 with | i9 => i9 ≤ swF zq f ∧ ModAt g r (incU 56 zq f i9) zsp zrm zst zsl zsv ztx zln zth zsg zbg zwd zhg zin zop zbe zwi zhi zbk zot zer zen zpo zpi zgr zsh zsn H ∧ va_S (ftA (fun q => r ≤ q ∧ q < r + 16) H0.size) H0 H locs ∧ lv_has ls 4 [(0, .ref r), (1, .int (nI f)), (2, .int (nI (swF zq f))), (3, .int (nI i9))]) (fun xx9 => match xx9 with | i9 => swF zq f - i9) ?_ 0 ⟨(by omega), hR, hS, lv_sub hl [2, 3, 1, 0] rfl⟩
  rintro i9 H locs ls ⟨hi, hR, hS, hl⟩ ih
  have ih13 := ih
  have hs9 : Same zq (incU 56 zq f i9) f := incU_same hF (by omega) (by omega)
  refine lv_iload_n hx hb dX11_takesApart_13 rfl (lv_at hl 3 rfl) ?_
  refine lv_iload_n hx hb dX11_takesApart_14 rfl (lv_at hl 2 rfl) ?_
  refine mn_icmp_ge (tgt := 42) hB dX11_takesApart_15 (by decide) (by omega) (by omega) (fun h_15 => ?_) (fun h_15 => ?_)
  · skip
    have hin : i9 = swF zq f := by omega
    subst hin
    refine lv_aload_n hx hb dX11_takesApart_42 rfl (lv_at hl 0 rfl) ?_
    refine lv_iload_n hx hb dX11_takesApart_43 rfl (lv_at hl 1 rfl) ?_
    refine cl_X11_221 (As := [.int (nI f)]) (rest := []) hB (c_X11_empties l g H r (incU 56 zq f (swF zq f)) zsp zrm zst zsl zsv ztx zln zth zsg zbg zwd zhg zin zop zbe zwi zhi zbk zot zer zen zpo zpi zgr zsh zsn f hR (by omega)) hR.o rfl hl.1 (Nat.le_of_ble_eq_true rfl) dX11_takesApart_44 ⟨Nat.le_of_ble_eq_true rfl, Nat.le_of_ble_eq_true rfl⟩ ⟨Nat.le_of_ble_eq_true rfl, Nat.le_of_ble_eq_true rfl⟩ hS (by have hz9 := hS.1; rintro q (h | h) <;> first | exact Or.inr (by omega) | exact h.elim | exact Or.inl h | (simp only [ftA] at h ⊢; omega)) (fun v H1 locs hpo hfr hS => ?_)
    obtain ⟨rfl, hR⟩ := hpo
    generalize H1 = H at hfr hS hR ⊢
    refine W.widen (k := 0) (n := 0) (Nat.le_of_ble_eq_true rfl) (Nat.le_of_ble_eq_true rfl) ?_
    refine lv_iload_n hx hb dX11_takesApart_47 rfl (lv_at hl 2 rfl) ?_
    refine mh_iret hB ⟨Nat.le_of_ble_eq_true rfl, Nat.le_of_ble_eq_true rfl⟩ hS dX11_takesApart_48 ⟨?_, ?_⟩
    · rfl
    · exact hR
  · skip
    refine lv_aload_n hx hb dX11_takesApart_18 rfl (lv_at hl 0 rfl) ?_
    refine gf_X11_7 hB hR.o rfl dX11_takesApart_19 ?_
    refine lv_bipush (v := nI 56) hx hb dX11_takesApart_22 (by decide) ?_
    refine lv_aload_n hx hb dX11_takesApart_24 rfl (lv_at hl 0 rfl) ?_
    refine lv_iload_n hx hb dX11_takesApart_25 rfl (lv_at hl 1 rfl) ?_
    refine lv_iload_n hx hb dX11_takesApart_26 rfl (lv_at hl 3 rfl) ?_
    refine cl_X11_150 (As := [.int (nI f), .int (nI i9)]) (rest := [.int (nI 56), .ref (r + 1)]) hB (c_X11_colourAt l g H r (incU 56 zq f i9) zsp zrm zst zsl zsv ztx zln zth zsg zbg zwd zhg zin zop zbe zwi zhi zbk zot zer zen zpo zpi zgr zsh zsn f i9 hR (by omega) (hs9.wf hF) (by omega)) hR.o rfl hl.1 (Nat.le_of_ble_eq_true rfl) dX11_takesApart_27 ⟨Nat.le_of_ble_eq_true rfl, Nat.le_of_ble_eq_true rfl⟩ ⟨Nat.le_of_ble_eq_true rfl, Nat.le_of_ble_eq_true rfl⟩ hS (by have hz9 := hS.1; rintro q (h | h) <;> first | exact Or.inr (by omega) | exact h.elim | exact Or.inl h | (simp only [ftA] at h ⊢; omega)) (fun v H1 locs hpo hfr hS => ?_)
    obtain ⟨rfl, rfl⟩ := hpo
    refine W.widen (k := 0) (n := 0) (Nat.le_of_ble_eq_true rfl) (Nat.le_of_ble_eq_true rfl) ?_
    refine mh_top (y := .int (nI (clF zq f i9))) (by rw [hs9.cl (by omega)]) ?_
    have hc6 := hF.c6 (k := i9) (by omega)
    refine mn_iadd hB dX11_takesApart_30 ?_
    refine lv_dup2_11 hx hb dX11_takesApart_31 rfl rfl ?_
    refine mn_iald hB hR.a_zq (by omega) (by omega) dX11_takesApart_32 ?_
    refine lv_iconst (v := nI 1) hx hb dX11_takesApart_33 (by decide) ?_
    refine lv_iadd hx hb dX11_takesApart_34 ?_
    refine mn_iast hB hR.a_zq (by first | exact Or.inl rfl | (simp only [ftA]; omega) | (simp [ftA]; omega)) hS (by omega) (by omega) dX11_takesApart_35 (fun H locs hwr => ?_)
    obtain ⟨hR, hS⟩ := hR.w_zq hwr
    refine lv_iinc (v := nI (i9 + 1)) (lv' := [(3, .int (nI (i9 + 1))), (0, .ref r), (1, .int (nI f)), (2, .int (nI (swF zq f)))]) hx hb dX11_takesApart_36 hl (k := 3) rfl (nI_1 _) (by decide) rfl (fun ls hl => ?_)
    refine lv_goto (tgt := 13) hx hb dX11_takesApart_39 (by decide) ?_
    refine ih13 (i9 + 1) _ _ _ ⟨(by omega), hR, hS, lv_sub hl [1, 2, 3, 0] rfl⟩ (by dsimp only; omega)

def rm_c_X11_takeApart : Room := { frames := 3, cells := 0, slots := 0, locals := 66 }
set_option maxRecDepth 100000 in
set_option maxHeartbeats 400000 in
theorem c_X11_takeApart (l : Launch) (g : GG) (H0 : Heap) (r : Nat) (zq : Nat → Int32) (zsp : Nat → Int32) (zrm : Nat → Int32) (zsl : Nat → Int32) (zsv : Nat → Int32) (ztx : Nat → Int32) (zln : Int32) (zth : Int32) (zsg : Nat → Int32) (zbg : Nat → Int32) (zwd : Nat → Int32) (zhg : Nat → Int32) (zin : Nat → Int32) (zop : Int32) (zbe : Int32) (zwi : Int32) (zhi : Int32) (zbk : Nat → Int32) (zot : Nat → Int32) (zer : Int32) (zen : Int32) (zpo : Nat → Int32) (zpi : Int32) (zgr : Int32) (zsh : Nat → Int32) (zsn : Int32) (n : Nat) (f : Nat) (hR : ModAt g r zq zsp zrm (nI n) zsl zsv ztx zln zth zsg zbg zwd zhg zin zop zbe zwi zhi zbk zot zer zen zpo zpi zgr zsh zsn H0) (hn : n ≤ 14) (hW : WF zq) (hf : f < 3) (hs0 : 0 < szF zq f) : Ct l yX11_takeApart cX11_takeApart 2 (some .int) rm_c_X11_takeApart g [.ref r, .int (nI f)] H0 (ftA (fun q => r ≤ q ∧ q < r + 16) H0.size) (fun v H1 => v = some (.int (nI (swF zq f))) ∧ ModAt g r (tapQ zq f) zsp (remA zrm n zq) (nI (nxtS n)) zsl zsv ztx zln (nI 0) zsg zbg zwd zhg zin zop zbe zwi zhi zbk zot zer zen zpo zpi zgr zsh zsn H1) := by
  refine Ct.of (by decide) (fun _ h => Or.inr h) (Nat.le_of_ble_eq_true rfl) ?_
  intro p e s m below meth c ls hB hin hS hH hl
  have hx := hB.x
  have hb := hB.b
  have hl : lv_has ls 2 [(0, .ref r), (1, .int (nI f))] := hl
  refine lv_aload_n hx hb dX11_takeApart_0 rfl (lv_at hl 0 rfl) ?_
  refine lv_iconst (v := nI 0) hx hb dX11_takeApart_1 (by decide) ?_
  refine pf_X11_56 hB hR.o (by first | exact Or.inl rfl | (simp only [ftA]; omega) | (simp [ftA]; omega)) hS rfl rfl (Nat.le_of_ble_eq_true rfl) dX11_takeApart_2 (fun H locs hwr => ?_)
  obtain ⟨hR, hS⟩ := hR.w_zth hwr
  refine lv_iload_n hx hb dX11_takeApart_5 rfl (lv_at hl 1 rfl) ?_
  refine cl_X11_175 (As := [.int (nI f)]) (rest := []) hB (c_X11_isFrame l g H (nI f)) rfl hl.1 (Nat.le_of_ble_eq_true rfl) dX11_takeApart_6 ⟨Nat.le_of_ble_eq_true rfl, Nat.le_of_ble_eq_true rfl⟩ ⟨Nat.le_of_ble_eq_true rfl, Nat.le_of_ble_eq_true rfl⟩ hS (by have hz9 := hS.1; rintro q (h | h) <;> first | exact Or.inr (by omega) | exact h.elim | exact Or.inl h | (simp only [ftA] at h ⊢; omega)) (fun v H1 locs hpo hfr hS => ?_)
  obtain ⟨rfl, rfl⟩ := hpo
  refine W.widen (k := 0) (n := 0) (Nat.le_of_ble_eq_true rfl) (Nat.le_of_ble_eq_true rfl) ?_
  refine mb_if_ne (tgt := 18) hB dX11_takeApart_9 (by decide) (fun h_9 => ?_) (fun h => by rw [isIx_of hf (by omega)] at h; cases h)
  refine lv_aload_n hx hb dX11_takeApart_18 rfl (lv_at hl 0 rfl) ?_
  refine lv_iload_n hx hb dX11_takeApart_19 rfl (lv_at hl 1 rfl) ?_
  refine cl_X11_75 (As := [.int (nI f)]) (rest := []) hB (c_X11_patches l g H r zq zsp zrm (nI n) zsl zsv ztx zln (nI 0) zsg zbg zwd zhg zin zop zbe zwi zhi zbk zot zer zen zpo zpi zgr zsh zsn f hR (by omega) (hW.fr hf)) hR.o rfl hl.1 (Nat.le_of_ble_eq_true rfl) dX11_takeApart_20 ⟨Nat.le_of_ble_eq_true rfl, Nat.le_of_ble_eq_true rfl⟩ ⟨Nat.le_of_ble_eq_true rfl, Nat.le_of_ble_eq_true rfl⟩ hS (by have hz9 := hS.1; rintro q (h | h) <;> first | exact Or.inr (by omega) | exact h.elim | exact Or.inl h | (simp only [ftA] at h ⊢; omega)) (fun v H1 locs hpo hfr hS => ?_)
  obtain ⟨rfl, rfl⟩ := hpo
  refine W.widen (k := 0) (n := 0) (Nat.le_of_ble_eq_true rfl) (Nat.le_of_ble_eq_true rfl) ?_
  refine mn_if_ne (tgt := 32) hB dX11_takeApart_23 (by decide) (by have := WF.sz (hW.fr hf); omega) (fun h_23 => ?_) (fun h => by exfalso; omega)
  refine lv_aload_n hx hb dX11_takeApart_32 rfl (lv_at hl 0 rfl) ?_
  refine cl_X11_200 (As := []) (rest := []) hB (c_X11_remember l g H r zq zsp zrm zsl zsv ztx zln (nI 0) zsg zbg zwd zhg zin zop zbe zwi zhi zbk zot zer zen zpo zpi zgr zsh zsn n hR (by omega)) hR.o rfl hl.1 (Nat.le_of_ble_eq_true rfl) dX11_takeApart_33 ⟨Nat.le_of_ble_eq_true rfl, Nat.le_of_ble_eq_true rfl⟩ ⟨Nat.le_of_ble_eq_true rfl, Nat.le_of_ble_eq_true rfl⟩ hS (by have hz9 := hS.1; rintro q (h | h) <;> first | exact Or.inr (by omega) | exact h.elim | exact Or.inl h | (simp only [ftA] at h ⊢; omega)) (fun v H1 locs hpo hfr hS => ?_)
  obtain ⟨rfl, hR⟩ := hpo
  generalize H1 = H at hfr hS hR ⊢
  refine W.widen (k := 0) (n := 0) (Nat.le_of_ble_eq_true rfl) (Nat.le_of_ble_eq_true rfl) ?_
  refine lv_aload_n hx hb dX11_takeApart_36 rfl (lv_at hl 0 rfl) ?_
  refine lv_iload_n hx hb dX11_takeApart_37 rfl (lv_at hl 1 rfl) ?_
  refine cl_X11_224 (As := [.int (nI f)]) (rest := []) hB (c_X11_takesApart l g H r zq zsp (remA zrm n zq) (nI (nxtS n)) zsl zsv ztx zln (nI 0) zsg zbg zwd zhg zin zop zbe zwi zhi zbk zot zer zen zpo zpi zgr zsh zsn f hR (by omega) (by omega)) hR.o rfl hl.1 (Nat.le_of_ble_eq_true rfl) dX11_takeApart_38 ⟨Nat.le_of_ble_eq_true rfl, Nat.le_of_ble_eq_true rfl⟩ ⟨Nat.le_of_ble_eq_true rfl, Nat.le_of_ble_eq_true rfl⟩ hS (by have hz9 := hS.1; rintro q (h | h) <;> first | exact Or.inr (by omega) | exact h.elim | exact Or.inl h | (simp only [ftA] at h ⊢; omega)) (fun v H1 locs hpo hfr hS => ?_)
  obtain ⟨rfl, hR⟩ := hpo
  generalize H1 = H at hfr hS hR ⊢
  refine W.widen (k := 0) (n := 0) (Nat.le_of_ble_eq_true rfl) (Nat.le_of_ble_eq_true rfl) ?_
  refine mh_iret hB ⟨Nat.le_of_ble_eq_true rfl, Nat.le_of_ble_eq_true rfl⟩ hS dX11_takeApart_41 ⟨?_, ?_⟩
  · rfl
  · exact hR

def rm_c_X11_takeApart_t1 : Room := { frames := 2, cells := 0, slots := 0, locals := 45 }
set_option maxRecDepth 100000 in
set_option maxHeartbeats 400000 in
theorem c_X11_takeApart_t1 (l : Launch) (g : GG) (H0 : Heap) (r : Nat) (zq : Nat → Int32) (zsp : Nat → Int32) (zrm : Nat → Int32) (zst : Int32) (zsl : Nat → Int32) (zsv : Nat → Int32) (ztx : Nat → Int32) (zln : Int32) (zth : Int32) (zsg : Nat → Int32) (zbg : Nat → Int32) (zwd : Nat → Int32) (zhg : Nat → Int32) (zin : Nat → Int32) (zop : Int32) (zbe : Int32) (zwi : Int32) (zhi : Int32) (zbk : Nat → Int32) (zot : Nat → Int32) (zer : Int32) (zen : Int32) (zpo : Nat → Int32) (zpi : Int32) (zgr : Int32) (zsh : Nat → Int32) (zsn : Int32) (x : Int32) (hR : ModAt g r zq zsp zrm zst zsl zsv ztx zln zth zsg zbg zwd zhg zin zop zbe zwi zhi zbk zot zer zen zpo zpi zgr zsh zsn H0) (hx1 : isIx x 3 = false) : Ct l yX11_takeApart cX11_takeApart 2 (some .int) rm_c_X11_takeApart_t1 g [.ref r, .int x] H0 (ftA (fun q => r ≤ q ∧ q < r + 16) H0.size) (fun v H1 => v = some (.int (nI 0)) ∧ ModAt g r zq zsp zrm zst zsl zsv ztx zln (nI 1) zsg zbg zwd zhg zin zop zbe zwi zhi zbk zot zer zen zpo zpi zgr zsh zsn H1) := by
  refine Ct.of (by decide) (fun _ h => Or.inr h) (Nat.le_of_ble_eq_true rfl) ?_
  intro p e s m below meth c ls hB hin hS hH hl
  have hx := hB.x
  have hb := hB.b
  have hl : lv_has ls 2 [(0, .ref r), (1, .int x)] := hl
  refine lv_aload_n hx hb dX11_takeApart_0 rfl (lv_at hl 0 rfl) ?_
  refine lv_iconst (v := nI 0) hx hb dX11_takeApart_1 (by decide) ?_
  refine pf_X11_56 hB hR.o (by first | exact Or.inl rfl | (simp only [ftA]; omega) | (simp [ftA]; omega)) hS rfl rfl (Nat.le_of_ble_eq_true rfl) dX11_takeApart_2 (fun H locs hwr => ?_)
  obtain ⟨hR, hS⟩ := hR.w_zth hwr
  refine lv_iload_n hx hb dX11_takeApart_5 rfl (lv_at hl 1 rfl) ?_
  refine cl_X11_175 (As := [.int x]) (rest := []) hB (c_X11_isFrame l g H x) rfl hl.1 (Nat.le_of_ble_eq_true rfl) dX11_takeApart_6 ⟨Nat.le_of_ble_eq_true rfl, Nat.le_of_ble_eq_true rfl⟩ ⟨Nat.le_of_ble_eq_true rfl, Nat.le_of_ble_eq_true rfl⟩ hS (by have hz9 := hS.1; rintro q (h | h) <;> first | exact Or.inr (by omega) | exact h.elim | exact Or.inl h | (simp only [ftA] at h ⊢; omega)) (fun v H1 locs hpo hfr hS => ?_)
  obtain ⟨rfl, rfl⟩ := hpo
  refine W.widen (k := 0) (n := 0) (Nat.le_of_ble_eq_true rfl) (Nat.le_of_ble_eq_true rfl) ?_
  refine mb_if_ne (tgt := 18) hB dX11_takeApart_9 (by decide) (fun h => by rw [hx1] at h; cases h) (fun h_9 => ?_)
  refine lv_aload_n hx hb dX11_takeApart_12 rfl (lv_at hl 0 rfl) ?_
  refine lv_iconst (v := nI 1) hx hb dX11_takeApart_13 (by decide) ?_
  refine cl_X11_81 (As := [.int (nI 1)]) (rest := []) hB (c_X11_fails l g H r zq zsp zrm zst zsl zsv ztx zln (nI 0) zsg zbg zwd zhg zin zop zbe zwi zhi zbk zot zer zen zpo zpi zgr zsh zsn (nI 1) hR) hR.o rfl hl.1 (Nat.le_of_ble_eq_true rfl) dX11_takeApart_14 ⟨Nat.le_of_ble_eq_true rfl, Nat.le_of_ble_eq_true rfl⟩ ⟨Nat.le_of_ble_eq_true rfl, Nat.le_of_ble_eq_true rfl⟩ hS (by have hz9 := hS.1; rintro q (h | h) <;> first | exact Or.inr (by omega) | exact h.elim | exact Or.inl h | (simp only [ftA] at h ⊢; omega)) (fun v H1 locs hpo hfr hS => ?_)
  obtain ⟨rfl, hR⟩ := hpo
  generalize H1 = H at hfr hS hR ⊢
  refine W.widen (k := 0) (n := 0) (Nat.le_of_ble_eq_true rfl) (Nat.le_of_ble_eq_true rfl) ?_
  refine mh_iret hB ⟨Nat.le_of_ble_eq_true rfl, Nat.le_of_ble_eq_true rfl⟩ hS dX11_takeApart_17 ⟨?_, ?_⟩
  · rfl
  · exact hR

def rm_c_X11_takeApart_t2 : Room := { frames := 2, cells := 0, slots := 0, locals := 45 }
set_option maxRecDepth 100000 in
set_option maxHeartbeats 400000 in
theorem c_X11_takeApart_t2 (l : Launch) (g : GG) (H0 : Heap) (r : Nat) (zq : Nat → Int32) (zsp : Nat → Int32) (zrm : Nat → Int32) (zst : Int32) (zsl : Nat → Int32) (zsv : Nat → Int32) (ztx : Nat → Int32) (zln : Int32) (zth : Int32) (zsg : Nat → Int32) (zbg : Nat → Int32) (zwd : Nat → Int32) (zhg : Nat → Int32) (zin : Nat → Int32) (zop : Int32) (zbe : Int32) (zwi : Int32) (zhi : Int32) (zbk : Nat → Int32) (zot : Nat → Int32) (zer : Int32) (zen : Int32) (zpo : Nat → Int32) (zpi : Int32) (zgr : Int32) (zsh : Nat → Int32) (zsn : Int32) (f : Nat) (hR : ModAt g r zq zsp zrm zst zsl zsv ztx zln zth zsg zbg zwd zhg zin zop zbe zwi zhi zbk zot zer zen zpo zpi zgr zsh zsn H0) (hW : WF zq) (hf : f < 3) (hs0 : szF zq f = 0) : Ct l yX11_takeApart cX11_takeApart 2 (some .int) rm_c_X11_takeApart_t2 g [.ref r, .int (nI f)] H0 (ftA (fun q => r ≤ q ∧ q < r + 16) H0.size) (fun v H1 => v = some (.int (nI 0)) ∧ ModAt g r zq zsp zrm zst zsl zsv ztx zln (nI 2) zsg zbg zwd zhg zin zop zbe zwi zhi zbk zot zer zen zpo zpi zgr zsh zsn H1) := by
  refine Ct.of (by decide) (fun _ h => Or.inr h) (Nat.le_of_ble_eq_true rfl) ?_
  intro p e s m below meth c ls hB hin hS hH hl
  have hx := hB.x
  have hb := hB.b
  have hl : lv_has ls 2 [(0, .ref r), (1, .int (nI f))] := hl
  refine lv_aload_n hx hb dX11_takeApart_0 rfl (lv_at hl 0 rfl) ?_
  refine lv_iconst (v := nI 0) hx hb dX11_takeApart_1 (by decide) ?_
  refine pf_X11_56 hB hR.o (by first | exact Or.inl rfl | (simp only [ftA]; omega) | (simp [ftA]; omega)) hS rfl rfl (Nat.le_of_ble_eq_true rfl) dX11_takeApart_2 (fun H locs hwr => ?_)
  obtain ⟨hR, hS⟩ := hR.w_zth hwr
  refine lv_iload_n hx hb dX11_takeApart_5 rfl (lv_at hl 1 rfl) ?_
  refine cl_X11_175 (As := [.int (nI f)]) (rest := []) hB (c_X11_isFrame l g H (nI f)) rfl hl.1 (Nat.le_of_ble_eq_true rfl) dX11_takeApart_6 ⟨Nat.le_of_ble_eq_true rfl, Nat.le_of_ble_eq_true rfl⟩ ⟨Nat.le_of_ble_eq_true rfl, Nat.le_of_ble_eq_true rfl⟩ hS (by have hz9 := hS.1; rintro q (h | h) <;> first | exact Or.inr (by omega) | exact h.elim | exact Or.inl h | (simp only [ftA] at h ⊢; omega)) (fun v H1 locs hpo hfr hS => ?_)
  obtain ⟨rfl, rfl⟩ := hpo
  refine W.widen (k := 0) (n := 0) (Nat.le_of_ble_eq_true rfl) (Nat.le_of_ble_eq_true rfl) ?_
  refine mb_if_ne (tgt := 18) hB dX11_takeApart_9 (by decide) (fun h_9 => ?_) (fun h => by rw [isIx_of hf (by omega)] at h; cases h)
  refine lv_aload_n hx hb dX11_takeApart_18 rfl (lv_at hl 0 rfl) ?_
  refine lv_iload_n hx hb dX11_takeApart_19 rfl (lv_at hl 1 rfl) ?_
  refine cl_X11_75 (As := [.int (nI f)]) (rest := []) hB (c_X11_patches l g H r zq zsp zrm zst zsl zsv ztx zln (nI 0) zsg zbg zwd zhg zin zop zbe zwi zhi zbk zot zer zen zpo zpi zgr zsh zsn f hR (by omega) (hW.fr hf)) hR.o rfl hl.1 (Nat.le_of_ble_eq_true rfl) dX11_takeApart_20 ⟨Nat.le_of_ble_eq_true rfl, Nat.le_of_ble_eq_true rfl⟩ ⟨Nat.le_of_ble_eq_true rfl, Nat.le_of_ble_eq_true rfl⟩ hS (by have hz9 := hS.1; rintro q (h | h) <;> first | exact Or.inr (by omega) | exact h.elim | exact Or.inl h | (simp only [ftA] at h ⊢; omega)) (fun v H1 locs hpo hfr hS => ?_)
  obtain ⟨rfl, rfl⟩ := hpo
  refine W.widen (k := 0) (n := 0) (Nat.le_of_ble_eq_true rfl) (Nat.le_of_ble_eq_true rfl) ?_
  refine mn_if_ne (tgt := 32) hB dX11_takeApart_23 (by decide) (by omega) (fun h => by exfalso; omega) (fun h_23 => ?_)
  refine lv_aload_n hx hb dX11_takeApart_26 rfl (lv_at hl 0 rfl) ?_
  refine lv_iconst (v := nI 2) hx hb dX11_takeApart_27 (by decide) ?_
  refine cl_X11_81 (As := [.int (nI 2)]) (rest := []) hB (c_X11_fails l g H r zq zsp zrm zst zsl zsv ztx zln (nI 0) zsg zbg zwd zhg zin zop zbe zwi zhi zbk zot zer zen zpo zpi zgr zsh zsn (nI 2) hR) hR.o rfl hl.1 (Nat.le_of_ble_eq_true rfl) dX11_takeApart_28 ⟨Nat.le_of_ble_eq_true rfl, Nat.le_of_ble_eq_true rfl⟩ ⟨Nat.le_of_ble_eq_true rfl, Nat.le_of_ble_eq_true rfl⟩ hS (by have hz9 := hS.1; rintro q (h | h) <;> first | exact Or.inr (by omega) | exact h.elim | exact Or.inl h | (simp only [ftA] at h ⊢; omega)) (fun v H1 locs hpo hfr hS => ?_)
  obtain ⟨rfl, hR⟩ := hpo
  generalize H1 = H at hfr hS hR ⊢
  refine W.widen (k := 0) (n := 0) (Nat.le_of_ble_eq_true rfl) (Nat.le_of_ble_eq_true rfl) ?_
  refine mh_iret hB ⟨Nat.le_of_ble_eq_true rfl, Nat.le_of_ble_eq_true rfl⟩ hS dX11_takeApart_31 ⟨?_, ?_⟩
  · rfl
  · exact hR

def rm_c_X11_rest : Room := { frames := 2, cells := 0, slots := 0, locals := 42 }
set_option maxRecDepth 100000 in
set_option maxHeartbeats 400000 in
theorem c_X11_rest (l : Launch) (g : GG) (H0 : Heap) (r : Nat) (zq : Nat → Int32) (zsp : Nat → Int32) (zrm : Nat → Int32) (zst : Int32) (zsl : Nat → Int32) (zsv : Nat → Int32) (ztx : Nat → Int32) (zln : Int32) (zth : Int32) (zsg : Nat → Int32) (zbg : Nat → Int32) (zwd : Nat → Int32) (zhg : Nat → Int32) (zin : Nat → Int32) (zop : Int32) (zbe : Int32) (zwi : Int32) (zhi : Int32) (zbk : Nat → Int32) (zot : Nat → Int32) (zer : Int32) (zen : Int32) (zpo : Nat → Int32) (zpi : Int32) (zgr : Int32) (zsh : Nat → Int32) (zsn : Int32) (f : Nat) (m0 : Nat) (p0 : Nat) (hR : ModAt g r zq zsp zrm zst zsl zsv ztx zln zth zsg zbg zwd zhg zin zop zbe zwi zhi zbk zot zer zen zpo zpi zgr zsh zsn H0) (hf : f < 3) (hF : WFf zq f) (hp : p0 < 10000) (hs0 : 0 < szF zq f) (hm : m0 < 5) : Ct l yX11_rest cX11_rest 4 (some .int) rm_c_X11_rest g [.ref r, .int (nI f), .int (nI m0), .int (nI p0)] H0 (ftA (fun _ => False) H0.size) (fun v H1 => v = some (.int (nI (rstN zq f p0 m0))) ∧ H0 = H1) := by
  refine Ct.of (by decide) (fun _ h => Or.inr h) (Nat.le_of_ble_eq_true rfl) ?_
  intro p e s m below meth c ls hB hin hS hH hl
  have hx := hB.x
  have hb := hB.b
  have hl : lv_has ls 4 [(0, .ref r), (1, .int (nI f)), (2, .int (nI m0)), (3, .int (nI p0))] := hl
  have hpb := pby hF hp hm
  have hsz := WF.sz hF
  refine lv_iload_n hx hb dX11_rest_0 rfl (lv_at hl 3 rfl) ?_
  refine lv_aload_n hx hb dX11_rest_1 rfl (lv_at hl 0 rfl) ?_
  refine gf_X11_7 hB hR.o rfl dX11_rest_2 ?_
  refine lv_iload_n hx hb dX11_rest_5 rfl (lv_at hl 1 rfl) ?_
  refine lv_iconst (v := nI 3) hx hb dX11_rest_6 (by decide) ?_
  refine lv_iload_n hx hb dX11_rest_7 rfl (lv_at hl 2 rfl) ?_
  refine mn_iadd hB dX11_rest_8 ?_
  refine cl_X11_71 (As := [.int (nI f), .int (nI (3 + m0))]) (rest := [.ref (r + 1), .int (nI p0)]) hB (c_X11_at l g H0 f (3 + m0)) rfl hl.1 (Nat.le_of_ble_eq_true rfl) dX11_rest_9 ⟨Nat.le_of_ble_eq_true rfl, Nat.le_of_ble_eq_true rfl⟩ ⟨Nat.le_of_ble_eq_true rfl, Nat.le_of_ble_eq_true rfl⟩ hS (by have hz9 := hS.1; rintro q (h | h) <;> first | exact Or.inr (by omega) | exact h.elim | exact Or.inl h | (simp only [ftA] at h ⊢; omega)) (fun v H1 locs hpo hfr hS => ?_)
  obtain ⟨rfl, rfl⟩ := hpo
  refine W.widen (k := 0) (n := 0) (Nat.le_of_ble_eq_true rfl) (Nat.le_of_ble_eq_true rfl) ?_
  refine mn_iald hB hR.a_zq (by omega) (by omega) dX11_rest_12 ?_
  refine mh_top (y := .int (nI (byF zq f m0))) (by rw [hF.by_ hm]) ?_
  refine mn_imul hB dX11_rest_13 ?_
  refine lv_aload_n hx hb dX11_rest_14 rfl (lv_at hl 0 rfl) ?_
  refine lv_iload_n hx hb dX11_rest_15 rfl (lv_at hl 1 rfl) ?_
  refine cl_X11_75 (As := [.int (nI f)]) (rest := [.int (nI (p0 * (byF zq f m0)))]) hB (c_X11_patches l g H0 r zq zsp zrm zst zsl zsv ztx zln zth zsg zbg zwd zhg zin zop zbe zwi zhi zbk zot zer zen zpo zpi zgr zsh zsn f hR (by omega) (by omega)) hR.o rfl hl.1 (Nat.le_of_ble_eq_true rfl) dX11_rest_16 ⟨Nat.le_of_ble_eq_true rfl, Nat.le_of_ble_eq_true rfl⟩ ⟨Nat.le_of_ble_eq_true rfl, Nat.le_of_ble_eq_true rfl⟩ hS (by have hz9 := hS.1; rintro q (h | h) <;> first | exact Or.inr (by omega) | exact h.elim | exact Or.inl h | (simp only [ftA] at h ⊢; omega)) (fun v H1 locs hpo hfr hS => ?_)
  obtain ⟨rfl, rfl⟩ := hpo
  refine W.widen (k := 0) (n := 0) (Nat.le_of_ble_eq_true rfl) (Nat.le_of_ble_eq_true rfl) ?_
  refine mn_irem hB dX11_rest_19 (by omega) (by omega) (by omega) ?_
  refine mh_top (y := .int (nI (rstN zq f p0 m0))) (rfl) ?_
  refine mh_iret hB ⟨Nat.le_of_ble_eq_true rfl, Nat.le_of_ble_eq_true rfl⟩ hS dX11_rest_20 ⟨?_, rfl⟩
  · rfl

def rm_c_X11_splits : Room := { frames := 3, cells := 0, slots := 0, locals := 65 }
set_option maxRecDepth 100000 in
set_option maxHeartbeats 400000 in
theorem c_X11_splits (l : Launch) (g : GG) (H0 : Heap) (r : Nat) (zq : Nat → Int32) (zsp : Nat → Int32) (zrm : Nat → Int32) (zst : Int32) (zsl : Nat → Int32) (zsv : Nat → Int32) (ztx : Nat → Int32) (zln : Int32) (zth : Int32) (zsg : Nat → Int32) (zbg : Nat → Int32) (zwd : Nat → Int32) (zhg : Nat → Int32) (zin : Nat → Int32) (zop : Int32) (zbe : Int32) (zwi : Int32) (zhi : Int32) (zbk : Nat → Int32) (zot : Nat → Int32) (zer : Int32) (zen : Int32) (zpo : Nat → Int32) (zpi : Int32) (zgr : Int32) (zsh : Nat → Int32) (zsn : Int32) (f : Nat) (p0 : Nat) (hR : ModAt g r zq zsp zrm zst zsl zsv ztx zln zth zsg zbg zwd zhg zin zop zbe zwi zhi zbk zot zer zen zpo zpi zgr zsh zsn H0) (hf : f < 3) (hF : WFf zq f) (hp : p0 < 10000) (hs0 : 0 < szF zq f) : Ct l yX11_splits cX11_splits 7 none rm_c_X11_splits g [.ref r, .int (nI f), .int (nI p0)] H0 (ftA (fun q => r ≤ q ∧ q < r + 16) H0.size) (fun v H1 => v = none ∧ ModAt g r zq zsp zrm zst zsl zsv ztx zln zth zsg zbg zwd zhg zin zop zbe zwi zhi zbk zot zer zen zpo zpi zgr (lowOf (shrQ zq f p0) (lowOf (shr1 zq f p0) zsh 5) 5) zsn H1) := by
  refine Ct.of (by decide) (fun _ h => Or.inr h) (Nat.le_of_ble_eq_true rfl) ?_
  intro p e s m below meth c ls hB hin hS hH hl
  have hx := hB.x
  have hb := hB.b
  have hl : lv_has ls 7 [(0, .ref r), (1, .int (nI f)), (2, .int (nI p0))] := hl
  have hsz := WF.sz hF
  have hpb : ∀ m, m < 5 → p0 * byF zq f m ≤ 2559744 := fun m hm => pby hF hp hm
  have hrl : ∀ m, rstN zq f p0 m < 256 + 1 := fun m => by have := Nat.mod_lt (p0 * byF zq f m) hs0; unfold rstN; omega
  refine lv_iload_n hx hb dX11_splits_0 rfl (lv_at hl 2 rfl) ?_
  refine mh_top (y := .int (lefU zq f p0 0)) (rfl) ?_
  refine lv_istore_n (lv' := [(3, .int (lefU zq f p0 0)), (0, .ref r), (1, .int (nI f)), (2, .int (nI p0))]) hx hb dX11_splits_1 rfl hl (by decide) rfl (fun ls hl => ?_)
  refine lv_iconst (v := nI 0) hx hb dX11_splits_2 (by decide) ?_
  refine lv_istore (lv' := [(4, .int (nI 0)), (3, .int (lefU zq f p0 0)), (0, .ref r), (1, .int (nI f)), (2, .int (nI p0))]) hx hb dX11_splits_3 hl (by decide) rfl (fun ls hl => ?_)
  refine mh_loop (σ := Nat) (fun xx9 H locs ls => match xx9 with | i9 => i9 ≤ 5 ∧ ModAt g r zq zsp zrm zst zsl zsv ztx zln zth zsg zbg zwd zhg zin zop zbe zwi zhi zbk zot zer zen zpo zpi zgr (lowOf (shr1 zq f p0) zsh i9) zsn H ∧ va_S (ftA (fun q => r ≤ q ∧ q < r + 16) H0.size) H0 H locs ∧ lv_has ls 7 [(0, .ref r), (1, .int (nI f)), (2, .int (nI p0)), (3, .int (lefU zq f p0 i9)), (4, .int (nI i9))]) (fun xx9 => match xx9 with | i9 => 5 - i9) ?_ 0 ⟨(by omega), (by rw [lowOf_0]; exact hR), hS, lv_sub hl [2, 3, 4, 1, 0] rfl⟩
  rintro i9 H locs ls ⟨hi, hR, hS, hl⟩ ih
  have ih5 := ih
  refine lv_iload hx hb dX11_splits_5 (lv_at hl 4 rfl) ?_
  refine lv_iconst (v := nI 5) hx hb dX11_splits_7 (by decide) ?_
  refine mn_icmp_ge (tgt := 55) hB dX11_splits_8 (by decide) (by omega) (by omega) (fun h_8 => ?_) (fun h_8 => ?_)
  · skip
    have hin : i9 = 5 := by omega
    subst hin
    refine lv_iconst (v := nI 0) hx hb dX11_splits_55 (by decide) ?_
    refine lv_istore (lv' := [(4, .int (nI 0)), (0, .ref r), (1, .int (nI f)), (2, .int (nI p0)), (3, .int (lefU zq f p0 5))]) hx hb dX11_splits_56 hl (by decide) rfl (fun ls hl => ?_)
    refine mh_loop (σ := Nat) (fun xx9 H locs ls => match xx9 with | i9 => i9 ≤ 5 ∧ ModAt g r zq zsp zrm zst zsl zsv ztx zln zth zsg zbg zwd zhg zin zop zbe zwi zhi zbk zot zer zen zpo zpi zgr (lowOf (shrQ zq f p0) (lowOf (shr1 zq f p0) zsh 5) i9) zsn H ∧ va_S (ftA (fun q => r ≤ q ∧ q < r + 16) H0.size) H0 H locs ∧ lv_has ls 7 [(0, .ref r), (1, .int (nI f)), (2, .int (nI p0)), (3, .int (lefU zq f p0 5)), (4, .int (nI i9))]) (fun xx9 => match xx9 with | i9 => 5 - i9) ?_ 0 ⟨(by omega), (by rw [lowOf_0]; exact hR), hS, lv_sub hl [1, 2, 3, 4, 0] rfl⟩
    rintro i9 H locs ls ⟨hi, hR, hS, hl⟩ ih
    have ih58 := ih
    refine lv_iload hx hb dX11_splits_58 (lv_at hl 4 rfl) ?_
    refine lv_iconst (v := nI 5) hx hb dX11_splits_60 (by decide) ?_
    refine mn_icmp_ge (tgt := 164) hB dX11_splits_61 (by decide) (by omega) (by omega) (fun h_61 => ?_) (fun h_61 => ?_)
    · skip
      have hin : i9 = 5 := by omega
      subst hin
      refine mh_vret hB ⟨Nat.le_of_ble_eq_true rfl, Nat.le_of_ble_eq_true rfl⟩ hS dX11_splits_164 ⟨?_, ?_⟩
      · rfl
      · exact hR
    · skip
      refine lv_iconst (v := nI 0) hx hb dX11_splits_64 (by decide) ?_
      refine lv_istore (lv' := [(5, .int (nI 0)), (0, .ref r), (1, .int (nI f)), (2, .int (nI p0)), (3, .int (lefU zq f p0 5)), (4, .int (nI i9))]) hx hb dX11_splits_65 hl (by decide) rfl (fun ls hl => ?_)
      refine lv_iconst (v := nI 0) hx hb dX11_splits_67 (by decide) ?_
      refine lv_istore (lv' := [(6, .int (nI 0)), (5, .int (nI 0)), (0, .ref r), (1, .int (nI f)), (2, .int (nI p0)), (3, .int (lefU zq f p0 5)), (4, .int (nI i9))]) hx hb dX11_splits_68 hl (by decide) rfl (fun ls hl => ?_)
      refine mh_loop (σ := Nat) (fun xx9 H locs ls => match xx9 with | j8 => j8 ≤ 5 ∧ ModAt g r zq zsp zrm zst zsl zsv ztx zln zth zsg zbg zwd zhg zin zop zbe zwi zhi zbk zot zer zen zpo zpi zgr (lowOf (shrQ zq f p0) (lowOf (shr1 zq f p0) zsh 5) i9) zsn H ∧ va_S (ftA (fun q => r ≤ q ∧ q < r + 16) H0.size) H0 H locs ∧ lv_has ls 7 [(0, .ref r), (1, .int (nI f)), (2, .int (nI p0)), (3, .int (lefU zq f p0 5)), (4, .int (nI i9)), (5, .int (nI (cntR (ahdP zq f p0 i9) 0 j8))), (6, .int (nI j8))]) (fun xx9 => match xx9 with | j8 => 5 - j8) ?_ 0 ⟨(by omega), hR, hS, lv_sub hl [2, 3, 4, 5, 6, 1, 0] rfl⟩
      rintro j8 H locs ls ⟨hj, hR, hS, hl⟩ ih
      have ih70 := ih
      refine lv_iload hx hb dX11_splits_70 (lv_at hl 6 rfl) ?_
      refine lv_iconst (v := nI 5) hx hb dX11_splits_72 (by decide) ?_
      refine mn_icmp_ge (tgt := 137) hB dX11_splits_73 (by decide) (by omega) (by omega) (fun h_73 => ?_) (fun h_73 => ?_)
      · skip
        have hjn : j8 = 5 := by omega
        subst hjn
        refine lv_aload_n hx hb dX11_splits_137 rfl (lv_at hl 0 rfl) ?_
        refine gf_X11_53 hB hR.o rfl dX11_splits_138 ?_
        refine lv_iload hx hb dX11_splits_141 (lv_at hl 4 rfl) ?_
        refine lv_dup2_11 hx hb dX11_splits_143 rfl rfl ?_
        refine mn_iald hB hR.a_zsh (by omega) (by omega) dX11_splits_144 ?_
        refine lv_iload hx hb dX11_splits_145 (lv_at hl 5 rfl) ?_
        refine lv_iload_n hx hb dX11_splits_147 rfl (lv_at hl 3 rfl) ?_
        refine lv_icmp_ge (tgt := 155) hx hb dX11_splits_148 (by decide) (fun h_148 => ?_) (fun h_148 => ?_)
        · skip
          refine lv_iconst (v := nI 0) hx hb dX11_splits_155 (by decide) ?_
          refine lv_iadd hx hb dX11_splits_156 ?_
          refine mh_top (y := .int (shrQ zq f p0 i9)) (by rw [lowOf_hi _ _ (Nat.le_refl _), lowOf_all _ _ (by omega)]; unfold shrQ; first | rw [if_pos (Int32.not_le.mp h_148)] | rw [if_neg (Int32.not_lt.mpr h_148)]) ?_
          refine mn_iast hB hR.a_zsh (by first | exact Or.inl rfl | (simp only [ftA]; omega) | (simp [ftA]; omega)) hS (by omega) (by omega) dX11_splits_157 (fun H locs hwr => ?_)
          obtain ⟨hR, hS⟩ := hR.w_zsh hwr
          refine lv_iinc (v := nI (i9 + 1)) (lv' := [(4, .int (nI (i9 + 1))), (0, .ref r), (1, .int (nI f)), (2, .int (nI p0)), (3, .int (lefU zq f p0 5)), (5, .int (nI (cntR (ahdP zq f p0 i9) 0 5))), (6, .int (nI 5))]) hx hb dX11_splits_158 hl (k := 4) rfl (nI_1 _) (by decide) rfl (fun ls hl => ?_)
          refine lv_goto (tgt := 58) hx hb dX11_splits_161 (by decide) ?_
          refine ih58 (i9 + 1) _ _ _ ⟨(by omega), (by rw [← lowOf_up]; exact hR), hS, lv_sub hl [1, 2, 3, 4, 0] rfl⟩ (by dsimp only; omega)
        · skip
          refine lv_iconst (v := nI 1) hx hb dX11_splits_151 (by decide) ?_
          refine lv_goto (tgt := 156) hx hb dX11_splits_152 (by decide) ?_
          refine lv_iadd hx hb dX11_splits_156 ?_
          refine mh_top (y := .int (shrQ zq f p0 i9)) (by rw [lowOf_hi _ _ (Nat.le_refl _), lowOf_all _ _ (by omega)]; unfold shrQ; first | rw [if_pos (Int32.not_le.mp h_148)] | rw [if_neg (Int32.not_lt.mpr h_148)]) ?_
          refine mn_iast hB hR.a_zsh (by first | exact Or.inl rfl | (simp only [ftA]; omega) | (simp [ftA]; omega)) hS (by omega) (by omega) dX11_splits_157 (fun H locs hwr => ?_)
          obtain ⟨hR, hS⟩ := hR.w_zsh hwr
          refine lv_iinc (v := nI (i9 + 1)) (lv' := [(4, .int (nI (i9 + 1))), (0, .ref r), (1, .int (nI f)), (2, .int (nI p0)), (3, .int (lefU zq f p0 5)), (5, .int (nI (cntR (ahdP zq f p0 i9) 0 5))), (6, .int (nI 5))]) hx hb dX11_splits_158 hl (k := 4) rfl (nI_1 _) (by decide) rfl (fun ls hl => ?_)
          refine lv_goto (tgt := 58) hx hb dX11_splits_161 (by decide) ?_
          refine ih58 (i9 + 1) _ _ _ ⟨(by omega), (by rw [← lowOf_up]; exact hR), hS, lv_sub hl [1, 2, 3, 4, 0] rfl⟩ (by dsimp only; omega)
      · skip
        refine lv_iload hx hb dX11_splits_76 (lv_at hl 5 rfl) ?_
        refine lv_aload_n hx hb dX11_splits_78 rfl (lv_at hl 0 rfl) ?_
        refine lv_iload_n hx hb dX11_splits_79 rfl (lv_at hl 1 rfl) ?_
        refine lv_iload hx hb dX11_splits_80 (lv_at hl 6 rfl) ?_
        refine lv_iload_n hx hb dX11_splits_82 rfl (lv_at hl 2 rfl) ?_
        refine cl_X11_227 (As := [.int (nI f), .int (nI j8), .int (nI p0)]) (rest := [.int (nI (cntR (ahdP zq f p0 i9) 0 j8))]) hB (c_X11_rest l g H r zq zsp zrm zst zsl zsv ztx zln zth zsg zbg zwd zhg zin zop zbe zwi zhi zbk zot zer zen zpo zpi zgr (lowOf (shrQ zq f p0) (lowOf (shr1 zq f p0) zsh 5) i9) zsn f j8 p0 hR (by omega) (by omega) (by omega) (by omega) (by omega)) hR.o rfl hl.1 (Nat.le_of_ble_eq_true rfl) dX11_splits_83 ⟨Nat.le_of_ble_eq_true rfl, Nat.le_of_ble_eq_true rfl⟩ ⟨Nat.le_of_ble_eq_true rfl, Nat.le_of_ble_eq_true rfl⟩ hS (by have hz9 := hS.1; rintro q (h | h) <;> first | exact Or.inr (by omega) | exact h.elim | exact Or.inl h | (simp only [ftA] at h ⊢; omega)) (fun v H1 locs hpo hfr hS => ?_)
        obtain ⟨rfl, rfl⟩ := hpo
        refine W.widen (k := 0) (n := 0) (Nat.le_of_ble_eq_true rfl) (Nat.le_of_ble_eq_true rfl) ?_
        refine lv_aload_n hx hb dX11_splits_86 rfl (lv_at hl 0 rfl) ?_
        refine lv_iload_n hx hb dX11_splits_87 rfl (lv_at hl 1 rfl) ?_
        refine lv_iload hx hb dX11_splits_88 (lv_at hl 4 rfl) ?_
        refine lv_iload_n hx hb dX11_splits_90 rfl (lv_at hl 2 rfl) ?_
        refine cl_X11_227 (As := [.int (nI f), .int (nI i9), .int (nI p0)]) (rest := [.int (nI (rstN zq f p0 j8)), .int (nI (cntR (ahdP zq f p0 i9) 0 j8))]) hB (c_X11_rest l g H r zq zsp zrm zst zsl zsv ztx zln zth zsg zbg zwd zhg zin zop zbe zwi zhi zbk zot zer zen zpo zpi zgr (lowOf (shrQ zq f p0) (lowOf (shr1 zq f p0) zsh 5) i9) zsn f i9 p0 hR (by omega) (by omega) (by omega) (by omega) (by omega)) hR.o rfl hl.1 (Nat.le_of_ble_eq_true rfl) dX11_splits_91 ⟨Nat.le_of_ble_eq_true rfl, Nat.le_of_ble_eq_true rfl⟩ ⟨Nat.le_of_ble_eq_true rfl, Nat.le_of_ble_eq_true rfl⟩ hS (by have hz9 := hS.1; rintro q (h | h) <;> first | exact Or.inr (by omega) | exact h.elim | exact Or.inl h | (simp only [ftA] at h ⊢; omega)) (fun v H1 locs hpo hfr hS => ?_)
        obtain ⟨rfl, rfl⟩ := hpo
        refine W.widen (k := 0) (n := 0) (Nat.le_of_ble_eq_true rfl) (Nat.le_of_ble_eq_true rfl) ?_
        refine mn_icmp_gt (tgt := 123) hB dX11_splits_94 (by decide) (by have := hrl j8; omega) (by have := hrl i9; omega) (fun h_94 => ?_) (fun h_94 => ?_)
        · skip
          refine lv_iconst (v := nI 1) hx hb dX11_splits_123 (by decide) ?_
          refine lv_goto (tgt := 128) hx hb dX11_splits_124 (by decide) ?_
          refine mn_iadd hB dX11_splits_128 ?_
          refine mh_top (y := .int (nI (cntR (ahdP zq f p0 i9) 0 (j8 + 1)))) (by first | (simp only [cntR]; rw [if_pos (by simp only [ahdP, decide_eq_true_eq, Nat.zero_add]; omega)]) | (simp only [cntR]; rw [if_neg (by simp only [ahdP, decide_eq_true_eq, Nat.zero_add]; omega)])) ?_
          refine lv_istore (lv' := [(5, .int (nI (cntR (ahdP zq f p0 i9) 0 (j8 + 1)))), (0, .ref r), (1, .int (nI f)), (2, .int (nI p0)), (3, .int (lefU zq f p0 5)), (4, .int (nI i9)), (6, .int (nI j8))]) hx hb dX11_splits_129 hl (by decide) rfl (fun ls hl => ?_)
          refine lv_iinc (v := nI (j8 + 1)) (lv' := [(6, .int (nI (j8 + 1))), (5, .int (nI (cntR (ahdP zq f p0 i9) 0 (j8 + 1)))), (0, .ref r), (1, .int (nI f)), (2, .int (nI p0)), (3, .int (lefU zq f p0 5)), (4, .int (nI i9))]) hx hb dX11_splits_131 hl (k := 6) rfl (nI_1 _) (by decide) rfl (fun ls hl => ?_)
          refine lv_goto (tgt := 70) hx hb dX11_splits_134 (by decide) ?_
          refine ih70 (j8 + 1) _ _ _ ⟨(by omega), hR, hS, lv_sub hl [2, 3, 4, 5, 6, 1, 0] rfl⟩ (by dsimp only; omega)
        · skip
          refine lv_iload hx hb dX11_splits_97 (lv_at hl 6 rfl) ?_
          refine lv_iload hx hb dX11_splits_99 (lv_at hl 4 rfl) ?_
          refine mn_icmp_ge (tgt := 127) hB dX11_splits_101 (by decide) (by omega) (by omega) (fun h_101 => ?_) (fun h_101 => ?_)
          · skip
            refine lv_iconst (v := nI 0) hx hb dX11_splits_127 (by decide) ?_
            refine mn_iadd hB dX11_splits_128 ?_
            refine mh_top (y := .int (nI (cntR (ahdP zq f p0 i9) 0 (j8 + 1)))) (by first | (simp only [cntR]; rw [if_pos (by simp only [ahdP, decide_eq_true_eq, Nat.zero_add]; omega)]) | (simp only [cntR]; rw [if_neg (by simp only [ahdP, decide_eq_true_eq, Nat.zero_add]; omega)])) ?_
            refine lv_istore (lv' := [(5, .int (nI (cntR (ahdP zq f p0 i9) 0 (j8 + 1)))), (0, .ref r), (1, .int (nI f)), (2, .int (nI p0)), (3, .int (lefU zq f p0 5)), (4, .int (nI i9)), (6, .int (nI j8))]) hx hb dX11_splits_129 hl (by decide) rfl (fun ls hl => ?_)
            refine lv_iinc (v := nI (j8 + 1)) (lv' := [(6, .int (nI (j8 + 1))), (5, .int (nI (cntR (ahdP zq f p0 i9) 0 (j8 + 1)))), (0, .ref r), (1, .int (nI f)), (2, .int (nI p0)), (3, .int (lefU zq f p0 5)), (4, .int (nI i9))]) hx hb dX11_splits_131 hl (k := 6) rfl (nI_1 _) (by decide) rfl (fun ls hl => ?_)
            refine lv_goto (tgt := 70) hx hb dX11_splits_134 (by decide) ?_
            refine ih70 (j8 + 1) _ _ _ ⟨(by omega), hR, hS, lv_sub hl [2, 3, 4, 5, 6, 1, 0] rfl⟩ (by dsimp only; omega)
          · skip
            refine lv_aload_n hx hb dX11_splits_104 rfl (lv_at hl 0 rfl) ?_
            refine lv_iload_n hx hb dX11_splits_105 rfl (lv_at hl 1 rfl) ?_
            refine lv_iload hx hb dX11_splits_106 (lv_at hl 6 rfl) ?_
            refine lv_iload_n hx hb dX11_splits_108 rfl (lv_at hl 2 rfl) ?_
            refine cl_X11_227 (As := [.int (nI f), .int (nI j8), .int (nI p0)]) (rest := [.int (nI (cntR (ahdP zq f p0 i9) 0 j8))]) hB (c_X11_rest l g H r zq zsp zrm zst zsl zsv ztx zln zth zsg zbg zwd zhg zin zop zbe zwi zhi zbk zot zer zen zpo zpi zgr (lowOf (shrQ zq f p0) (lowOf (shr1 zq f p0) zsh 5) i9) zsn f j8 p0 hR (by omega) (by omega) (by omega) (by omega) (by omega)) hR.o rfl hl.1 (Nat.le_of_ble_eq_true rfl) dX11_splits_109 ⟨Nat.le_of_ble_eq_true rfl, Nat.le_of_ble_eq_true rfl⟩ ⟨Nat.le_of_ble_eq_true rfl, Nat.le_of_ble_eq_true rfl⟩ hS (by have hz9 := hS.1; rintro q (h | h) <;> first | exact Or.inr (by omega) | exact h.elim | exact Or.inl h | (simp only [ftA] at h ⊢; omega)) (fun v H1 locs hpo hfr hS => ?_)
            obtain ⟨rfl, rfl⟩ := hpo
            refine W.widen (k := 0) (n := 0) (Nat.le_of_ble_eq_true rfl) (Nat.le_of_ble_eq_true rfl) ?_
            refine lv_aload_n hx hb dX11_splits_112 rfl (lv_at hl 0 rfl) ?_
            refine lv_iload_n hx hb dX11_splits_113 rfl (lv_at hl 1 rfl) ?_
            refine lv_iload hx hb dX11_splits_114 (lv_at hl 4 rfl) ?_
            refine lv_iload_n hx hb dX11_splits_116 rfl (lv_at hl 2 rfl) ?_
            refine cl_X11_227 (As := [.int (nI f), .int (nI i9), .int (nI p0)]) (rest := [.int (nI (rstN zq f p0 j8)), .int (nI (cntR (ahdP zq f p0 i9) 0 j8))]) hB (c_X11_rest l g H r zq zsp zrm zst zsl zsv ztx zln zth zsg zbg zwd zhg zin zop zbe zwi zhi zbk zot zer zen zpo zpi zgr (lowOf (shrQ zq f p0) (lowOf (shr1 zq f p0) zsh 5) i9) zsn f i9 p0 hR (by omega) (by omega) (by omega) (by omega) (by omega)) hR.o rfl hl.1 (Nat.le_of_ble_eq_true rfl) dX11_splits_117 ⟨Nat.le_of_ble_eq_true rfl, Nat.le_of_ble_eq_true rfl⟩ ⟨Nat.le_of_ble_eq_true rfl, Nat.le_of_ble_eq_true rfl⟩ hS (by have hz9 := hS.1; rintro q (h | h) <;> first | exact Or.inr (by omega) | exact h.elim | exact Or.inl h | (simp only [ftA] at h ⊢; omega)) (fun v H1 locs hpo hfr hS => ?_)
            obtain ⟨rfl, rfl⟩ := hpo
            refine W.widen (k := 0) (n := 0) (Nat.le_of_ble_eq_true rfl) (Nat.le_of_ble_eq_true rfl) ?_
            refine mn_icmp_ne (tgt := 127) hB dX11_splits_120 (by decide) (by have := hrl j8; omega) (by have := hrl i9; omega) (fun h_120 => ?_) (fun h_120 => ?_)
            · skip
              refine lv_iconst (v := nI 0) hx hb dX11_splits_127 (by decide) ?_
              refine mn_iadd hB dX11_splits_128 ?_
              refine mh_top (y := .int (nI (cntR (ahdP zq f p0 i9) 0 (j8 + 1)))) (by first | (simp only [cntR]; rw [if_pos (by simp only [ahdP, decide_eq_true_eq, Nat.zero_add]; omega)]) | (simp only [cntR]; rw [if_neg (by simp only [ahdP, decide_eq_true_eq, Nat.zero_add]; omega)])) ?_
              refine lv_istore (lv' := [(5, .int (nI (cntR (ahdP zq f p0 i9) 0 (j8 + 1)))), (0, .ref r), (1, .int (nI f)), (2, .int (nI p0)), (3, .int (lefU zq f p0 5)), (4, .int (nI i9)), (6, .int (nI j8))]) hx hb dX11_splits_129 hl (by decide) rfl (fun ls hl => ?_)
              refine lv_iinc (v := nI (j8 + 1)) (lv' := [(6, .int (nI (j8 + 1))), (5, .int (nI (cntR (ahdP zq f p0 i9) 0 (j8 + 1)))), (0, .ref r), (1, .int (nI f)), (2, .int (nI p0)), (3, .int (lefU zq f p0 5)), (4, .int (nI i9))]) hx hb dX11_splits_131 hl (k := 6) rfl (nI_1 _) (by decide) rfl (fun ls hl => ?_)
              refine lv_goto (tgt := 70) hx hb dX11_splits_134 (by decide) ?_
              refine ih70 (j8 + 1) _ _ _ ⟨(by omega), hR, hS, lv_sub hl [2, 3, 4, 5, 6, 1, 0] rfl⟩ (by dsimp only; omega)
            · skip
              refine lv_iconst (v := nI 1) hx hb dX11_splits_123 (by decide) ?_
              refine lv_goto (tgt := 128) hx hb dX11_splits_124 (by decide) ?_
              refine mn_iadd hB dX11_splits_128 ?_
              refine mh_top (y := .int (nI (cntR (ahdP zq f p0 i9) 0 (j8 + 1)))) (by first | (simp only [cntR]; rw [if_pos (by simp only [ahdP, decide_eq_true_eq, Nat.zero_add]; omega)]) | (simp only [cntR]; rw [if_neg (by simp only [ahdP, decide_eq_true_eq, Nat.zero_add]; omega)])) ?_
              refine lv_istore (lv' := [(5, .int (nI (cntR (ahdP zq f p0 i9) 0 (j8 + 1)))), (0, .ref r), (1, .int (nI f)), (2, .int (nI p0)), (3, .int (lefU zq f p0 5)), (4, .int (nI i9)), (6, .int (nI j8))]) hx hb dX11_splits_129 hl (by decide) rfl (fun ls hl => ?_)
              refine lv_iinc (v := nI (j8 + 1)) (lv' := [(6, .int (nI (j8 + 1))), (5, .int (nI (cntR (ahdP zq f p0 i9) 0 (j8 + 1)))), (0, .ref r), (1, .int (nI f)), (2, .int (nI p0)), (3, .int (lefU zq f p0 5)), (4, .int (nI i9))]) hx hb dX11_splits_131 hl (k := 6) rfl (nI_1 _) (by decide) rfl (fun ls hl => ?_)
              refine lv_goto (tgt := 70) hx hb dX11_splits_134 (by decide) ?_
              refine ih70 (j8 + 1) _ _ _ ⟨(by omega), hR, hS, lv_sub hl [2, 3, 4, 5, 6, 1, 0] rfl⟩ (by dsimp only; omega)
  · skip
    refine lv_aload_n hx hb dX11_splits_11 rfl (lv_at hl 0 rfl) ?_
    refine gf_X11_53 hB hR.o rfl dX11_splits_12 ?_
    refine lv_iload hx hb dX11_splits_15 (lv_at hl 4 rfl) ?_
    refine lv_iload_n hx hb dX11_splits_17 rfl (lv_at hl 2 rfl) ?_
    refine lv_aload_n hx hb dX11_splits_18 rfl (lv_at hl 0 rfl) ?_
    refine gf_X11_7 hB hR.o rfl dX11_splits_19 ?_
    refine lv_iload_n hx hb dX11_splits_22 rfl (lv_at hl 1 rfl) ?_
    refine lv_iconst (v := nI 3) hx hb dX11_splits_23 (by decide) ?_
    refine lv_iload hx hb dX11_splits_24 (lv_at hl 4 rfl) ?_
    refine mn_iadd hB dX11_splits_26 ?_
    refine cl_X11_71 (As := [.int (nI f), .int (nI (3 + i9))]) (rest := [.ref (r + 1), .int (nI p0), .int (nI i9), .ref (r + 15)]) hB (c_X11_at l g H f (3 + i9)) rfl hl.1 (Nat.le_of_ble_eq_true rfl) dX11_splits_27 ⟨Nat.le_of_ble_eq_true rfl, Nat.le_of_ble_eq_true rfl⟩ ⟨Nat.le_of_ble_eq_true rfl, Nat.le_of_ble_eq_true rfl⟩ hS (by have hz9 := hS.1; rintro q (h | h) <;> first | exact Or.inr (by omega) | exact h.elim | exact Or.inl h | (simp only [ftA] at h ⊢; omega)) (fun v H1 locs hpo hfr hS => ?_)
    obtain ⟨rfl, rfl⟩ := hpo
    refine W.widen (k := 0) (n := 0) (Nat.le_of_ble_eq_true rfl) (Nat.le_of_ble_eq_true rfl) ?_
    have hpi := hpb i9 (by omega)
    refine mn_iald hB hR.a_zq (by omega) (by omega) dX11_splits_30 ?_
    refine mh_top (y := .int (nI (byF zq f i9))) (by rw [hF.by_ (by omega)]) ?_
    refine mn_imul hB dX11_splits_31 ?_
    refine lv_aload_n hx hb dX11_splits_32 rfl (lv_at hl 0 rfl) ?_
    refine lv_iload_n hx hb dX11_splits_33 rfl (lv_at hl 1 rfl) ?_
    refine cl_X11_75 (As := [.int (nI f)]) (rest := [.int (nI (p0 * (byF zq f i9))), .int (nI i9), .ref (r + 15)]) hB (c_X11_patches l g H r zq zsp zrm zst zsl zsv ztx zln zth zsg zbg zwd zhg zin zop zbe zwi zhi zbk zot zer zen zpo zpi zgr (lowOf (shr1 zq f p0) zsh i9) zsn f hR (by omega) (by omega)) hR.o rfl hl.1 (Nat.le_of_ble_eq_true rfl) dX11_splits_34 ⟨Nat.le_of_ble_eq_true rfl, Nat.le_of_ble_eq_true rfl⟩ ⟨Nat.le_of_ble_eq_true rfl, Nat.le_of_ble_eq_true rfl⟩ hS (by have hz9 := hS.1; rintro q (h | h) <;> first | exact Or.inr (by omega) | exact h.elim | exact Or.inl h | (simp only [ftA] at h ⊢; omega)) (fun v H1 locs hpo hfr hS => ?_)
    obtain ⟨rfl, rfl⟩ := hpo
    refine W.widen (k := 0) (n := 0) (Nat.le_of_ble_eq_true rfl) (Nat.le_of_ble_eq_true rfl) ?_
    refine mn_idiv hB dX11_splits_37 (by omega) (by omega) (by omega) ?_
    refine mh_top (y := .int (shr1 zq f p0 i9)) (rfl) ?_
    refine mn_iast hB hR.a_zsh (by first | exact Or.inl rfl | (simp only [ftA]; omega) | (simp [ftA]; omega)) hS (by omega) (by omega) dX11_splits_38 (fun H locs hwr => ?_)
    obtain ⟨hR, hS⟩ := hR.w_zsh hwr
    refine lv_iload_n hx hb dX11_splits_39 rfl (lv_at hl 3 rfl) ?_
    refine lv_aload_n hx hb dX11_splits_40 rfl (lv_at hl 0 rfl) ?_
    refine gf_X11_53 hB hR.o rfl dX11_splits_41 ?_
    refine lv_iload hx hb dX11_splits_44 (lv_at hl 4 rfl) ?_
    refine mn_iald hB hR.a_zsh (by omega) (by omega) dX11_splits_46 ?_
    refine mh_top (y := .int (shr1 zq f p0 i9)) (by rw [upd_s (α := Nat)]) ?_
    refine lv_isub hx hb dX11_splits_47 ?_
    refine mh_top (y := .int (lefU zq f p0 (i9 + 1))) (rfl) ?_
    refine lv_istore_n (lv' := [(3, .int (lefU zq f p0 (i9 + 1))), (0, .ref r), (1, .int (nI f)), (2, .int (nI p0)), (4, .int (nI i9))]) hx hb dX11_splits_48 rfl hl (by decide) rfl (fun ls hl => ?_)
    refine lv_iinc (v := nI (i9 + 1)) (lv' := [(4, .int (nI (i9 + 1))), (3, .int (lefU zq f p0 (i9 + 1))), (0, .ref r), (1, .int (nI f)), (2, .int (nI p0))]) hx hb dX11_splits_49 hl (k := 4) rfl (nI_1 _) (by decide) rfl (fun ls hl => ?_)
    refine lv_goto (tgt := 5) hx hb dX11_splits_52 (by decide) ?_
    refine ih5 (i9 + 1) _ _ _ ⟨(by omega), (by rw [← lowOf_up]; exact hR), hS, lv_sub hl [2, 3, 4, 1, 0] rfl⟩ (by dsimp only; omega)

def rm_c_X11_raffles : Room := { frames := 4, cells := 0, slots := 0, locals := 91 }
set_option maxRecDepth 100000 in
set_option maxHeartbeats 400000 in
theorem c_X11_raffles (l : Launch) (g : GG) (H0 : Heap) (r : Nat) (zq : Nat → Int32) (zsp : Nat → Int32) (zrm : Nat → Int32) (zst : Int32) (zsl : Nat → Int32) (zsv : Nat → Int32) (ztx : Nat → Int32) (zln : Int32) (zth : Int32) (zsg : Nat → Int32) (zbg : Nat → Int32) (zwd : Nat → Int32) (zhg : Nat → Int32) (zin : Nat → Int32) (zop : Int32) (zbe : Int32) (zwi : Int32) (zhi : Int32) (zbk : Nat → Int32) (zot : Nat → Int32) (zer : Int32) (zen : Int32) (zpo : Nat → Int32) (zpi : Int32) (zgr : Int32) (zsh : Nat → Int32) (zsn : Int32) (f : Nat) (p0 : Nat) (hR : ModAt g r zq zsp zrm zst zsl zsv ztx zln zth zsg zbg zwd zhg zin zop zbe zwi zhi zbk zot zer zen zpo zpi zgr zsh zsn H0) (hW : WF zq) (hf : f < 3) (hp : p0 < 10000) (hs0 : 0 < szF zq f) : Ct l yX11_raffles cX11_raffles 5 (some .int) rm_c_X11_raffles g [.ref r, .int (nI f), .int (nI p0)] H0 (ftA (fun q => r ≤ q ∧ q < r + 16) H0.size) (fun v H1 => v = some (.int (nI (szF zq f))) ∧ ModAt g r (rafQ zq f p0) zsp zrm zst zsl zsv ztx zln zth zsg zbg zwd zhg zin zop zbe zwi zhi zbk zot zer zen zpo zpi zgr (lowOf (shrQ zq f p0) (lowOf (shr1 zq f p0) zsh 5) 5) zsn H1) := by
  refine Ct.of (by decide) (fun _ h => Or.inr h) (Nat.le_of_ble_eq_true rfl) ?_
  intro p e s m below meth c ls hB hin hS hH hl
  have hx := hB.x
  have hb := hB.b
  have hl : lv_has ls 5 [(0, .ref r), (1, .int (nI f)), (2, .int (nI p0))] := hl
  have hF := hW.fr hf
  have hsz := WF.sz hF
  refine lv_aload_n hx hb dX11_raffles_0 rfl (lv_at hl 0 rfl) ?_
  refine lv_iload_n hx hb dX11_raffles_1 rfl (lv_at hl 1 rfl) ?_
  refine cl_X11_75 (As := [.int (nI f)]) (rest := []) hB (c_X11_patches l g H0 r zq zsp zrm zst zsl zsv ztx zln zth zsg zbg zwd zhg zin zop zbe zwi zhi zbk zot zer zen zpo zpi zgr zsh zsn f hR (by omega) (by omega)) hR.o rfl hl.1 (Nat.le_of_ble_eq_true rfl) dX11_raffles_2 ⟨Nat.le_of_ble_eq_true rfl, Nat.le_of_ble_eq_true rfl⟩ ⟨Nat.le_of_ble_eq_true rfl, Nat.le_of_ble_eq_true rfl⟩ hS (by have hz9 := hS.1; rintro q (h | h) <;> first | exact Or.inr (by omega) | exact h.elim | exact Or.inl h | (simp only [ftA] at h ⊢; omega)) (fun v H1 locs hpo hfr hS => ?_)
  obtain ⟨rfl, rfl⟩ := hpo
  refine W.widen (k := 0) (n := 0) (Nat.le_of_ble_eq_true rfl) (Nat.le_of_ble_eq_true rfl) ?_
  refine lv_istore_n (lv' := [(3, .int (nI (szF zq f))), (0, .ref r), (1, .int (nI f)), (2, .int (nI p0))]) hx hb dX11_raffles_5 rfl hl (by decide) rfl (fun ls hl => ?_)
  refine lv_aload_n hx hb dX11_raffles_6 rfl (lv_at hl 1 rfl) ?_
  refine lv_iload_n hx hb dX11_raffles_7 rfl (lv_at hl 2 rfl) ?_
  refine lv_iload_n hx hb dX11_raffles_8 rfl (lv_at hl 3 rfl) ?_
  refine cl_X11_230 (As := [.int (nI f), .int (nI p0)]) (rest := []) hB (c_X11_splits l g H0 r zq zsp zrm zst zsl zsv ztx zln zth zsg zbg zwd zhg zin zop zbe zwi zhi zbk zot zer zen zpo zpi zgr zsh zsn f p0 hR (by omega) (by omega) (by omega) (by omega)) hR.o rfl hl.1 (Nat.le_of_ble_eq_true rfl) dX11_raffles_9 ⟨Nat.le_of_ble_eq_true rfl, Nat.le_of_ble_eq_true rfl⟩ ⟨Nat.le_of_ble_eq_true rfl, Nat.le_of_ble_eq_true rfl⟩ hS (by have hz9 := hS.1; rintro q (h | h) <;> first | exact Or.inr (by omega) | exact h.elim | exact Or.inl h | (simp only [ftA] at h ⊢; omega)) (fun v H1 locs hpo hfr hS => ?_)
  obtain ⟨rfl, hR⟩ := hpo
  generalize H1 = H at hfr hS hR ⊢
  refine W.widen (k := 0) (n := 0) (Nat.le_of_ble_eq_true rfl) (Nat.le_of_ble_eq_true rfl) ?_
  refine lv_iconst (v := nI 0) hx hb dX11_raffles_12 (by decide) ?_
  refine lv_istore (lv' := [(4, .int (nI 0)), (3, .int (nI (szF zq f))), (0, .ref r), (1, .int (nI f)), (2, .int (nI p0))]) hx hb dX11_raffles_13 hl (by decide) rfl (fun ls hl => ?_)
  refine mh_loop (σ := Nat) (fun xx9 H locs ls => match xx9 with | i9 => i9 ≤ 5 ∧ ModAt g r (penU zq (shrQ zq f p0) i9) zsp zrm zst zsl zsv ztx zln zth zsg zbg zwd zhg zin zop zbe zwi zhi zbk zot zer zen zpo zpi zgr (lowOf (shrQ zq f p0) (lowOf (shr1 zq f p0) zsh 5) 5) zsn H ∧ va_S (ftA (fun q => r ≤ q ∧ q < r + 16) H0.size) H0 H locs ∧ lv_has ls 5 [(0, .ref r), (1, .int (nI f)), (2, .int (nI p0)), (3, .int (nI (szF zq f))), (4, .int (nI i9))]) (fun xx9 => match xx9 with | i9 => 5 - i9) ?_ 0 ⟨(by omega), hR, hS, lv_sub hl [2, 3, 4, 1, 0] rfl⟩
  rintro i9 H locs ls ⟨hi, hR, hS, hl⟩ ih
  have ih15 := ih
  refine lv_iload hx hb dX11_raffles_15 (lv_at hl 4 rfl) ?_
  refine lv_iconst (v := nI 5) hx hb dX11_raffles_17 (by decide) ?_
  refine mn_icmp_ge (tgt := 47) hB dX11_raffles_18 (by decide) (by omega) (by omega) (fun h_18 => ?_) (fun h_18 => ?_)
  · skip
    have hin : i9 = 5 := by omega
    subst hin
    have hW1 : WF (penU zq (shrQ zq f p0) 5) := penU_WF hW (by omega)
    have hs1 : Same zq (penU zq (shrQ zq f p0) 5) f := penU_same (by omega)
    have hF1 := hs1.wf hF
    refine lv_iconst (v := nI 0) hx hb dX11_raffles_47 (by decide) ?_
    refine lv_istore (lv' := [(4, .int (nI 0)), (0, .ref r), (1, .int (nI f)), (2, .int (nI p0)), (3, .int (nI (szF zq f)))]) hx hb dX11_raffles_48 hl (by decide) rfl (fun ls hl => ?_)
    refine mh_loop (σ := Nat) (fun xx9 H locs ls => match xx9 with | i9 => i9 ≤ szF zq f ∧ ModAt g r (incU 68 (penU zq (shrQ zq f p0) 5) f i9) zsp zrm zst zsl zsv ztx zln zth zsg zbg zwd zhg zin zop zbe zwi zhi zbk zot zer zen zpo zpi zgr (lowOf (shrQ zq f p0) (lowOf (shr1 zq f p0) zsh 5) 5) zsn H ∧ va_S (ftA (fun q => r ≤ q ∧ q < r + 16) H0.size) H0 H locs ∧ lv_has ls 5 [(0, .ref r), (1, .int (nI f)), (2, .int (nI p0)), (3, .int (nI (szF zq f))), (4, .int (nI i9))]) (fun xx9 => match xx9 with | i9 => szF zq f - i9) ?_ 0 ⟨(by omega), hR, hS, lv_sub hl [1, 2, 3, 4, 0] rfl⟩
    rintro i9 H locs ls ⟨hi, hR, hS, hl⟩ ih
    have ih50 := ih
    have hs9 : Same (penU zq (shrQ zq f p0) 5) (incU 68 (penU zq (shrQ zq f p0) 5) f i9) f := incU_same hF1 (by omega) (by omega)
    refine lv_iload hx hb dX11_raffles_50 (lv_at hl 4 rfl) ?_
    refine lv_iload_n hx hb dX11_raffles_52 rfl (lv_at hl 3 rfl) ?_
    refine mn_icmp_ge (tgt := 81) hB dX11_raffles_53 (by decide) (by omega) (by omega) (fun h_53 => ?_) (fun h_53 => ?_)
    · skip
      have hin : i9 = szF zq f := by omega
      subst hin
      refine lv_aload_n hx hb dX11_raffles_81 rfl (lv_at hl 0 rfl) ?_
      refine gf_X11_7 hB hR.o rfl dX11_raffles_82 ?_
      refine lv_iconst (v := nI 2) hx hb dX11_raffles_85 (by decide) ?_
      refine lv_dup2_11 hx hb dX11_raffles_86 rfl rfl ?_
      refine mn_iald hB hR.a_zq (by omega) (by omega) dX11_raffles_87 ?_
      refine lv_iconst (v := nI 1) hx hb dX11_raffles_88 (by decide) ?_
      refine lv_iadd hx hb dX11_raffles_89 ?_
      refine mn_iast hB hR.a_zq (by first | exact Or.inl rfl | (simp only [ftA]; omega) | (simp [ftA]; omega)) hS (by omega) (by omega) dX11_raffles_90 (fun H locs hwr => ?_)
      obtain ⟨hR, hS⟩ := hR.w_zq hwr
      refine lv_aload_n hx hb dX11_raffles_91 rfl (lv_at hl 0 rfl) ?_
      refine gf_X11_7 hB hR.o rfl dX11_raffles_92 ?_
      refine lv_iconst (v := nI 3) hx hb dX11_raffles_95 (by decide) ?_
      refine lv_dup2_11 hx hb dX11_raffles_96 rfl rfl ?_
      refine mn_iald hB hR.a_zq (by omega) (by omega) dX11_raffles_97 ?_
      refine lv_iload_n hx hb dX11_raffles_98 rfl (lv_at hl 3 rfl) ?_
      refine lv_iadd hx hb dX11_raffles_99 ?_
      refine mn_iast hB hR.a_zq (by first | exact Or.inl rfl | (simp only [ftA]; omega) | (simp [ftA]; omega)) hS (by omega) (by omega) dX11_raffles_100 (fun H locs hwr => ?_)
      obtain ⟨hR, hS⟩ := hR.w_zq hwr
      refine lv_aload_n hx hb dX11_raffles_101 rfl (lv_at hl 0 rfl) ?_
      refine gf_X11_7 hB hR.o rfl dX11_raffles_102 ?_
      refine lv_iconst (v := nI 4) hx hb dX11_raffles_105 (by decide) ?_
      refine lv_dup2_11 hx hb dX11_raffles_106 rfl rfl ?_
      refine mn_iald hB hR.a_zq (by omega) (by omega) dX11_raffles_107 ?_
      refine lv_iload_n hx hb dX11_raffles_108 rfl (lv_at hl 2 rfl) ?_
      refine lv_iadd hx hb dX11_raffles_109 ?_
      refine mn_iast hB hR.a_zq (by first | exact Or.inl rfl | (simp only [ftA]; omega) | (simp [ftA]; omega)) hS (by omega) (by omega) dX11_raffles_110 (fun H locs hwr => ?_)
      obtain ⟨hR, hS⟩ := hR.w_zq hwr
      refine lv_aload_n hx hb dX11_raffles_111 rfl (lv_at hl 0 rfl) ?_
      refine lv_iload_n hx hb dX11_raffles_112 rfl (lv_at hl 1 rfl) ?_
      refine cl_X11_221 (As := [.int (nI f)]) (rest := []) hB (c_X11_empties l g H r (upd (upd (upd (incU 68 (penU zq (shrQ zq f p0) 5) f (szF zq f)) 2 (((incU 68 (penU zq (shrQ zq f p0) 5) f (szF zq f)) 2) + (nI 1))) 3 (((upd (incU 68 (penU zq (shrQ zq f p0) 5) f (szF zq f)) 2 (((incU 68 (penU zq (shrQ zq f p0) 5) f (szF zq f)) 2) + (nI 1))) 3) + (nI (szF zq f)))) 4 (((upd (upd (incU 68 (penU zq (shrQ zq f p0) 5) f (szF zq f)) 2 (((incU 68 (penU zq (shrQ zq f p0) 5) f (szF zq f)) 2) + (nI 1))) 3 (((upd (incU 68 (penU zq (shrQ zq f p0) 5) f (szF zq f)) 2 (((incU 68 (penU zq (shrQ zq f p0) 5) f (szF zq f)) 2) + (nI 1))) 3) + (nI (szF zq f)))) 4) + (nI p0))) zsp zrm zst zsl zsv ztx zln zth zsg zbg zwd zhg zin zop zbe zwi zhi zbk zot zer zen zpo zpi zgr (lowOf (shrQ zq f p0) (lowOf (shr1 zq f p0) zsh 5) 5) zsn f hR (by omega)) hR.o rfl hl.1 (Nat.le_of_ble_eq_true rfl) dX11_raffles_113 ⟨Nat.le_of_ble_eq_true rfl, Nat.le_of_ble_eq_true rfl⟩ ⟨Nat.le_of_ble_eq_true rfl, Nat.le_of_ble_eq_true rfl⟩ hS (by have hz9 := hS.1; rintro q (h | h) <;> first | exact Or.inr (by omega) | exact h.elim | exact Or.inl h | (simp only [ftA] at h ⊢; omega)) (fun v H1 locs hpo hfr hS => ?_)
      obtain ⟨rfl, hR⟩ := hpo
      generalize H1 = H at hfr hS hR ⊢
      refine W.widen (k := 0) (n := 0) (Nat.le_of_ble_eq_true rfl) (Nat.le_of_ble_eq_true rfl) ?_
      refine lv_iload_n hx hb dX11_raffles_116 rfl (lv_at hl 3 rfl) ?_
      refine mh_iret hB ⟨Nat.le_of_ble_eq_true rfl, Nat.le_of_ble_eq_true rfl⟩ hS dX11_raffles_117 ⟨?_, ?_⟩
      · rfl
      · exact hR
    · skip
      refine lv_aload_n hx hb dX11_raffles_56 rfl (lv_at hl 0 rfl) ?_
      refine gf_X11_7 hB hR.o rfl dX11_raffles_57 ?_
      refine lv_bipush (v := nI 68) hx hb dX11_raffles_60 (by decide) ?_
      refine lv_aload_n hx hb dX11_raffles_62 rfl (lv_at hl 0 rfl) ?_
      refine lv_iload_n hx hb dX11_raffles_63 rfl (lv_at hl 1 rfl) ?_
      refine lv_iload hx hb dX11_raffles_64 (lv_at hl 4 rfl) ?_
      refine cl_X11_150 (As := [.int (nI f), .int (nI i9)]) (rest := [.int (nI 68), .ref (r + 1)]) hB (c_X11_colourAt l g H r (incU 68 (penU zq (shrQ zq f p0) 5) f i9) zsp zrm zst zsl zsv ztx zln zth zsg zbg zwd zhg zin zop zbe zwi zhi zbk zot zer zen zpo zpi zgr (lowOf (shrQ zq f p0) (lowOf (shr1 zq f p0) zsh 5) 5) zsn f i9 hR (by omega) (hs9.wf hF1) (by omega)) hR.o rfl hl.1 (Nat.le_of_ble_eq_true rfl) dX11_raffles_66 ⟨Nat.le_of_ble_eq_true rfl, Nat.le_of_ble_eq_true rfl⟩ ⟨Nat.le_of_ble_eq_true rfl, Nat.le_of_ble_eq_true rfl⟩ hS (by have hz9 := hS.1; rintro q (h | h) <;> first | exact Or.inr (by omega) | exact h.elim | exact Or.inl h | (simp only [ftA] at h ⊢; omega)) (fun v H1 locs hpo hfr hS => ?_)
      obtain ⟨rfl, rfl⟩ := hpo
      refine W.widen (k := 0) (n := 0) (Nat.le_of_ble_eq_true rfl) (Nat.le_of_ble_eq_true rfl) ?_
      refine mh_top (y := .int (nI (clF (penU zq (shrQ zq f p0) 5) f i9))) (by rw [hs9.cl (by omega)]) ?_
      have hc6 := hF1.c6 (k := i9) (by omega)
      refine mn_iadd hB dX11_raffles_69 ?_
      refine lv_dup2_11 hx hb dX11_raffles_70 rfl rfl ?_
      refine mn_iald hB hR.a_zq (by omega) (by omega) dX11_raffles_71 ?_
      refine lv_iconst (v := nI 1) hx hb dX11_raffles_72 (by decide) ?_
      refine lv_iadd hx hb dX11_raffles_73 ?_
      refine mn_iast hB hR.a_zq (by first | exact Or.inl rfl | (simp only [ftA]; omega) | (simp [ftA]; omega)) hS (by omega) (by omega) dX11_raffles_74 (fun H locs hwr => ?_)
      obtain ⟨hR, hS⟩ := hR.w_zq hwr
      refine lv_iinc (v := nI (i9 + 1)) (lv' := [(4, .int (nI (i9 + 1))), (0, .ref r), (1, .int (nI f)), (2, .int (nI p0)), (3, .int (nI (szF zq f)))]) hx hb dX11_raffles_75 hl (k := 4) rfl (nI_1 _) (by decide) rfl (fun ls hl => ?_)
      refine lv_goto (tgt := 50) hx hb dX11_raffles_78 (by decide) ?_
      refine ih50 (i9 + 1) _ _ _ ⟨(by omega), hR, hS, lv_sub hl [1, 2, 3, 4, 0] rfl⟩ (by dsimp only; omega)
  · skip
    refine lv_aload_n hx hb dX11_raffles_21 rfl (lv_at hl 0 rfl) ?_
    refine gf_X11_7 hB hR.o rfl dX11_raffles_22 ?_
    refine lv_bipush (v := nI 10) hx hb dX11_raffles_25 (by decide) ?_
    refine lv_iload hx hb dX11_raffles_27 (lv_at hl 4 rfl) ?_
    refine mn_iadd hB dX11_raffles_29 ?_
    refine lv_dup2_11 hx hb dX11_raffles_30 rfl rfl ?_
    refine mn_iald hB hR.a_zq (by omega) (by omega) dX11_raffles_31 ?_
    refine lv_aload_n hx hb dX11_raffles_32 rfl (lv_at hl 0 rfl) ?_
    refine gf_X11_53 hB hR.o rfl dX11_raffles_33 ?_
    refine lv_iload hx hb dX11_raffles_36 (lv_at hl 4 rfl) ?_
    refine mn_iald hB hR.a_zsh (by omega) (by omega) dX11_raffles_38 ?_
    refine mh_top (y := .int (shrQ zq f p0 i9)) (by rw [lowOf_all _ _ (by omega)]) ?_
    refine lv_iadd hx hb dX11_raffles_39 ?_
    refine mn_iast hB hR.a_zq (by first | exact Or.inl rfl | (simp only [ftA]; omega) | (simp [ftA]; omega)) hS (by omega) (by omega) dX11_raffles_40 (fun H locs hwr => ?_)
    obtain ⟨hR, hS⟩ := hR.w_zq hwr
    refine lv_iinc (v := nI (i9 + 1)) (lv' := [(4, .int (nI (i9 + 1))), (0, .ref r), (1, .int (nI f)), (2, .int (nI p0)), (3, .int (nI (szF zq f)))]) hx hb dX11_raffles_41 hl (k := 4) rfl (nI_1 _) (by decide) rfl (fun ls hl => ?_)
    refine lv_goto (tgt := 15) hx hb dX11_raffles_44 (by decide) ?_
    refine ih15 (i9 + 1) _ _ _ ⟨(by omega), hR, hS, lv_sub hl [1, 2, 3, 4, 0] rfl⟩ (by dsimp only; omega)

def rm_c_X11_raffle : Room := { frames := 5, cells := 0, slots := 0, locals := 115 }
set_option maxRecDepth 100000 in
set_option maxHeartbeats 400000 in
theorem c_X11_raffle (l : Launch) (g : GG) (H0 : Heap) (r : Nat) (zq : Nat → Int32) (zsp : Nat → Int32) (zrm : Nat → Int32) (zsl : Nat → Int32) (zsv : Nat → Int32) (ztx : Nat → Int32) (zln : Int32) (zth : Int32) (zsg : Nat → Int32) (zbg : Nat → Int32) (zwd : Nat → Int32) (zhg : Nat → Int32) (zin : Nat → Int32) (zop : Int32) (zbe : Int32) (zwi : Int32) (zhi : Int32) (zbk : Nat → Int32) (zot : Nat → Int32) (zer : Int32) (zen : Int32) (zpo : Nat → Int32) (zpi : Int32) (zgr : Int32) (zsh : Nat → Int32) (zsn : Int32) (n : Nat) (f : Nat) (p0 : Nat) (hR : ModAt g r zq zsp zrm (nI n) zsl zsv ztx zln zth zsg zbg zwd zhg zin zop zbe zwi zhi zbk zot zer zen zpo zpi zgr zsh zsn H0) (hn : n ≤ 14) (hW : WF zq) (hf : f < 3) (hp : p0 < 10000) (hs0 : 0 < szF zq f) (hs1 : swF zq f = szF zq f) : Ct l yX11_raffle cX11_raffle 3 (some .int) rm_c_X11_raffle g [.ref r, .int (nI f), .int (nI p0)] H0 (ftA (fun q => r ≤ q ∧ q < r + 16) H0.size) (fun v H1 => v = some (.int (nI (szF zq f))) ∧ ModAt g r (rafQ zq f p0) zsp (remA zrm n zq) (nI (nxtS n)) zsl zsv ztx zln (nI 0) zsg zbg zwd zhg zin zop zbe zwi zhi zbk zot zer zen zpo zpi zgr (lowOf (shrQ zq f p0) (lowOf (shr1 zq f p0) zsh 5) 5) zsn H1) := by
  refine Ct.of (by decide) (fun _ h => Or.inr h) (Nat.le_of_ble_eq_true rfl) ?_
  intro p e s m below meth c ls hB hin hS hH hl
  have hx := hB.x
  have hb := hB.b
  have hl : lv_has ls 3 [(0, .ref r), (1, .int (nI f)), (2, .int (nI p0))] := hl
  refine lv_aload_n hx hb dX11_raffle_0 rfl (lv_at hl 0 rfl) ?_
  refine lv_iconst (v := nI 0) hx hb dX11_raffle_1 (by decide) ?_
  refine pf_X11_56 hB hR.o (by first | exact Or.inl rfl | (simp only [ftA]; omega) | (simp [ftA]; omega)) hS rfl rfl (Nat.le_of_ble_eq_true rfl) dX11_raffle_2 (fun H locs hwr => ?_)
  obtain ⟨hR, hS⟩ := hR.w_zth hwr
  refine lv_iload_n hx hb dX11_raffle_5 rfl (lv_at hl 1 rfl) ?_
  refine cl_X11_175 (As := [.int (nI f)]) (rest := []) hB (c_X11_isFrame l g H (nI f)) rfl hl.1 (Nat.le_of_ble_eq_true rfl) dX11_raffle_6 ⟨Nat.le_of_ble_eq_true rfl, Nat.le_of_ble_eq_true rfl⟩ ⟨Nat.le_of_ble_eq_true rfl, Nat.le_of_ble_eq_true rfl⟩ hS (by have hz9 := hS.1; rintro q (h | h) <;> first | exact Or.inr (by omega) | exact h.elim | exact Or.inl h | (simp only [ftA] at h ⊢; omega)) (fun v H1 locs hpo hfr hS => ?_)
  obtain ⟨rfl, rfl⟩ := hpo
  refine W.widen (k := 0) (n := 0) (Nat.le_of_ble_eq_true rfl) (Nat.le_of_ble_eq_true rfl) ?_
  refine mb_if_ne (tgt := 18) hB dX11_raffle_9 (by decide) (fun h_9 => ?_) (fun h => by rw [isIx_of hf (by omega)] at h; cases h)
  refine lv_iload_n hx hb dX11_raffle_18 rfl (lv_at hl 2 rfl) ?_
  refine lv_i2l (v := (nI p0).toInt64) hx hb dX11_raffle_19 rfl ?_
  refine lv_lconst (v := 0) hx hb dX11_raffle_20 (by decide) ?_
  refine lv_ldc2 (v := (9999)) hx hb hB.ow (hB.K.2 _ kw_1267 _) dX11_raffle_21 ?_
  refine cl_X11_63 (As := [.long ((nI p0).toInt64), .long 0, .long (9999)]) (rest := []) hB (c_X11_in l g H ((nI p0).toInt64) 0 (9999)) rfl hl.1 (Nat.le_of_ble_eq_true rfl) dX11_raffle_24 ⟨Nat.le_of_ble_eq_true rfl, Nat.le_of_ble_eq_true rfl⟩ ⟨Nat.le_of_ble_eq_true rfl, Nat.le_of_ble_eq_true rfl⟩ hS (by have hz9 := hS.1; rintro q (h | h) <;> first | exact Or.inr (by omega) | exact h.elim | exact Or.inl h | (simp only [ftA] at h ⊢; omega)) (fun v H1 locs hpo hfr hS => ?_)
  obtain ⟨rfl, rfl⟩ := hpo
  refine W.widen (k := 0) (n := 0) (Nat.le_of_ble_eq_true rfl) (Nat.le_of_ble_eq_true rfl) ?_
  refine mh_top (y := .int (bI (isIx (nI p0) 10000))) (by rw [inL_ix _ 10000 _ (by decide +kernel)]) ?_
  refine mb_if_ne (tgt := 36) hB dX11_raffle_27 (by decide) (fun h_27 => ?_) (fun h => by rw [isIx_of hp (by omega)] at h; cases h)
  refine lv_aload_n hx hb dX11_raffle_36 rfl (lv_at hl 0 rfl) ?_
  refine lv_iload_n hx hb dX11_raffle_37 rfl (lv_at hl 1 rfl) ?_
  refine cl_X11_235 (As := [.int (nI f)]) (rest := []) hB (c_X11_isFinished l g H r zq zsp zrm (nI n) zsl zsv ztx zln (nI 0) zsg zbg zwd zhg zin zop zbe zwi zhi zbk zot zer zen zpo zpi zgr zsh zsn f hR (by omega) (hW.fr hf)) hR.o rfl hl.1 (Nat.le_of_ble_eq_true rfl) dX11_raffle_38 ⟨Nat.le_of_ble_eq_true rfl, Nat.le_of_ble_eq_true rfl⟩ ⟨Nat.le_of_ble_eq_true rfl, Nat.le_of_ble_eq_true rfl⟩ hS (by have hz9 := hS.1; rintro q (h | h) <;> first | exact Or.inr (by omega) | exact h.elim | exact Or.inl h | (simp only [ftA] at h ⊢; omega)) (fun v H1 locs hpo hfr hS => ?_)
  obtain ⟨rfl, rfl⟩ := hpo
  refine W.widen (k := 0) (n := 0) (Nat.le_of_ble_eq_true rfl) (Nat.le_of_ble_eq_true rfl) ?_
  refine mb_if_ne (tgt := 50) hB dX11_raffle_41 (by decide) (fun h_41 => ?_) (fun h => by rw [decide_eq_true (And.intro hs0 hs1)] at h; cases h)
  refine lv_aload_n hx hb dX11_raffle_50 rfl (lv_at hl 0 rfl) ?_
  refine cl_X11_200 (As := []) (rest := []) hB (c_X11_remember l g H r zq zsp zrm zsl zsv ztx zln (nI 0) zsg zbg zwd zhg zin zop zbe zwi zhi zbk zot zer zen zpo zpi zgr zsh zsn n hR (by omega)) hR.o rfl hl.1 (Nat.le_of_ble_eq_true rfl) dX11_raffle_51 ⟨Nat.le_of_ble_eq_true rfl, Nat.le_of_ble_eq_true rfl⟩ ⟨Nat.le_of_ble_eq_true rfl, Nat.le_of_ble_eq_true rfl⟩ hS (by have hz9 := hS.1; rintro q (h | h) <;> first | exact Or.inr (by omega) | exact h.elim | exact Or.inl h | (simp only [ftA] at h ⊢; omega)) (fun v H1 locs hpo hfr hS => ?_)
  obtain ⟨rfl, hR⟩ := hpo
  generalize H1 = H at hfr hS hR ⊢
  refine W.widen (k := 0) (n := 0) (Nat.le_of_ble_eq_true rfl) (Nat.le_of_ble_eq_true rfl) ?_
  refine lv_aload_n hx hb dX11_raffle_54 rfl (lv_at hl 0 rfl) ?_
  refine lv_iload_n hx hb dX11_raffle_55 rfl (lv_at hl 1 rfl) ?_
  refine lv_iload_n hx hb dX11_raffle_56 rfl (lv_at hl 2 rfl) ?_
  refine cl_X11_238 (As := [.int (nI f), .int (nI p0)]) (rest := []) hB (c_X11_raffles l g H r zq zsp (remA zrm n zq) (nI (nxtS n)) zsl zsv ztx zln (nI 0) zsg zbg zwd zhg zin zop zbe zwi zhi zbk zot zer zen zpo zpi zgr zsh zsn f p0 hR (by omega) (by omega) (by omega) (by omega)) hR.o rfl hl.1 (Nat.le_of_ble_eq_true rfl) dX11_raffle_57 ⟨Nat.le_of_ble_eq_true rfl, Nat.le_of_ble_eq_true rfl⟩ ⟨Nat.le_of_ble_eq_true rfl, Nat.le_of_ble_eq_true rfl⟩ hS (by have hz9 := hS.1; rintro q (h | h) <;> first | exact Or.inr (by omega) | exact h.elim | exact Or.inl h | (simp only [ftA] at h ⊢; omega)) (fun v H1 locs hpo hfr hS => ?_)
  obtain ⟨rfl, hR⟩ := hpo
  generalize H1 = H at hfr hS hR ⊢
  refine W.widen (k := 0) (n := 0) (Nat.le_of_ble_eq_true rfl) (Nat.le_of_ble_eq_true rfl) ?_
  refine mh_iret hB ⟨Nat.le_of_ble_eq_true rfl, Nat.le_of_ble_eq_true rfl⟩ hS dX11_raffle_60 ⟨?_, ?_⟩
  · rfl
  · exact hR

def rm_c_X11_raffle_t1 : Room := { frames := 2, cells := 0, slots := 0, locals := 45 }
set_option maxRecDepth 100000 in
set_option maxHeartbeats 400000 in
theorem c_X11_raffle_t1 (l : Launch) (g : GG) (H0 : Heap) (r : Nat) (zq : Nat → Int32) (zsp : Nat → Int32) (zrm : Nat → Int32) (zst : Int32) (zsl : Nat → Int32) (zsv : Nat → Int32) (ztx : Nat → Int32) (zln : Int32) (zth : Int32) (zsg : Nat → Int32) (zbg : Nat → Int32) (zwd : Nat → Int32) (zhg : Nat → Int32) (zin : Nat → Int32) (zop : Int32) (zbe : Int32) (zwi : Int32) (zhi : Int32) (zbk : Nat → Int32) (zot : Nat → Int32) (zer : Int32) (zen : Int32) (zpo : Nat → Int32) (zpi : Int32) (zgr : Int32) (zsh : Nat → Int32) (zsn : Int32) (x : Int32) (y : Int32) (hR : ModAt g r zq zsp zrm zst zsl zsv ztx zln zth zsg zbg zwd zhg zin zop zbe zwi zhi zbk zot zer zen zpo zpi zgr zsh zsn H0) (hx1 : isIx x 3 = false) : Ct l yX11_raffle cX11_raffle 3 (some .int) rm_c_X11_raffle_t1 g [.ref r, .int x, .int y] H0 (ftA (fun q => r ≤ q ∧ q < r + 16) H0.size) (fun v H1 => v = some (.int (nI 0)) ∧ ModAt g r zq zsp zrm zst zsl zsv ztx zln (nI 1) zsg zbg zwd zhg zin zop zbe zwi zhi zbk zot zer zen zpo zpi zgr zsh zsn H1) := by
  refine Ct.of (by decide) (fun _ h => Or.inr h) (Nat.le_of_ble_eq_true rfl) ?_
  intro p e s m below meth c ls hB hin hS hH hl
  have hx := hB.x
  have hb := hB.b
  have hl : lv_has ls 3 [(0, .ref r), (1, .int x), (2, .int y)] := hl
  refine lv_aload_n hx hb dX11_raffle_0 rfl (lv_at hl 0 rfl) ?_
  refine lv_iconst (v := nI 0) hx hb dX11_raffle_1 (by decide) ?_
  refine pf_X11_56 hB hR.o (by first | exact Or.inl rfl | (simp only [ftA]; omega) | (simp [ftA]; omega)) hS rfl rfl (Nat.le_of_ble_eq_true rfl) dX11_raffle_2 (fun H locs hwr => ?_)
  obtain ⟨hR, hS⟩ := hR.w_zth hwr
  refine lv_iload_n hx hb dX11_raffle_5 rfl (lv_at hl 1 rfl) ?_
  refine cl_X11_175 (As := [.int x]) (rest := []) hB (c_X11_isFrame l g H x) rfl hl.1 (Nat.le_of_ble_eq_true rfl) dX11_raffle_6 ⟨Nat.le_of_ble_eq_true rfl, Nat.le_of_ble_eq_true rfl⟩ ⟨Nat.le_of_ble_eq_true rfl, Nat.le_of_ble_eq_true rfl⟩ hS (by have hz9 := hS.1; rintro q (h | h) <;> first | exact Or.inr (by omega) | exact h.elim | exact Or.inl h | (simp only [ftA] at h ⊢; omega)) (fun v H1 locs hpo hfr hS => ?_)
  obtain ⟨rfl, rfl⟩ := hpo
  refine W.widen (k := 0) (n := 0) (Nat.le_of_ble_eq_true rfl) (Nat.le_of_ble_eq_true rfl) ?_
  refine mb_if_ne (tgt := 18) hB dX11_raffle_9 (by decide) (fun h => by rw [hx1] at h; cases h) (fun h_9 => ?_)
  refine lv_aload_n hx hb dX11_raffle_12 rfl (lv_at hl 0 rfl) ?_
  refine lv_iconst (v := nI 1) hx hb dX11_raffle_13 (by decide) ?_
  refine cl_X11_81 (As := [.int (nI 1)]) (rest := []) hB (c_X11_fails l g H r zq zsp zrm zst zsl zsv ztx zln (nI 0) zsg zbg zwd zhg zin zop zbe zwi zhi zbk zot zer zen zpo zpi zgr zsh zsn (nI 1) hR) hR.o rfl hl.1 (Nat.le_of_ble_eq_true rfl) dX11_raffle_14 ⟨Nat.le_of_ble_eq_true rfl, Nat.le_of_ble_eq_true rfl⟩ ⟨Nat.le_of_ble_eq_true rfl, Nat.le_of_ble_eq_true rfl⟩ hS (by have hz9 := hS.1; rintro q (h | h) <;> first | exact Or.inr (by omega) | exact h.elim | exact Or.inl h | (simp only [ftA] at h ⊢; omega)) (fun v H1 locs hpo hfr hS => ?_)
  obtain ⟨rfl, hR⟩ := hpo
  generalize H1 = H at hfr hS hR ⊢
  refine W.widen (k := 0) (n := 0) (Nat.le_of_ble_eq_true rfl) (Nat.le_of_ble_eq_true rfl) ?_
  refine mh_iret hB ⟨Nat.le_of_ble_eq_true rfl, Nat.le_of_ble_eq_true rfl⟩ hS dX11_raffle_17 ⟨?_, ?_⟩
  · rfl
  · exact hR

def rm_c_X11_raffle_t2 : Room := { frames := 2, cells := 0, slots := 0, locals := 45 }
set_option maxRecDepth 100000 in
set_option maxHeartbeats 400000 in
theorem c_X11_raffle_t2 (l : Launch) (g : GG) (H0 : Heap) (r : Nat) (zq : Nat → Int32) (zsp : Nat → Int32) (zrm : Nat → Int32) (zst : Int32) (zsl : Nat → Int32) (zsv : Nat → Int32) (ztx : Nat → Int32) (zln : Int32) (zth : Int32) (zsg : Nat → Int32) (zbg : Nat → Int32) (zwd : Nat → Int32) (zhg : Nat → Int32) (zin : Nat → Int32) (zop : Int32) (zbe : Int32) (zwi : Int32) (zhi : Int32) (zbk : Nat → Int32) (zot : Nat → Int32) (zer : Int32) (zen : Int32) (zpo : Nat → Int32) (zpi : Int32) (zgr : Int32) (zsh : Nat → Int32) (zsn : Int32) (f : Nat) (y : Int32) (hR : ModAt g r zq zsp zrm zst zsl zsv ztx zln zth zsg zbg zwd zhg zin zop zbe zwi zhi zbk zot zer zen zpo zpi zgr zsh zsn H0) (hf : f < 3) (hx1 : isIx y 10000 = false) : Ct l yX11_raffle cX11_raffle 3 (some .int) rm_c_X11_raffle_t2 g [.ref r, .int (nI f), .int y] H0 (ftA (fun q => r ≤ q ∧ q < r + 16) H0.size) (fun v H1 => v = some (.int (nI 0)) ∧ ModAt g r zq zsp zrm zst zsl zsv ztx zln (nI 2) zsg zbg zwd zhg zin zop zbe zwi zhi zbk zot zer zen zpo zpi zgr zsh zsn H1) := by
  refine Ct.of (by decide) (fun _ h => Or.inr h) (Nat.le_of_ble_eq_true rfl) ?_
  intro p e s m below meth c ls hB hin hS hH hl
  have hx := hB.x
  have hb := hB.b
  have hl : lv_has ls 3 [(0, .ref r), (1, .int (nI f)), (2, .int y)] := hl
  refine lv_aload_n hx hb dX11_raffle_0 rfl (lv_at hl 0 rfl) ?_
  refine lv_iconst (v := nI 0) hx hb dX11_raffle_1 (by decide) ?_
  refine pf_X11_56 hB hR.o (by first | exact Or.inl rfl | (simp only [ftA]; omega) | (simp [ftA]; omega)) hS rfl rfl (Nat.le_of_ble_eq_true rfl) dX11_raffle_2 (fun H locs hwr => ?_)
  obtain ⟨hR, hS⟩ := hR.w_zth hwr
  refine lv_iload_n hx hb dX11_raffle_5 rfl (lv_at hl 1 rfl) ?_
  refine cl_X11_175 (As := [.int (nI f)]) (rest := []) hB (c_X11_isFrame l g H (nI f)) rfl hl.1 (Nat.le_of_ble_eq_true rfl) dX11_raffle_6 ⟨Nat.le_of_ble_eq_true rfl, Nat.le_of_ble_eq_true rfl⟩ ⟨Nat.le_of_ble_eq_true rfl, Nat.le_of_ble_eq_true rfl⟩ hS (by have hz9 := hS.1; rintro q (h | h) <;> first | exact Or.inr (by omega) | exact h.elim | exact Or.inl h | (simp only [ftA] at h ⊢; omega)) (fun v H1 locs hpo hfr hS => ?_)
  obtain ⟨rfl, rfl⟩ := hpo
  refine W.widen (k := 0) (n := 0) (Nat.le_of_ble_eq_true rfl) (Nat.le_of_ble_eq_true rfl) ?_
  refine mb_if_ne (tgt := 18) hB dX11_raffle_9 (by decide) (fun h_9 => ?_) (fun h => by rw [isIx_of hf (by omega)] at h; cases h)
  refine lv_iload_n hx hb dX11_raffle_18 rfl (lv_at hl 2 rfl) ?_
  refine lv_i2l (v := (y).toInt64) hx hb dX11_raffle_19 rfl ?_
  refine lv_lconst (v := 0) hx hb dX11_raffle_20 (by decide) ?_
  refine lv_ldc2 (v := (9999)) hx hb hB.ow (hB.K.2 _ kw_1267 _) dX11_raffle_21 ?_
  refine cl_X11_63 (As := [.long ((y).toInt64), .long 0, .long (9999)]) (rest := []) hB (c_X11_in l g H ((y).toInt64) 0 (9999)) rfl hl.1 (Nat.le_of_ble_eq_true rfl) dX11_raffle_24 ⟨Nat.le_of_ble_eq_true rfl, Nat.le_of_ble_eq_true rfl⟩ ⟨Nat.le_of_ble_eq_true rfl, Nat.le_of_ble_eq_true rfl⟩ hS (by have hz9 := hS.1; rintro q (h | h) <;> first | exact Or.inr (by omega) | exact h.elim | exact Or.inl h | (simp only [ftA] at h ⊢; omega)) (fun v H1 locs hpo hfr hS => ?_)
  obtain ⟨rfl, rfl⟩ := hpo
  refine W.widen (k := 0) (n := 0) (Nat.le_of_ble_eq_true rfl) (Nat.le_of_ble_eq_true rfl) ?_
  refine mh_top (y := .int (bI (isIx y 10000))) (by rw [inL_ix _ 10000 _ (by decide +kernel)]) ?_
  refine mb_if_ne (tgt := 36) hB dX11_raffle_27 (by decide) (fun h => by rw [hx1] at h; cases h) (fun h_27 => ?_)
  refine lv_aload_n hx hb dX11_raffle_30 rfl (lv_at hl 0 rfl) ?_
  refine lv_iconst (v := nI 2) hx hb dX11_raffle_31 (by decide) ?_
  refine cl_X11_81 (As := [.int (nI 2)]) (rest := []) hB (c_X11_fails l g H r zq zsp zrm zst zsl zsv ztx zln (nI 0) zsg zbg zwd zhg zin zop zbe zwi zhi zbk zot zer zen zpo zpi zgr zsh zsn (nI 2) hR) hR.o rfl hl.1 (Nat.le_of_ble_eq_true rfl) dX11_raffle_32 ⟨Nat.le_of_ble_eq_true rfl, Nat.le_of_ble_eq_true rfl⟩ ⟨Nat.le_of_ble_eq_true rfl, Nat.le_of_ble_eq_true rfl⟩ hS (by have hz9 := hS.1; rintro q (h | h) <;> first | exact Or.inr (by omega) | exact h.elim | exact Or.inl h | (simp only [ftA] at h ⊢; omega)) (fun v H1 locs hpo hfr hS => ?_)
  obtain ⟨rfl, hR⟩ := hpo
  generalize H1 = H at hfr hS hR ⊢
  refine W.widen (k := 0) (n := 0) (Nat.le_of_ble_eq_true rfl) (Nat.le_of_ble_eq_true rfl) ?_
  refine mh_iret hB ⟨Nat.le_of_ble_eq_true rfl, Nat.le_of_ble_eq_true rfl⟩ hS dX11_raffle_35 ⟨?_, ?_⟩
  · rfl
  · exact hR

def rm_c_X11_raffle_t3 : Room := { frames := 3, cells := 0, slots := 0, locals := 63 }
set_option maxRecDepth 100000 in
set_option maxHeartbeats 400000 in
theorem c_X11_raffle_t3 (l : Launch) (g : GG) (H0 : Heap) (r : Nat) (zq : Nat → Int32) (zsp : Nat → Int32) (zrm : Nat → Int32) (zst : Int32) (zsl : Nat → Int32) (zsv : Nat → Int32) (ztx : Nat → Int32) (zln : Int32) (zth : Int32) (zsg : Nat → Int32) (zbg : Nat → Int32) (zwd : Nat → Int32) (zhg : Nat → Int32) (zin : Nat → Int32) (zop : Int32) (zbe : Int32) (zwi : Int32) (zhi : Int32) (zbk : Nat → Int32) (zot : Nat → Int32) (zer : Int32) (zen : Int32) (zpo : Nat → Int32) (zpi : Int32) (zgr : Int32) (zsh : Nat → Int32) (zsn : Int32) (f : Nat) (p0 : Nat) (hR : ModAt g r zq zsp zrm zst zsl zsv ztx zln zth zsg zbg zwd zhg zin zop zbe zwi zhi zbk zot zer zen zpo zpi zgr zsh zsn H0) (hW : WF zq) (hf : f < 3) (hp : p0 < 10000) (hs0 : ¬ (0 < szF zq f ∧ swF zq f = szF zq f)) : Ct l yX11_raffle cX11_raffle 3 (some .int) rm_c_X11_raffle_t3 g [.ref r, .int (nI f), .int (nI p0)] H0 (ftA (fun q => r ≤ q ∧ q < r + 16) H0.size) (fun v H1 => v = some (.int (nI 0)) ∧ ModAt g r zq zsp zrm zst zsl zsv ztx zln (nI 3) zsg zbg zwd zhg zin zop zbe zwi zhi zbk zot zer zen zpo zpi zgr zsh zsn H1) := by
  refine Ct.of (by decide) (fun _ h => Or.inr h) (Nat.le_of_ble_eq_true rfl) ?_
  intro p e s m below meth c ls hB hin hS hH hl
  have hx := hB.x
  have hb := hB.b
  have hl : lv_has ls 3 [(0, .ref r), (1, .int (nI f)), (2, .int (nI p0))] := hl
  refine lv_aload_n hx hb dX11_raffle_0 rfl (lv_at hl 0 rfl) ?_
  refine lv_iconst (v := nI 0) hx hb dX11_raffle_1 (by decide) ?_
  refine pf_X11_56 hB hR.o (by first | exact Or.inl rfl | (simp only [ftA]; omega) | (simp [ftA]; omega)) hS rfl rfl (Nat.le_of_ble_eq_true rfl) dX11_raffle_2 (fun H locs hwr => ?_)
  obtain ⟨hR, hS⟩ := hR.w_zth hwr
  refine lv_iload_n hx hb dX11_raffle_5 rfl (lv_at hl 1 rfl) ?_
  refine cl_X11_175 (As := [.int (nI f)]) (rest := []) hB (c_X11_isFrame l g H (nI f)) rfl hl.1 (Nat.le_of_ble_eq_true rfl) dX11_raffle_6 ⟨Nat.le_of_ble_eq_true rfl, Nat.le_of_ble_eq_true rfl⟩ ⟨Nat.le_of_ble_eq_true rfl, Nat.le_of_ble_eq_true rfl⟩ hS (by have hz9 := hS.1; rintro q (h | h) <;> first | exact Or.inr (by omega) | exact h.elim | exact Or.inl h | (simp only [ftA] at h ⊢; omega)) (fun v H1 locs hpo hfr hS => ?_)
  obtain ⟨rfl, rfl⟩ := hpo
  refine W.widen (k := 0) (n := 0) (Nat.le_of_ble_eq_true rfl) (Nat.le_of_ble_eq_true rfl) ?_
  refine mb_if_ne (tgt := 18) hB dX11_raffle_9 (by decide) (fun h_9 => ?_) (fun h => by rw [isIx_of hf (by omega)] at h; cases h)
  refine lv_iload_n hx hb dX11_raffle_18 rfl (lv_at hl 2 rfl) ?_
  refine lv_i2l (v := (nI p0).toInt64) hx hb dX11_raffle_19 rfl ?_
  refine lv_lconst (v := 0) hx hb dX11_raffle_20 (by decide) ?_
  refine lv_ldc2 (v := (9999)) hx hb hB.ow (hB.K.2 _ kw_1267 _) dX11_raffle_21 ?_
  refine cl_X11_63 (As := [.long ((nI p0).toInt64), .long 0, .long (9999)]) (rest := []) hB (c_X11_in l g H ((nI p0).toInt64) 0 (9999)) rfl hl.1 (Nat.le_of_ble_eq_true rfl) dX11_raffle_24 ⟨Nat.le_of_ble_eq_true rfl, Nat.le_of_ble_eq_true rfl⟩ ⟨Nat.le_of_ble_eq_true rfl, Nat.le_of_ble_eq_true rfl⟩ hS (by have hz9 := hS.1; rintro q (h | h) <;> first | exact Or.inr (by omega) | exact h.elim | exact Or.inl h | (simp only [ftA] at h ⊢; omega)) (fun v H1 locs hpo hfr hS => ?_)
  obtain ⟨rfl, rfl⟩ := hpo
  refine W.widen (k := 0) (n := 0) (Nat.le_of_ble_eq_true rfl) (Nat.le_of_ble_eq_true rfl) ?_
  refine mh_top (y := .int (bI (isIx (nI p0) 10000))) (by rw [inL_ix _ 10000 _ (by decide +kernel)]) ?_
  refine mb_if_ne (tgt := 36) hB dX11_raffle_27 (by decide) (fun h_27 => ?_) (fun h => by rw [isIx_of hp (by omega)] at h; cases h)
  refine lv_aload_n hx hb dX11_raffle_36 rfl (lv_at hl 0 rfl) ?_
  refine lv_iload_n hx hb dX11_raffle_37 rfl (lv_at hl 1 rfl) ?_
  refine cl_X11_235 (As := [.int (nI f)]) (rest := []) hB (c_X11_isFinished l g H r zq zsp zrm zst zsl zsv ztx zln (nI 0) zsg zbg zwd zhg zin zop zbe zwi zhi zbk zot zer zen zpo zpi zgr zsh zsn f hR (by omega) (hW.fr hf)) hR.o rfl hl.1 (Nat.le_of_ble_eq_true rfl) dX11_raffle_38 ⟨Nat.le_of_ble_eq_true rfl, Nat.le_of_ble_eq_true rfl⟩ ⟨Nat.le_of_ble_eq_true rfl, Nat.le_of_ble_eq_true rfl⟩ hS (by have hz9 := hS.1; rintro q (h | h) <;> first | exact Or.inr (by omega) | exact h.elim | exact Or.inl h | (simp only [ftA] at h ⊢; omega)) (fun v H1 locs hpo hfr hS => ?_)
  obtain ⟨rfl, rfl⟩ := hpo
  refine W.widen (k := 0) (n := 0) (Nat.le_of_ble_eq_true rfl) (Nat.le_of_ble_eq_true rfl) ?_
  refine mb_if_ne (tgt := 50) hB dX11_raffle_41 (by decide) (fun h => by rw [decide_eq_false hs0] at h; cases h) (fun h_41 => ?_)
  refine lv_aload_n hx hb dX11_raffle_44 rfl (lv_at hl 0 rfl) ?_
  refine lv_iconst (v := nI 3) hx hb dX11_raffle_45 (by decide) ?_
  refine cl_X11_81 (As := [.int (nI 3)]) (rest := []) hB (c_X11_fails l g H r zq zsp zrm zst zsl zsv ztx zln (nI 0) zsg zbg zwd zhg zin zop zbe zwi zhi zbk zot zer zen zpo zpi zgr zsh zsn (nI 3) hR) hR.o rfl hl.1 (Nat.le_of_ble_eq_true rfl) dX11_raffle_46 ⟨Nat.le_of_ble_eq_true rfl, Nat.le_of_ble_eq_true rfl⟩ ⟨Nat.le_of_ble_eq_true rfl, Nat.le_of_ble_eq_true rfl⟩ hS (by have hz9 := hS.1; rintro q (h | h) <;> first | exact Or.inr (by omega) | exact h.elim | exact Or.inl h | (simp only [ftA] at h ⊢; omega)) (fun v H1 locs hpo hfr hS => ?_)
  obtain ⟨rfl, hR⟩ := hpo
  generalize H1 = H at hfr hS hR ⊢
  refine W.widen (k := 0) (n := 0) (Nat.le_of_ble_eq_true rfl) (Nat.le_of_ble_eq_true rfl) ?_
  refine mh_iret hB ⟨Nat.le_of_ble_eq_true rfl, Nat.le_of_ble_eq_true rfl⟩ hS dX11_raffle_49 ⟨?_, ?_⟩
  · rfl
  · exact hR
