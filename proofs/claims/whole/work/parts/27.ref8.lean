def rm_c_X11_applies_z1 : Room := { frames := 1, cells := 0, slots := 0, locals := 23 }
set_option maxRecDepth 100000 in
set_option maxHeartbeats 400000 in
theorem c_X11_applies_z1 (l : Launch) (g : GG) (H0 : Heap) (r : Nat) (zq : Nat → Int32) (zsp : Nat → Int32) (zrm : Nat → Int32) (zst : Int32) (zsl : Nat → Int32) (zsv : Nat → Int32) (ztx : Nat → Int32) (zln : Int32) (zth : Int32) (zsg : Nat → Int32) (zbg : Nat → Int32) (zwd : Nat → Int32) (zhg : Nat → Int32) (zin : Nat → Int32) (zop : Int32) (zbe : Int32) (zbk : Nat → Int32) (zot : Nat → Int32) (zer : Int32) (zen : Int32) (zpo : Nat → Int32) (zpi : Int32) (zgr : Int32) (zsh : Nat → Int32) (zsn : Int32) (hR : ModAt g r zq zsp zrm zst zsl zsv ztx zln zth zsg zbg zwd zhg zin zop zbe (nI 0) (nI 0) zbk zot zer zen zpo zpi zgr zsh zsn H0) : Ct l yX11_applies cX11_applies 5 (some .boolean) rm_c_X11_applies_z1 g [.ref r, .int (nI 60)] H0 (ftA (fun q => r ≤ q ∧ q < r + 16) H0.size) (fun v H1 => v = some (.int (bI true)) ∧ ∃ (bk2 : Nat → Int32), ∃ (ot2 : Nat → Int32), ModAt g r zq zsp zrm zst zsl zsv ztx zln zth zsg zbg zwd zhg zin zop zbe (nI 0) (nI 0) bk2 ot2 zer zen zpo zpi zgr zsh zsn H1) := by
  refine Ct.of (by decide) (fun _ h => Or.inr h) (Nat.le_of_ble_eq_true rfl) ?_
  intro p e s m below meth c ls hB hin hS hH hl
  have hx := hB.x
  have hb := hB.b
  have hl : lv_has ls 5 [(0, .ref r), (1, .int (nI 60))] := hl
  refine lv_iload_n hx hb dX11_applies_0 rfl (lv_at hl 1 rfl) ?_
  refine lv_bipush (v := nI 60) hx hb dX11_applies_1 (by decide) ?_
  refine mn_icmp_ne (tgt := 77) hB dX11_applies_3 (by decide) (by omega) (by omega) (fun h => by exfalso; omega) (fun h_3 => ?_)
  refine lv_iconst (v := nI 0) hx hb dX11_applies_6 (by decide) ?_
  refine lv_istore_n (lv' := [(2, .int (nI 0)), (0, .ref r), (1, .int (nI 60))]) hx hb dX11_applies_7 rfl hl (by decide) rfl (fun ls hl => ?_)
  refine lv_iload_n hx hb dX11_applies_8 rfl (lv_at hl 0 rfl) ?_
  refine lv_aload_n hx hb dX11_applies_9 rfl (lv_at hl 1 rfl) ?_
  refine gf_X11_90 hB hR.o rfl dX11_applies_10 ?_
  refine lv_aload_n hx hb dX11_applies_13 rfl (lv_at hl 1 rfl) ?_
  refine gf_X11_93 hB hR.o rfl dX11_applies_14 ?_
  refine mn_imul hB dX11_applies_17 ?_
  refine mn_icmp_ge (tgt := 63) hB dX11_applies_18 (by decide) (by omega) (by omega) (fun h_18 => ?_) (fun h => by exfalso; omega)
  refine lv_aload_n hx hb dX11_applies_63 rfl (lv_at hl 1 rfl) ?_
  refine lv_aload_n hx hb dX11_applies_64 rfl (lv_at hl 1 rfl) ?_
  refine gf_X11_90 hB hR.o rfl dX11_applies_65 ?_
  refine lv_aload_n hx hb dX11_applies_68 rfl (lv_at hl 1 rfl) ?_
  refine gf_X11_93 hB hR.o rfl dX11_applies_69 ?_
  refine cl_X11_96 (As := [.int (nI 0), .int (nI 0)]) (rest := []) hB (c_X11_fromOther l g H0 r zq zsp zrm zst zsl zsv ztx zln zth zsg zbg zwd zhg zin zop zbe (nI 0) (nI 0) zbk zot zer zen zpo zpi zgr zsh zsn 0 0 hR (by omega)) hR.o rfl hl.1 (Nat.le_of_ble_eq_true rfl) dX11_applies_72 ⟨Nat.le_of_ble_eq_true rfl, Nat.le_of_ble_eq_true rfl⟩ ⟨Nat.le_of_ble_eq_true rfl, Nat.le_of_ble_eq_true rfl⟩ hS (by have hz9 := hS.1; rintro q (h | h) <;> first | exact Or.inr (by omega) | exact h.elim | exact Or.inl h | (simp only [ftA] at h ⊢; omega)) (fun v H1 locs hpo hfr hS => ?_)
  obtain ⟨rfl, hR⟩ := hpo
  generalize H1 = H at hfr hS hR ⊢
  refine W.widen (k := 0) (n := 0) (Nat.le_of_ble_eq_true rfl) (Nat.le_of_ble_eq_true rfl) ?_
  refine lv_iconst (v := nI 1) hx hb dX11_applies_75 (by decide) ?_
  refine mh_top (y := .int (bI true)) (rfl) ?_
  refine mh_zret hB ⟨Nat.le_of_ble_eq_true rfl, Nat.le_of_ble_eq_true rfl⟩ hS dX11_applies_76 (by first | rfl | decide | (split <;> rfl)) ⟨?_, (lowOf zot zbk (0 * 0)), zot, ?_⟩
  · rfl
  · exact hR

def rm_c_X11_applies_z2 : Room := { frames := 1, cells := 0, slots := 0, locals := 23 }
set_option maxRecDepth 100000 in
set_option maxHeartbeats 400000 in
theorem c_X11_applies_z2 (l : Launch) (g : GG) (H0 : Heap) (r : Nat) (zq : Nat → Int32) (zsp : Nat → Int32) (zrm : Nat → Int32) (zst : Int32) (zsl : Nat → Int32) (zsv : Nat → Int32) (ztx : Nat → Int32) (zln : Int32) (zth : Int32) (zsg : Nat → Int32) (zbg : Nat → Int32) (zwd : Nat → Int32) (zhg : Nat → Int32) (zin : Nat → Int32) (zop : Int32) (zbe : Int32) (zbk : Nat → Int32) (zot : Nat → Int32) (zer : Int32) (zen : Int32) (zpo : Nat → Int32) (zpi : Int32) (zgr : Int32) (zsh : Nat → Int32) (zsn : Int32) (hR : ModAt g r zq zsp zrm zst zsl zsv ztx zln zth zsg zbg zwd zhg zin zop zbe (nI 0) (nI 0) zbk zot zer zen zpo zpi zgr zsh zsn H0) : Ct l yX11_applies cX11_applies 5 (some .boolean) rm_c_X11_applies_z2 g [.ref r, .int (nI 94)] H0 (ftA (fun q => r ≤ q ∧ q < r + 16) H0.size) (fun v H1 => v = some (.int (bI true)) ∧ ∃ (bk2 : Nat → Int32), ∃ (ot2 : Nat → Int32), ModAt g r zq zsp zrm zst zsl zsv ztx zln zth zsg zbg zwd zhg zin zop zbe (nI 0) (nI 0) bk2 ot2 zer zen zpo zpi zgr zsh zsn H1) := by
  refine Ct.of (by decide) (fun _ h => Or.inr h) (Nat.le_of_ble_eq_true rfl) ?_
  intro p e s m below meth c ls hB hin hS hH hl
  have hx := hB.x
  have hb := hB.b
  have hl : lv_has ls 5 [(0, .ref r), (1, .int (nI 94))] := hl
  refine lv_iload_n hx hb dX11_applies_0 rfl (lv_at hl 1 rfl) ?_
  refine lv_bipush (v := nI 60) hx hb dX11_applies_1 (by decide) ?_
  refine mn_icmp_ne (tgt := 77) hB dX11_applies_3 (by decide) (by omega) (by omega) (fun h_3 => ?_) (fun h => by exfalso; omega)
  refine lv_iload_n hx hb dX11_applies_77 rfl (lv_at hl 1 rfl) ?_
  refine lv_bipush (v := nI 94) hx hb dX11_applies_78 (by decide) ?_
  refine mn_icmp_ne (tgt := 154) hB dX11_applies_80 (by decide) (by omega) (by omega) (fun h => by exfalso; omega) (fun h_80 => ?_)
  refine lv_iconst (v := nI 0) hx hb dX11_applies_83 (by decide) ?_
  refine lv_istore_n (lv' := [(2, .int (nI 0)), (0, .ref r), (1, .int (nI 94))]) hx hb dX11_applies_84 rfl hl (by decide) rfl (fun ls hl => ?_)
  refine lv_iload_n hx hb dX11_applies_85 rfl (lv_at hl 0 rfl) ?_
  refine lv_aload_n hx hb dX11_applies_86 rfl (lv_at hl 1 rfl) ?_
  refine gf_X11_90 hB hR.o rfl dX11_applies_87 ?_
  refine lv_aload_n hx hb dX11_applies_90 rfl (lv_at hl 1 rfl) ?_
  refine gf_X11_93 hB hR.o rfl dX11_applies_91 ?_
  refine mn_imul hB dX11_applies_94 ?_
  refine mn_icmp_ge (tgt := 140) hB dX11_applies_95 (by decide) (by omega) (by omega) (fun h_95 => ?_) (fun h => by exfalso; omega)
  refine lv_aload_n hx hb dX11_applies_140 rfl (lv_at hl 1 rfl) ?_
  refine lv_aload_n hx hb dX11_applies_141 rfl (lv_at hl 1 rfl) ?_
  refine gf_X11_93 hB hR.o rfl dX11_applies_142 ?_
  refine lv_aload_n hx hb dX11_applies_145 rfl (lv_at hl 1 rfl) ?_
  refine gf_X11_90 hB hR.o rfl dX11_applies_146 ?_
  refine cl_X11_96 (As := [.int (nI 0), .int (nI 0)]) (rest := []) hB (c_X11_fromOther l g H0 r zq zsp zrm zst zsl zsv ztx zln zth zsg zbg zwd zhg zin zop zbe (nI 0) (nI 0) zbk zot zer zen zpo zpi zgr zsh zsn 0 0 hR (by omega)) hR.o rfl hl.1 (Nat.le_of_ble_eq_true rfl) dX11_applies_149 ⟨Nat.le_of_ble_eq_true rfl, Nat.le_of_ble_eq_true rfl⟩ ⟨Nat.le_of_ble_eq_true rfl, Nat.le_of_ble_eq_true rfl⟩ hS (by have hz9 := hS.1; rintro q (h | h) <;> first | exact Or.inr (by omega) | exact h.elim | exact Or.inl h | (simp only [ftA] at h ⊢; omega)) (fun v H1 locs hpo hfr hS => ?_)
  obtain ⟨rfl, hR⟩ := hpo
  generalize H1 = H at hfr hS hR ⊢
  refine W.widen (k := 0) (n := 0) (Nat.le_of_ble_eq_true rfl) (Nat.le_of_ble_eq_true rfl) ?_
  refine lv_iconst (v := nI 1) hx hb dX11_applies_152 (by decide) ?_
  refine mh_top (y := .int (bI true)) (rfl) ?_
  refine mh_zret hB ⟨Nat.le_of_ble_eq_true rfl, Nat.le_of_ble_eq_true rfl⟩ hS dX11_applies_153 (by first | rfl | decide | (split <;> rfl)) ⟨?_, (lowOf zot zbk (0 * 0)), zot, ?_⟩
  · rfl
  · exact hR

def rm_c_X11_isAfter_e : Room := { frames := 3, cells := 0, slots := 0, locals := 66 }
set_option maxRecDepth 100000 in
set_option maxHeartbeats 400000 in
theorem c_X11_isAfter_e (l : Launch) (g : GG) (H0 : Heap) (r : Nat) (zq : Nat → Int32) (zsp : Nat → Int32) (zrm : Nat → Int32) (zst : Int32) (zsl : Nat → Int32) (zsv : Nat → Int32) (ztx : Nat → Int32) (zln : Int32) (zth : Int32) (zsg : Nat → Int32) (zbg : Nat → Int32) (zwd : Nat → Int32) (zhg : Nat → Int32) (zin : Nat → Int32) (zop : Int32) (zbe : Int32) (zwi : Int32) (zhi : Int32) (zbk : Nat → Int32) (zot : Nat → Int32) (zer : Int32) (zen : Int32) (zpo : Nat → Int32) (zpi : Int32) (zgr : Int32) (zsh : Nat → Int32) (zsn : Int32) (f : Nat) (mi0 : Bool) (n0 : Nat) (hR : ModAt g r zq zsp zrm zst zsl zsv ztx zln zth zsg zbg zwd zhg zin zop zbe zwi zhi zbk zot zer zen zpo zpi zgr zsh zsn H0) (hW : WF zq) (hf : f < 3) (hs0 : szF zq f = 0) (hn : n0 < 4) : Ct l yX11_isAfter cX11_isAfter 6 (some .boolean) rm_c_X11_isAfter_e g [.ref r, .int (nI f), .int (nI f), .int (bI mi0), .int (nI n0)] H0 (ftA (fun q => r ≤ q ∧ q < r + 16) H0.size) (fun v H1 => v = some (.int (bI true)) ∧ ∃ (wi2 : Int32), ∃ (hi2 : Int32), ∃ (bk2 : Nat → Int32), ∃ (ot2 : Nat → Int32), ModAt g r zq zsp zrm zst zsl zsv ztx zln zth zsg zbg zwd zhg zin zop zbe wi2 hi2 bk2 ot2 zer zen zpo zpi zgr zsh zsn H1) := by
  refine Ct.of (by decide) (fun _ h => Or.inr h) (Nat.le_of_ble_eq_true rfl) ?_
  intro p e s m below meth c ls hB hin hS hH hl
  have hx := hB.x
  have hb := hB.b
  have hl : lv_has ls 6 [(0, .ref r), (1, .int (nI f)), (2, .int (nI f)), (3, .int (bI mi0)), (4, .int (nI n0))] := hl
  have hF := hW.fr hf
  obtain ⟨hw0, hh0⟩ := sz0 hF hs0
  refine lv_aload_n hx hb dX11_isAfter_0 rfl (lv_at hl 0 rfl) ?_
  refine lv_iload_n hx hb dX11_isAfter_1 rfl (lv_at hl 1 rfl) ?_
  refine cl_X11_190 (As := [.int (nI f)]) (rest := []) hB (c_X11_takes l g H0 r zq zsp zrm zst zsl zsv ztx zln zth zsg zbg zwd zhg zin zop zbe zwi zhi zbk zot zer zen zpo zpi zgr zsh zsn f hR (by omega) (hF)) hR.o rfl hl.1 (Nat.le_of_ble_eq_true rfl) dX11_isAfter_2 ⟨Nat.le_of_ble_eq_true rfl, Nat.le_of_ble_eq_true rfl⟩ ⟨Nat.le_of_ble_eq_true rfl, Nat.le_of_ble_eq_true rfl⟩ hS (by have hz9 := hS.1; rintro q (h | h) <;> first | exact Or.inr (by omega) | exact h.elim | exact Or.inl h | (simp only [ftA] at h ⊢; omega)) (fun v H1 locs hpo hfr hS => ?_)
  obtain ⟨rfl, hR⟩ := hpo
  generalize H1 = H at hfr hS hR ⊢
  refine W.widen (k := 0) (n := 0) (Nat.le_of_ble_eq_true rfl) (Nat.le_of_ble_eq_true rfl) ?_
  rw [hw0, hh0] at hR
  refine lv_iload_n hx hb dX11_isAfter_5 rfl (lv_at hl 3 rfl) ?_
  refine mb_if_eq (tgt := 16) hB dX11_isAfter_6 (by decide) (fun h_6 => ?_) (fun h_6 => ?_)
  · skip
    refine lv_iconst (v := nI 0) hx hb dX11_isAfter_16 (by decide) ?_
    refine lv_istore (lv' := [(5, .int (nI 0)), (0, .ref r), (1, .int (nI f)), (2, .int (nI f)), (3, .int (bI mi0)), (4, .int (nI n0))]) hx hb dX11_isAfter_17 hl (by decide) rfl (fun ls hl => ?_)
    refine mh_loop (σ := Nat × (Nat → Int32) × (Nat → Int32)) (fun xx9 H locs ls => match xx9 with | (k9, bk9, ot9) => k9 ≤ n0 ∧ ModAt g r zq zsp zrm zst zsl zsv ztx zln zth zsg zbg zwd zhg zin zop zbe (nI 0) (nI 0) bk9 ot9 zer zen zpo zpi zgr zsh zsn H ∧ va_S (ftA (fun q => r ≤ q ∧ q < r + 16) H0.size) H0 H locs ∧ lv_has ls 6 [(0, .ref r), (1, .int (nI f)), (2, .int (nI f)), (3, .int (bI mi0)), (4, .int (nI n0)), (5, .int (nI k9))]) (fun xx9 => match xx9 with | (k9, bk9, ot9) => n0 - k9) ?_ (0, (lowOf (fun j9 => nI (clF zq f j9)) zbk (szF zq f)), zot) ⟨(by omega), hR, hS, lv_sub hl [1, 2, 3, 4, 5, 0] rfl⟩
    rintro ⟨k9, bk9, ot9⟩ H locs ls ⟨hk9, hR, hS, hl⟩ ih
    have ih19 := ih
    refine lv_iload hx hb dX11_isAfter_19 (lv_at hl 5 rfl) ?_
    refine lv_iload hx hb dX11_isAfter_21 (lv_at hl 4 rfl) ?_
    refine mn_icmp_ge (tgt := 39) hB dX11_isAfter_23 (by decide) (by omega) (by omega) (fun h_23 => ?_) (fun h_23 => ?_)
    · skip
      refine lv_aload_n hx hb dX11_isAfter_39 rfl (lv_at hl 0 rfl) ?_
      refine lv_iload_n hx hb dX11_isAfter_40 rfl (lv_at hl 2 rfl) ?_
      refine cl_X11_193 (As := [.int (nI f)]) (rest := []) hB (c_X11_isBlock l g H r zq zsp zrm zst zsl zsv ztx zln zth zsg zbg zwd zhg zin zop zbe bk9 ot9 zer zen zpo zpi zgr zsh zsn 0 0 (fun _ => 0) f hR (by omega) (by omega) (fun k hk => by omega) (by omega) (hF)) hR.o rfl hl.1 (Nat.le_of_ble_eq_true rfl) dX11_isAfter_41 ⟨Nat.le_of_ble_eq_true rfl, Nat.le_of_ble_eq_true rfl⟩ ⟨Nat.le_of_ble_eq_true rfl, Nat.le_of_ble_eq_true rfl⟩ hS (by have hz9 := hS.1; rintro q (h | h) <;> first | exact Or.inr (by omega) | exact h.elim | exact Or.inl h | (simp only [ftA] at h ⊢; omega)) (fun v H1 locs hpo hfr hS => ?_)
      obtain ⟨rfl, rfl⟩ := hpo
      refine W.widen (k := 0) (n := 0) (Nat.le_of_ble_eq_true rfl) (Nat.le_of_ble_eq_true rfl) ?_
      refine mh_top (y := .int (bI true)) (by rw [hw0, hh0]; rfl) ?_
      refine mh_zret hB ⟨Nat.le_of_ble_eq_true rfl, Nat.le_of_ble_eq_true rfl⟩ hS dX11_isAfter_44 (by first | rfl | decide | (split <;> rfl)) ⟨?_, (nI 0), (nI 0), bk9, ot9, ?_⟩
      · rfl
      · exact hR
    · skip
      refine lv_aload_n hx hb dX11_isAfter_26 rfl (lv_at hl 0 rfl) ?_
      refine lv_bipush (v := nI 94) hx hb dX11_isAfter_27 (by decide) ?_
      refine cl_X11_110 (As := [.int (nI 94)]) (rest := []) hB (c_X11_applies_z2 l g H r zq zsp zrm zst zsl zsv ztx zln zth zsg zbg zwd zhg zin zop zbe bk9 ot9 zer zen zpo zpi zgr zsh zsn hR) hR.o rfl hl.1 (Nat.le_of_ble_eq_true rfl) dX11_isAfter_29 ⟨Nat.le_of_ble_eq_true rfl, Nat.le_of_ble_eq_true rfl⟩ ⟨Nat.le_of_ble_eq_true rfl, Nat.le_of_ble_eq_true rfl⟩ hS (by have hz9 := hS.1; rintro q (h | h) <;> first | exact Or.inr (by omega) | exact h.elim | exact Or.inl h | (simp only [ftA] at h ⊢; omega)) (fun v H1 locs hpo hfr hS => ?_)
      obtain ⟨rfl, bk2_1, ot2_2, hR⟩ := hpo
      generalize H1 = H at hfr hS hR ⊢
      refine W.widen (k := 0) (n := 0) (Nat.le_of_ble_eq_true rfl) (Nat.le_of_ble_eq_true rfl) ?_
      refine lv_pop hx hb dX11_isAfter_32 rfl ?_
      refine lv_iinc (v := nI (k9 + 1)) (lv' := [(5, .int (nI (k9 + 1))), (0, .ref r), (1, .int (nI f)), (2, .int (nI f)), (3, .int (bI mi0)), (4, .int (nI n0))]) hx hb dX11_isAfter_33 hl (k := 5) rfl (nI_1 _) (by decide) rfl (fun ls hl => ?_)
      refine lv_goto (tgt := 19) hx hb dX11_isAfter_36 (by decide) ?_
      refine ih19 (k9 + 1, bk2_1, ot2_2) _ _ _ ⟨(by omega), hR, hS, lv_sub hl [1, 2, 3, 4, 5, 0] rfl⟩ (by dsimp only; omega)
  · skip
    refine lv_aload_n hx hb dX11_isAfter_9 rfl (lv_at hl 0 rfl) ?_
    refine lv_bipush (v := nI 60) hx hb dX11_isAfter_10 (by decide) ?_
    refine cl_X11_110 (As := [.int (nI 60)]) (rest := []) hB (c_X11_applies_z1 l g H r zq zsp zrm zst zsl zsv ztx zln zth zsg zbg zwd zhg zin zop zbe (lowOf (fun j9 => nI (clF zq f j9)) zbk (szF zq f)) zot zer zen zpo zpi zgr zsh zsn hR) hR.o rfl hl.1 (Nat.le_of_ble_eq_true rfl) dX11_isAfter_12 ⟨Nat.le_of_ble_eq_true rfl, Nat.le_of_ble_eq_true rfl⟩ ⟨Nat.le_of_ble_eq_true rfl, Nat.le_of_ble_eq_true rfl⟩ hS (by have hz9 := hS.1; rintro q (h | h) <;> first | exact Or.inr (by omega) | exact h.elim | exact Or.inl h | (simp only [ftA] at h ⊢; omega)) (fun v H1 locs hpo hfr hS => ?_)
    obtain ⟨rfl, bk2_3, ot2_4, hR⟩ := hpo
    generalize H1 = H at hfr hS hR ⊢
    refine W.widen (k := 0) (n := 0) (Nat.le_of_ble_eq_true rfl) (Nat.le_of_ble_eq_true rfl) ?_
    refine lv_pop hx hb dX11_isAfter_15 rfl ?_
    refine lv_iconst (v := nI 0) hx hb dX11_isAfter_16 (by decide) ?_
    refine lv_istore (lv' := [(5, .int (nI 0)), (0, .ref r), (1, .int (nI f)), (2, .int (nI f)), (3, .int (bI mi0)), (4, .int (nI n0))]) hx hb dX11_isAfter_17 hl (by decide) rfl (fun ls hl => ?_)
    refine mh_loop (σ := Nat × (Nat → Int32) × (Nat → Int32)) (fun xx9 H locs ls => match xx9 with | (k9, bk9, ot9) => k9 ≤ n0 ∧ ModAt g r zq zsp zrm zst zsl zsv ztx zln zth zsg zbg zwd zhg zin zop zbe (nI 0) (nI 0) bk9 ot9 zer zen zpo zpi zgr zsh zsn H ∧ va_S (ftA (fun q => r ≤ q ∧ q < r + 16) H0.size) H0 H locs ∧ lv_has ls 6 [(0, .ref r), (1, .int (nI f)), (2, .int (nI f)), (3, .int (bI mi0)), (4, .int (nI n0)), (5, .int (nI k9))]) (fun xx9 => match xx9 with | (k9, bk9, ot9) => n0 - k9) ?_ (0, bk2_3, ot2_4) ⟨(by omega), hR, hS, lv_sub hl [1, 2, 3, 4, 5, 0] rfl⟩
    rintro ⟨k9, bk9, ot9⟩ H locs ls ⟨hk9, hR, hS, hl⟩ ih
    have ih19 := ih
    refine lv_iload hx hb dX11_isAfter_19 (lv_at hl 5 rfl) ?_
    refine lv_iload hx hb dX11_isAfter_21 (lv_at hl 4 rfl) ?_
    refine mn_icmp_ge (tgt := 39) hB dX11_isAfter_23 (by decide) (by omega) (by omega) (fun h_23 => ?_) (fun h_23 => ?_)
    · skip
      refine lv_aload_n hx hb dX11_isAfter_39 rfl (lv_at hl 0 rfl) ?_
      refine lv_iload_n hx hb dX11_isAfter_40 rfl (lv_at hl 2 rfl) ?_
      refine cl_X11_193 (As := [.int (nI f)]) (rest := []) hB (c_X11_isBlock l g H r zq zsp zrm zst zsl zsv ztx zln zth zsg zbg zwd zhg zin zop zbe bk9 ot9 zer zen zpo zpi zgr zsh zsn 0 0 (fun _ => 0) f hR (by omega) (by omega) (fun k hk => by omega) (by omega) (hF)) hR.o rfl hl.1 (Nat.le_of_ble_eq_true rfl) dX11_isAfter_41 ⟨Nat.le_of_ble_eq_true rfl, Nat.le_of_ble_eq_true rfl⟩ ⟨Nat.le_of_ble_eq_true rfl, Nat.le_of_ble_eq_true rfl⟩ hS (by have hz9 := hS.1; rintro q (h | h) <;> first | exact Or.inr (by omega) | exact h.elim | exact Or.inl h | (simp only [ftA] at h ⊢; omega)) (fun v H1 locs hpo hfr hS => ?_)
      obtain ⟨rfl, rfl⟩ := hpo
      refine W.widen (k := 0) (n := 0) (Nat.le_of_ble_eq_true rfl) (Nat.le_of_ble_eq_true rfl) ?_
      refine mh_top (y := .int (bI true)) (by rw [hw0, hh0]; rfl) ?_
      refine mh_zret hB ⟨Nat.le_of_ble_eq_true rfl, Nat.le_of_ble_eq_true rfl⟩ hS dX11_isAfter_44 (by first | rfl | decide | (split <;> rfl)) ⟨?_, (nI 0), (nI 0), bk9, ot9, ?_⟩
      · rfl
      · exact hR
    · skip
      refine lv_aload_n hx hb dX11_isAfter_26 rfl (lv_at hl 0 rfl) ?_
      refine lv_bipush (v := nI 94) hx hb dX11_isAfter_27 (by decide) ?_
      refine cl_X11_110 (As := [.int (nI 94)]) (rest := []) hB (c_X11_applies_z2 l g H r zq zsp zrm zst zsl zsv ztx zln zth zsg zbg zwd zhg zin zop zbe bk9 ot9 zer zen zpo zpi zgr zsh zsn hR) hR.o rfl hl.1 (Nat.le_of_ble_eq_true rfl) dX11_isAfter_29 ⟨Nat.le_of_ble_eq_true rfl, Nat.le_of_ble_eq_true rfl⟩ ⟨Nat.le_of_ble_eq_true rfl, Nat.le_of_ble_eq_true rfl⟩ hS (by have hz9 := hS.1; rintro q (h | h) <;> first | exact Or.inr (by omega) | exact h.elim | exact Or.inl h | (simp only [ftA] at h ⊢; omega)) (fun v H1 locs hpo hfr hS => ?_)
      obtain ⟨rfl, bk2_5, ot2_6, hR⟩ := hpo
      generalize H1 = H at hfr hS hR ⊢
      refine W.widen (k := 0) (n := 0) (Nat.le_of_ble_eq_true rfl) (Nat.le_of_ble_eq_true rfl) ?_
      refine lv_pop hx hb dX11_isAfter_32 rfl ?_
      refine lv_iinc (v := nI (k9 + 1)) (lv' := [(5, .int (nI (k9 + 1))), (0, .ref r), (1, .int (nI f)), (2, .int (nI f)), (3, .int (bI mi0)), (4, .int (nI n0))]) hx hb dX11_isAfter_33 hl (k := 5) rfl (nI_1 _) (by decide) rfl (fun ls hl => ?_)
      refine lv_goto (tgt := 19) hx hb dX11_isAfter_36 (by decide) ?_
      refine ih19 (k9 + 1, bk2_5, ot2_6) _ _ _ ⟨(by omega), hR, hS, lv_sub hl [1, 2, 3, 4, 5, 0] rfl⟩ (by dsimp only; omega)

def rm_c_X11_same : Room := { frames := 4, cells := 0, slots := 0, locals := 91 }
set_option maxRecDepth 100000 in
set_option maxHeartbeats 400000 in
theorem c_X11_same (l : Launch) (g : GG) (H0 : Heap) (r : Nat) (zq : Nat → Int32) (zsp : Nat → Int32) (zrm : Nat → Int32) (zst : Int32) (zsl : Nat → Int32) (zsv : Nat → Int32) (ztx : Nat → Int32) (zln : Int32) (zth : Int32) (zsg : Nat → Int32) (zbg : Nat → Int32) (zwd : Nat → Int32) (zhg : Nat → Int32) (zin : Nat → Int32) (zop : Int32) (zbe : Int32) (zwi : Int32) (zhi : Int32) (zbk : Nat → Int32) (zot : Nat → Int32) (zer : Int32) (zen : Int32) (zpo : Nat → Int32) (zpi : Int32) (zgr : Int32) (zsh : Nat → Int32) (zsn : Int32) (f : Nat) (w : Nat) (hR : ModAt g r zq zsp zrm zst zsl zsv ztx zln zth zsg zbg zwd zhg zin zop zbe zwi zhi zbk zot zer zen zpo zpi zgr zsh zsn H0) (hW : WF zq) (hf : f < 3) (hw : w < 3) (hs0 : 0 < szF zq f) : Ct l yX11_same cX11_same 3 (some .boolean) rm_c_X11_same g [.ref r, .int (nI f), .int (nI w)] H0 (ftA (fun q => r ≤ q ∧ q < r + 16) H0.size) (fun v H1 => v = some (.int (bI (samB zq f w))) ∧ ∃ (wi2 : Int32), ∃ (hi2 : Int32), ∃ (bk2 : Nat → Int32), ∃ (ot2 : Nat → Int32), ModAt g r zq zsp zrm zst zsl zsv ztx zln (nI 0) zsg zbg zwd zhg zin zop zbe wi2 hi2 bk2 ot2 zer zen zpo zpi zgr zsh zsn H1) := by
  refine Ct.of (by decide) (fun _ h => Or.inr h) (Nat.le_of_ble_eq_true rfl) ?_
  intro p e s m below meth c ls hB hin hS hH hl
  have hx := hB.x
  have hb := hB.b
  have hl : lv_has ls 3 [(0, .ref r), (1, .int (nI f)), (2, .int (nI w))] := hl
  refine lv_aload_n hx hb dX11_same_0 rfl (lv_at hl 0 rfl) ?_
  refine lv_iconst (v := nI 0) hx hb dX11_same_1 (by decide) ?_
  refine pf_X11_56 hB hR.o (by first | exact Or.inl rfl | (simp only [ftA]; omega) | (simp [ftA]; omega)) hS rfl rfl (Nat.le_of_ble_eq_true rfl) dX11_same_2 (fun H locs hwr => ?_)
  obtain ⟨hR, hS⟩ := hR.w_zth hwr
  refine lv_iload_n hx hb dX11_same_5 rfl (lv_at hl 1 rfl) ?_
  refine cl_X11_175 (As := [.int (nI f)]) (rest := []) hB (c_X11_isFrame l g H (nI f)) rfl hl.1 (Nat.le_of_ble_eq_true rfl) dX11_same_6 ⟨Nat.le_of_ble_eq_true rfl, Nat.le_of_ble_eq_true rfl⟩ ⟨Nat.le_of_ble_eq_true rfl, Nat.le_of_ble_eq_true rfl⟩ hS (by have hz9 := hS.1; rintro q (h | h) <;> first | exact Or.inr (by omega) | exact h.elim | exact Or.inl h | (simp only [ftA] at h ⊢; omega)) (fun v H1 locs hpo hfr hS => ?_)
  obtain ⟨rfl, rfl⟩ := hpo
  refine W.widen (k := 0) (n := 0) (Nat.le_of_ble_eq_true rfl) (Nat.le_of_ble_eq_true rfl) ?_
  refine mb_if_ne (tgt := 26) hB dX11_same_9 (by decide) (fun h_9 => ?_) (fun h => by rw [isIx_of hf (by omega)] at h; cases h)
  refine lv_iload_n hx hb dX11_same_26 rfl (lv_at hl 2 rfl) ?_
  refine lv_i2l (v := (nI w).toInt64) hx hb dX11_same_27 rfl ?_
  refine lv_lconst (v := 0) hx hb dX11_same_28 (by decide) ?_
  refine lv_ldc2 (v := (2)) hx hb hB.ow (hB.K.2 _ kw_1164 _) dX11_same_29 ?_
  refine cl_X11_63 (As := [.long ((nI w).toInt64), .long 0, .long (2)]) (rest := []) hB (c_X11_in l g H ((nI w).toInt64) 0 (2)) rfl hl.1 (Nat.le_of_ble_eq_true rfl) dX11_same_32 ⟨Nat.le_of_ble_eq_true rfl, Nat.le_of_ble_eq_true rfl⟩ ⟨Nat.le_of_ble_eq_true rfl, Nat.le_of_ble_eq_true rfl⟩ hS (by have hz9 := hS.1; rintro q (h | h) <;> first | exact Or.inr (by omega) | exact h.elim | exact Or.inl h | (simp only [ftA] at h ⊢; omega)) (fun v H1 locs hpo hfr hS => ?_)
  obtain ⟨rfl, rfl⟩ := hpo
  refine W.widen (k := 0) (n := 0) (Nat.le_of_ble_eq_true rfl) (Nat.le_of_ble_eq_true rfl) ?_
  refine mh_top (y := .int (bI (isIx (nI w) 3))) (by rw [inL_ix _ 3 _ (by decide +kernel)]) ?_
  refine mb_if_ne (tgt := 52) hB dX11_same_35 (by decide) (fun h_35 => ?_) (fun h => by rw [isIx_of hw (by omega)] at h; cases h)
  refine lv_aload_n hx hb dX11_same_52 rfl (lv_at hl 0 rfl) ?_
  refine lv_iload_n hx hb dX11_same_53 rfl (lv_at hl 1 rfl) ?_
  refine lv_iload_n hx hb dX11_same_54 rfl (lv_at hl 1 rfl) ?_
  refine lv_iload_n hx hb dX11_same_55 rfl (lv_at hl 2 rfl) ?_
  refine mn_if_ne (tgt := 63) hB dX11_same_56 (by decide) (by omega) (fun h_56 => ?_) (fun h_56 => ?_)
  · skip
    refine lv_iconst (v := nI 0) hx hb dX11_same_63 (by decide) ?_
    refine mh_top (y := .int (bI false)) (rfl) ?_
    refine lv_iload_n hx hb dX11_same_64 rfl (lv_at hl 2 rfl) ?_
    refine mn_if_ne (tgt := 72) hB dX11_same_65 (by decide) (by omega) (fun h_65 => ?_) (fun h => by exfalso; omega)
    refine lv_iconst (v := nI 3) hx hb dX11_same_72 (by decide) ?_
    refine lv_iload_n hx hb dX11_same_73 rfl (lv_at hl 2 rfl) ?_
    refine mn_isub hB dX11_same_74 (by omega) ?_
    refine cl_X11_196 (As := [.int (nI f), .int (nI f), .int (bI false), .int (nI (3 - w))]) (rest := []) hB (c_X11_isAfter l g H r zq zsp zrm zst zsl zsv ztx zln (nI 0) zsg zbg zwd zhg zin zop zbe zwi zhi zbk zot zer zen zpo zpi zgr zsh zsn f f false (3 - w) hR (by omega) (by omega) (by omega) (by omega) (by omega)) hR.o rfl hl.1 (Nat.le_of_ble_eq_true rfl) dX11_same_75 ⟨Nat.le_of_ble_eq_true rfl, Nat.le_of_ble_eq_true rfl⟩ ⟨Nat.le_of_ble_eq_true rfl, Nat.le_of_ble_eq_true rfl⟩ hS (by have hz9 := hS.1; rintro q (h | h) <;> first | exact Or.inr (by omega) | exact h.elim | exact Or.inl h | (simp only [ftA] at h ⊢; omega)) (fun v H1 locs hpo hfr hS => ?_)
    obtain ⟨rfl, wi2_1, hi2_2, bk2_3, ot2_4, hR⟩ := hpo
    generalize H1 = H at hfr hS hR ⊢
    refine W.widen (k := 0) (n := 0) (Nat.le_of_ble_eq_true rfl) (Nat.le_of_ble_eq_true rfl) ?_
    refine mh_zret hB ⟨Nat.le_of_ble_eq_true rfl, Nat.le_of_ble_eq_true rfl⟩ hS dX11_same_78 (by first | rfl | (cases aftB zq f f true 0 <;> rfl) | (cases aftB zq f f false (3 - w) <;> rfl)) ⟨?_, wi2_1, hi2_2, bk2_3, ot2_4, ?_⟩
    · first | (unfold samB; rw [decide_eq_true (by omega), if_pos (by omega)]) | (unfold samB; rw [decide_eq_false (by omega), if_neg (by omega)])
    · exact hR
  · skip
    refine lv_iconst (v := nI 1) hx hb dX11_same_59 (by decide) ?_
    refine mh_top (y := .int (bI true)) (rfl) ?_
    refine lv_goto (tgt := 64) hx hb dX11_same_60 (by decide) ?_
    refine lv_iload_n hx hb dX11_same_64 rfl (lv_at hl 2 rfl) ?_
    refine mn_if_ne (tgt := 72) hB dX11_same_65 (by decide) (by omega) (fun h => by exfalso; omega) (fun h_65 => ?_)
    refine lv_iconst (v := nI 0) hx hb dX11_same_68 (by decide) ?_
    refine lv_goto (tgt := 75) hx hb dX11_same_69 (by decide) ?_
    refine cl_X11_196 (As := [.int (nI f), .int (nI f), .int (bI true), .int (nI 0)]) (rest := []) hB (c_X11_isAfter l g H r zq zsp zrm zst zsl zsv ztx zln (nI 0) zsg zbg zwd zhg zin zop zbe zwi zhi zbk zot zer zen zpo zpi zgr zsh zsn f f true 0 hR (by omega) (by omega) (by omega) (by omega) (by omega)) hR.o rfl hl.1 (Nat.le_of_ble_eq_true rfl) dX11_same_75 ⟨Nat.le_of_ble_eq_true rfl, Nat.le_of_ble_eq_true rfl⟩ ⟨Nat.le_of_ble_eq_true rfl, Nat.le_of_ble_eq_true rfl⟩ hS (by have hz9 := hS.1; rintro q (h | h) <;> first | exact Or.inr (by omega) | exact h.elim | exact Or.inl h | (simp only [ftA] at h ⊢; omega)) (fun v H1 locs hpo hfr hS => ?_)
    obtain ⟨rfl, wi2_5, hi2_6, bk2_7, ot2_8, hR⟩ := hpo
    generalize H1 = H at hfr hS hR ⊢
    refine W.widen (k := 0) (n := 0) (Nat.le_of_ble_eq_true rfl) (Nat.le_of_ble_eq_true rfl) ?_
    refine mh_zret hB ⟨Nat.le_of_ble_eq_true rfl, Nat.le_of_ble_eq_true rfl⟩ hS dX11_same_78 (by first | rfl | (cases aftB zq f f true 0 <;> rfl) | (cases aftB zq f f false (3 - w) <;> rfl)) ⟨?_, wi2_5, hi2_6, bk2_7, ot2_8, ?_⟩
    · first | (unfold samB; rw [decide_eq_true (by omega), if_pos (by omega)]) | (unfold samB; rw [decide_eq_false (by omega), if_neg (by omega)])
    · exact hR

def rm_c_X11_same_e : Room := { frames := 4, cells := 0, slots := 0, locals := 91 }
set_option maxRecDepth 100000 in
set_option maxHeartbeats 400000 in
theorem c_X11_same_e (l : Launch) (g : GG) (H0 : Heap) (r : Nat) (zq : Nat → Int32) (zsp : Nat → Int32) (zrm : Nat → Int32) (zst : Int32) (zsl : Nat → Int32) (zsv : Nat → Int32) (ztx : Nat → Int32) (zln : Int32) (zth : Int32) (zsg : Nat → Int32) (zbg : Nat → Int32) (zwd : Nat → Int32) (zhg : Nat → Int32) (zin : Nat → Int32) (zop : Int32) (zbe : Int32) (zwi : Int32) (zhi : Int32) (zbk : Nat → Int32) (zot : Nat → Int32) (zer : Int32) (zen : Int32) (zpo : Nat → Int32) (zpi : Int32) (zgr : Int32) (zsh : Nat → Int32) (zsn : Int32) (f : Nat) (w : Nat) (hR : ModAt g r zq zsp zrm zst zsl zsv ztx zln zth zsg zbg zwd zhg zin zop zbe zwi zhi zbk zot zer zen zpo zpi zgr zsh zsn H0) (hW : WF zq) (hf : f < 3) (hw : w < 3) (hs0 : szF zq f = 0) : Ct l yX11_same cX11_same 3 (some .boolean) rm_c_X11_same_e g [.ref r, .int (nI f), .int (nI w)] H0 (ftA (fun q => r ≤ q ∧ q < r + 16) H0.size) (fun v H1 => v = some (.int (bI true)) ∧ ∃ (wi2 : Int32), ∃ (hi2 : Int32), ∃ (bk2 : Nat → Int32), ∃ (ot2 : Nat → Int32), ModAt g r zq zsp zrm zst zsl zsv ztx zln (nI 0) zsg zbg zwd zhg zin zop zbe wi2 hi2 bk2 ot2 zer zen zpo zpi zgr zsh zsn H1) := by
  refine Ct.of (by decide) (fun _ h => Or.inr h) (Nat.le_of_ble_eq_true rfl) ?_
  intro p e s m below meth c ls hB hin hS hH hl
  have hx := hB.x
  have hb := hB.b
  have hl : lv_has ls 3 [(0, .ref r), (1, .int (nI f)), (2, .int (nI w))] := hl
  refine lv_aload_n hx hb dX11_same_0 rfl (lv_at hl 0 rfl) ?_
  refine lv_iconst (v := nI 0) hx hb dX11_same_1 (by decide) ?_
  refine pf_X11_56 hB hR.o (by first | exact Or.inl rfl | (simp only [ftA]; omega) | (simp [ftA]; omega)) hS rfl rfl (Nat.le_of_ble_eq_true rfl) dX11_same_2 (fun H locs hwr => ?_)
  obtain ⟨hR, hS⟩ := hR.w_zth hwr
  refine lv_iload_n hx hb dX11_same_5 rfl (lv_at hl 1 rfl) ?_
  refine cl_X11_175 (As := [.int (nI f)]) (rest := []) hB (c_X11_isFrame l g H (nI f)) rfl hl.1 (Nat.le_of_ble_eq_true rfl) dX11_same_6 ⟨Nat.le_of_ble_eq_true rfl, Nat.le_of_ble_eq_true rfl⟩ ⟨Nat.le_of_ble_eq_true rfl, Nat.le_of_ble_eq_true rfl⟩ hS (by have hz9 := hS.1; rintro q (h | h) <;> first | exact Or.inr (by omega) | exact h.elim | exact Or.inl h | (simp only [ftA] at h ⊢; omega)) (fun v H1 locs hpo hfr hS => ?_)
  obtain ⟨rfl, rfl⟩ := hpo
  refine W.widen (k := 0) (n := 0) (Nat.le_of_ble_eq_true rfl) (Nat.le_of_ble_eq_true rfl) ?_
  refine mb_if_ne (tgt := 26) hB dX11_same_9 (by decide) (fun h_9 => ?_) (fun h => by rw [isIx_of hf (by omega)] at h; cases h)
  refine lv_iload_n hx hb dX11_same_26 rfl (lv_at hl 2 rfl) ?_
  refine lv_i2l (v := (nI w).toInt64) hx hb dX11_same_27 rfl ?_
  refine lv_lconst (v := 0) hx hb dX11_same_28 (by decide) ?_
  refine lv_ldc2 (v := (2)) hx hb hB.ow (hB.K.2 _ kw_1164 _) dX11_same_29 ?_
  refine cl_X11_63 (As := [.long ((nI w).toInt64), .long 0, .long (2)]) (rest := []) hB (c_X11_in l g H ((nI w).toInt64) 0 (2)) rfl hl.1 (Nat.le_of_ble_eq_true rfl) dX11_same_32 ⟨Nat.le_of_ble_eq_true rfl, Nat.le_of_ble_eq_true rfl⟩ ⟨Nat.le_of_ble_eq_true rfl, Nat.le_of_ble_eq_true rfl⟩ hS (by have hz9 := hS.1; rintro q (h | h) <;> first | exact Or.inr (by omega) | exact h.elim | exact Or.inl h | (simp only [ftA] at h ⊢; omega)) (fun v H1 locs hpo hfr hS => ?_)
  obtain ⟨rfl, rfl⟩ := hpo
  refine W.widen (k := 0) (n := 0) (Nat.le_of_ble_eq_true rfl) (Nat.le_of_ble_eq_true rfl) ?_
  refine mh_top (y := .int (bI (isIx (nI w) 3))) (by rw [inL_ix _ 3 _ (by decide +kernel)]) ?_
  refine mb_if_ne (tgt := 52) hB dX11_same_35 (by decide) (fun h_35 => ?_) (fun h => by rw [isIx_of hw (by omega)] at h; cases h)
  refine lv_aload_n hx hb dX11_same_52 rfl (lv_at hl 0 rfl) ?_
  refine lv_iload_n hx hb dX11_same_53 rfl (lv_at hl 1 rfl) ?_
  refine lv_iload_n hx hb dX11_same_54 rfl (lv_at hl 1 rfl) ?_
  refine lv_iload_n hx hb dX11_same_55 rfl (lv_at hl 2 rfl) ?_
  refine mn_if_ne (tgt := 63) hB dX11_same_56 (by decide) (by omega) (fun h_56 => ?_) (fun h_56 => ?_)
  · skip
    refine lv_iconst (v := nI 0) hx hb dX11_same_63 (by decide) ?_
    refine mh_top (y := .int (bI false)) (rfl) ?_
    refine lv_iload_n hx hb dX11_same_64 rfl (lv_at hl 2 rfl) ?_
    refine mn_if_ne (tgt := 72) hB dX11_same_65 (by decide) (by omega) (fun h_65 => ?_) (fun h => by exfalso; omega)
    refine lv_iconst (v := nI 3) hx hb dX11_same_72 (by decide) ?_
    refine lv_iload_n hx hb dX11_same_73 rfl (lv_at hl 2 rfl) ?_
    refine mn_isub hB dX11_same_74 (by omega) ?_
    refine cl_X11_196 (As := [.int (nI f), .int (nI f), .int (bI false), .int (nI (3 - w))]) (rest := []) hB (c_X11_isAfter_e l g H r zq zsp zrm zst zsl zsv ztx zln (nI 0) zsg zbg zwd zhg zin zop zbe zwi zhi zbk zot zer zen zpo zpi zgr zsh zsn f false (3 - w) hR (by omega) (by omega) (by omega) (by omega)) hR.o rfl hl.1 (Nat.le_of_ble_eq_true rfl) dX11_same_75 ⟨Nat.le_of_ble_eq_true rfl, Nat.le_of_ble_eq_true rfl⟩ ⟨Nat.le_of_ble_eq_true rfl, Nat.le_of_ble_eq_true rfl⟩ hS (by have hz9 := hS.1; rintro q (h | h) <;> first | exact Or.inr (by omega) | exact h.elim | exact Or.inl h | (simp only [ftA] at h ⊢; omega)) (fun v H1 locs hpo hfr hS => ?_)
    obtain ⟨rfl, wi2_1, hi2_2, bk2_3, ot2_4, hR⟩ := hpo
    generalize H1 = H at hfr hS hR ⊢
    refine W.widen (k := 0) (n := 0) (Nat.le_of_ble_eq_true rfl) (Nat.le_of_ble_eq_true rfl) ?_
    refine mh_zret hB ⟨Nat.le_of_ble_eq_true rfl, Nat.le_of_ble_eq_true rfl⟩ hS dX11_same_78 (by first | rfl | (cases aftB zq f f true 0 <;> rfl) | (cases aftB zq f f false (3 - w) <;> rfl)) ⟨?_, wi2_1, hi2_2, bk2_3, ot2_4, ?_⟩
    · rfl
    · exact hR
  · skip
    refine lv_iconst (v := nI 1) hx hb dX11_same_59 (by decide) ?_
    refine mh_top (y := .int (bI true)) (rfl) ?_
    refine lv_goto (tgt := 64) hx hb dX11_same_60 (by decide) ?_
    refine lv_iload_n hx hb dX11_same_64 rfl (lv_at hl 2 rfl) ?_
    refine mn_if_ne (tgt := 72) hB dX11_same_65 (by decide) (by omega) (fun h => by exfalso; omega) (fun h_65 => ?_)
    refine lv_iconst (v := nI 0) hx hb dX11_same_68 (by decide) ?_
    refine lv_goto (tgt := 75) hx hb dX11_same_69 (by decide) ?_
    refine cl_X11_196 (As := [.int (nI f), .int (nI f), .int (bI true), .int (nI 0)]) (rest := []) hB (c_X11_isAfter_e l g H r zq zsp zrm zst zsl zsv ztx zln (nI 0) zsg zbg zwd zhg zin zop zbe zwi zhi zbk zot zer zen zpo zpi zgr zsh zsn f true 0 hR (by omega) (by omega) (by omega) (by omega)) hR.o rfl hl.1 (Nat.le_of_ble_eq_true rfl) dX11_same_75 ⟨Nat.le_of_ble_eq_true rfl, Nat.le_of_ble_eq_true rfl⟩ ⟨Nat.le_of_ble_eq_true rfl, Nat.le_of_ble_eq_true rfl⟩ hS (by have hz9 := hS.1; rintro q (h | h) <;> first | exact Or.inr (by omega) | exact h.elim | exact Or.inl h | (simp only [ftA] at h ⊢; omega)) (fun v H1 locs hpo hfr hS => ?_)
    obtain ⟨rfl, wi2_5, hi2_6, bk2_7, ot2_8, hR⟩ := hpo
    generalize H1 = H at hfr hS hR ⊢
    refine W.widen (k := 0) (n := 0) (Nat.le_of_ble_eq_true rfl) (Nat.le_of_ble_eq_true rfl) ?_
    refine mh_zret hB ⟨Nat.le_of_ble_eq_true rfl, Nat.le_of_ble_eq_true rfl⟩ hS dX11_same_78 (by first | rfl | (cases aftB zq f f true 0 <;> rfl) | (cases aftB zq f f false (3 - w) <;> rfl)) ⟨?_, wi2_5, hi2_6, bk2_7, ot2_8, ?_⟩
    · rfl
    · exact hR

def rm_c_X11_same_t1 : Room := { frames := 2, cells := 0, slots := 0, locals := 45 }
set_option maxRecDepth 100000 in
set_option maxHeartbeats 400000 in
theorem c_X11_same_t1 (l : Launch) (g : GG) (H0 : Heap) (r : Nat) (zq : Nat → Int32) (zsp : Nat → Int32) (zrm : Nat → Int32) (zst : Int32) (zsl : Nat → Int32) (zsv : Nat → Int32) (ztx : Nat → Int32) (zln : Int32) (zth : Int32) (zsg : Nat → Int32) (zbg : Nat → Int32) (zwd : Nat → Int32) (zhg : Nat → Int32) (zin : Nat → Int32) (zop : Int32) (zbe : Int32) (zwi : Int32) (zhi : Int32) (zbk : Nat → Int32) (zot : Nat → Int32) (zer : Int32) (zen : Int32) (zpo : Nat → Int32) (zpi : Int32) (zgr : Int32) (zsh : Nat → Int32) (zsn : Int32) (x : Int32) (y : Int32) (hR : ModAt g r zq zsp zrm zst zsl zsv ztx zln zth zsg zbg zwd zhg zin zop zbe zwi zhi zbk zot zer zen zpo zpi zgr zsh zsn H0) (hx1 : isIx x 3 = false) : Ct l yX11_same cX11_same 3 (some .boolean) rm_c_X11_same_t1 g [.ref r, .int x, .int y] H0 (ftA (fun q => r ≤ q ∧ q < r + 16) H0.size) (fun v H1 => v = some (.int (bI false)) ∧ ModAt g r zq zsp zrm zst zsl zsv ztx zln (nI 1) zsg zbg zwd zhg zin zop zbe zwi zhi zbk zot zer zen zpo zpi zgr zsh zsn H1) := by
  refine Ct.of (by decide) (fun _ h => Or.inr h) (Nat.le_of_ble_eq_true rfl) ?_
  intro p e s m below meth c ls hB hin hS hH hl
  have hx := hB.x
  have hb := hB.b
  have hl : lv_has ls 3 [(0, .ref r), (1, .int x), (2, .int y)] := hl
  refine lv_aload_n hx hb dX11_same_0 rfl (lv_at hl 0 rfl) ?_
  refine lv_iconst (v := nI 0) hx hb dX11_same_1 (by decide) ?_
  refine pf_X11_56 hB hR.o (by first | exact Or.inl rfl | (simp only [ftA]; omega) | (simp [ftA]; omega)) hS rfl rfl (Nat.le_of_ble_eq_true rfl) dX11_same_2 (fun H locs hwr => ?_)
  obtain ⟨hR, hS⟩ := hR.w_zth hwr
  refine lv_iload_n hx hb dX11_same_5 rfl (lv_at hl 1 rfl) ?_
  refine cl_X11_175 (As := [.int x]) (rest := []) hB (c_X11_isFrame l g H x) rfl hl.1 (Nat.le_of_ble_eq_true rfl) dX11_same_6 ⟨Nat.le_of_ble_eq_true rfl, Nat.le_of_ble_eq_true rfl⟩ ⟨Nat.le_of_ble_eq_true rfl, Nat.le_of_ble_eq_true rfl⟩ hS (by have hz9 := hS.1; rintro q (h | h) <;> first | exact Or.inr (by omega) | exact h.elim | exact Or.inl h | (simp only [ftA] at h ⊢; omega)) (fun v H1 locs hpo hfr hS => ?_)
  obtain ⟨rfl, rfl⟩ := hpo
  refine W.widen (k := 0) (n := 0) (Nat.le_of_ble_eq_true rfl) (Nat.le_of_ble_eq_true rfl) ?_
  refine mb_if_ne (tgt := 26) hB dX11_same_9 (by decide) (fun h => by rw [hx1] at h; cases h) (fun h_9 => ?_)
  refine lv_aload_n hx hb dX11_same_12 rfl (lv_at hl 0 rfl) ?_
  refine lv_iconst (v := nI 1) hx hb dX11_same_13 (by decide) ?_
  refine cl_X11_81 (As := [.int (nI 1)]) (rest := []) hB (c_X11_fails l g H r zq zsp zrm zst zsl zsv ztx zln (nI 0) zsg zbg zwd zhg zin zop zbe zwi zhi zbk zot zer zen zpo zpi zgr zsh zsn (nI 1) hR) hR.o rfl hl.1 (Nat.le_of_ble_eq_true rfl) dX11_same_14 ⟨Nat.le_of_ble_eq_true rfl, Nat.le_of_ble_eq_true rfl⟩ ⟨Nat.le_of_ble_eq_true rfl, Nat.le_of_ble_eq_true rfl⟩ hS (by have hz9 := hS.1; rintro q (h | h) <;> first | exact Or.inr (by omega) | exact h.elim | exact Or.inl h | (simp only [ftA] at h ⊢; omega)) (fun v H1 locs hpo hfr hS => ?_)
  obtain ⟨rfl, hR⟩ := hpo
  generalize H1 = H at hfr hS hR ⊢
  refine W.widen (k := 0) (n := 0) (Nat.le_of_ble_eq_true rfl) (Nat.le_of_ble_eq_true rfl) ?_
  refine mn_if_le (tgt := 24) hB dX11_same_17 (by decide) (by omega) (fun h_17 => ?_) (fun h => by exfalso; omega)
  refine lv_iconst (v := nI 0) hx hb dX11_same_24 (by decide) ?_
  refine mh_top (y := .int (bI false)) (rfl) ?_
  refine mh_zret hB ⟨Nat.le_of_ble_eq_true rfl, Nat.le_of_ble_eq_true rfl⟩ hS dX11_same_25 (by first | rfl | decide | (split <;> rfl)) ⟨?_, ?_⟩
  · rfl
  · exact hR

def rm_c_X11_same_t2 : Room := { frames := 2, cells := 0, slots := 0, locals := 45 }
set_option maxRecDepth 100000 in
set_option maxHeartbeats 400000 in
theorem c_X11_same_t2 (l : Launch) (g : GG) (H0 : Heap) (r : Nat) (zq : Nat → Int32) (zsp : Nat → Int32) (zrm : Nat → Int32) (zst : Int32) (zsl : Nat → Int32) (zsv : Nat → Int32) (ztx : Nat → Int32) (zln : Int32) (zth : Int32) (zsg : Nat → Int32) (zbg : Nat → Int32) (zwd : Nat → Int32) (zhg : Nat → Int32) (zin : Nat → Int32) (zop : Int32) (zbe : Int32) (zwi : Int32) (zhi : Int32) (zbk : Nat → Int32) (zot : Nat → Int32) (zer : Int32) (zen : Int32) (zpo : Nat → Int32) (zpi : Int32) (zgr : Int32) (zsh : Nat → Int32) (zsn : Int32) (f : Nat) (y : Int32) (hR : ModAt g r zq zsp zrm zst zsl zsv ztx zln zth zsg zbg zwd zhg zin zop zbe zwi zhi zbk zot zer zen zpo zpi zgr zsh zsn H0) (hf : f < 3) (hx1 : isIx y 3 = false) : Ct l yX11_same cX11_same 3 (some .boolean) rm_c_X11_same_t2 g [.ref r, .int (nI f), .int y] H0 (ftA (fun q => r ≤ q ∧ q < r + 16) H0.size) (fun v H1 => v = some (.int (bI false)) ∧ ModAt g r zq zsp zrm zst zsl zsv ztx zln (nI 2) zsg zbg zwd zhg zin zop zbe zwi zhi zbk zot zer zen zpo zpi zgr zsh zsn H1) := by
  refine Ct.of (by decide) (fun _ h => Or.inr h) (Nat.le_of_ble_eq_true rfl) ?_
  intro p e s m below meth c ls hB hin hS hH hl
  have hx := hB.x
  have hb := hB.b
  have hl : lv_has ls 3 [(0, .ref r), (1, .int (nI f)), (2, .int y)] := hl
  refine lv_aload_n hx hb dX11_same_0 rfl (lv_at hl 0 rfl) ?_
  refine lv_iconst (v := nI 0) hx hb dX11_same_1 (by decide) ?_
  refine pf_X11_56 hB hR.o (by first | exact Or.inl rfl | (simp only [ftA]; omega) | (simp [ftA]; omega)) hS rfl rfl (Nat.le_of_ble_eq_true rfl) dX11_same_2 (fun H locs hwr => ?_)
  obtain ⟨hR, hS⟩ := hR.w_zth hwr
  refine lv_iload_n hx hb dX11_same_5 rfl (lv_at hl 1 rfl) ?_
  refine cl_X11_175 (As := [.int (nI f)]) (rest := []) hB (c_X11_isFrame l g H (nI f)) rfl hl.1 (Nat.le_of_ble_eq_true rfl) dX11_same_6 ⟨Nat.le_of_ble_eq_true rfl, Nat.le_of_ble_eq_true rfl⟩ ⟨Nat.le_of_ble_eq_true rfl, Nat.le_of_ble_eq_true rfl⟩ hS (by have hz9 := hS.1; rintro q (h | h) <;> first | exact Or.inr (by omega) | exact h.elim | exact Or.inl h | (simp only [ftA] at h ⊢; omega)) (fun v H1 locs hpo hfr hS => ?_)
  obtain ⟨rfl, rfl⟩ := hpo
  refine W.widen (k := 0) (n := 0) (Nat.le_of_ble_eq_true rfl) (Nat.le_of_ble_eq_true rfl) ?_
  refine mb_if_ne (tgt := 26) hB dX11_same_9 (by decide) (fun h_9 => ?_) (fun h => by rw [isIx_of hf (by omega)] at h; cases h)
  refine lv_iload_n hx hb dX11_same_26 rfl (lv_at hl 2 rfl) ?_
  refine lv_i2l (v := (y).toInt64) hx hb dX11_same_27 rfl ?_
  refine lv_lconst (v := 0) hx hb dX11_same_28 (by decide) ?_
  refine lv_ldc2 (v := (2)) hx hb hB.ow (hB.K.2 _ kw_1164 _) dX11_same_29 ?_
  refine cl_X11_63 (As := [.long ((y).toInt64), .long 0, .long (2)]) (rest := []) hB (c_X11_in l g H ((y).toInt64) 0 (2)) rfl hl.1 (Nat.le_of_ble_eq_true rfl) dX11_same_32 ⟨Nat.le_of_ble_eq_true rfl, Nat.le_of_ble_eq_true rfl⟩ ⟨Nat.le_of_ble_eq_true rfl, Nat.le_of_ble_eq_true rfl⟩ hS (by have hz9 := hS.1; rintro q (h | h) <;> first | exact Or.inr (by omega) | exact h.elim | exact Or.inl h | (simp only [ftA] at h ⊢; omega)) (fun v H1 locs hpo hfr hS => ?_)
  obtain ⟨rfl, rfl⟩ := hpo
  refine W.widen (k := 0) (n := 0) (Nat.le_of_ble_eq_true rfl) (Nat.le_of_ble_eq_true rfl) ?_
  refine mh_top (y := .int (bI (isIx y 3))) (by rw [inL_ix _ 3 _ (by decide +kernel)]) ?_
  refine mb_if_ne (tgt := 52) hB dX11_same_35 (by decide) (fun h => by rw [hx1] at h; cases h) (fun h_35 => ?_)
  refine lv_aload_n hx hb dX11_same_38 rfl (lv_at hl 0 rfl) ?_
  refine lv_iconst (v := nI 2) hx hb dX11_same_39 (by decide) ?_
  refine cl_X11_81 (As := [.int (nI 2)]) (rest := []) hB (c_X11_fails l g H r zq zsp zrm zst zsl zsv ztx zln (nI 0) zsg zbg zwd zhg zin zop zbe zwi zhi zbk zot zer zen zpo zpi zgr zsh zsn (nI 2) hR) hR.o rfl hl.1 (Nat.le_of_ble_eq_true rfl) dX11_same_40 ⟨Nat.le_of_ble_eq_true rfl, Nat.le_of_ble_eq_true rfl⟩ ⟨Nat.le_of_ble_eq_true rfl, Nat.le_of_ble_eq_true rfl⟩ hS (by have hz9 := hS.1; rintro q (h | h) <;> first | exact Or.inr (by omega) | exact h.elim | exact Or.inl h | (simp only [ftA] at h ⊢; omega)) (fun v H1 locs hpo hfr hS => ?_)
  obtain ⟨rfl, hR⟩ := hpo
  generalize H1 = H at hfr hS hR ⊢
  refine W.widen (k := 0) (n := 0) (Nat.le_of_ble_eq_true rfl) (Nat.le_of_ble_eq_true rfl) ?_
  refine mn_if_le (tgt := 50) hB dX11_same_43 (by decide) (by omega) (fun h_43 => ?_) (fun h => by exfalso; omega)
  refine lv_iconst (v := nI 0) hx hb dX11_same_50 (by decide) ?_
  refine mh_top (y := .int (bI false)) (rfl) ?_
  refine mh_zret hB ⟨Nat.le_of_ble_eq_true rfl, Nat.le_of_ble_eq_true rfl⟩ hS dX11_same_51 (by first | rfl | decide | (split <;> rfl)) ⟨?_, ?_⟩
  · rfl
  · exact hR

def rm_c_X11_becomes : Room := { frames := 4, cells := 0, slots := 0, locals := 91 }
set_option maxRecDepth 100000 in
set_option maxHeartbeats 400000 in
theorem c_X11_becomes (l : Launch) (g : GG) (H0 : Heap) (r : Nat) (zq : Nat → Int32) (zsp : Nat → Int32) (zrm : Nat → Int32) (zst : Int32) (zsl : Nat → Int32) (zsv : Nat → Int32) (ztx : Nat → Int32) (zln : Int32) (zth : Int32) (zsg : Nat → Int32) (zbg : Nat → Int32) (zwd : Nat → Int32) (zhg : Nat → Int32) (zin : Nat → Int32) (zop : Int32) (zbe : Int32) (zwi : Int32) (zhi : Int32) (zbk : Nat → Int32) (zot : Nat → Int32) (zer : Int32) (zen : Int32) (zpo : Nat → Int32) (zpi : Int32) (zgr : Int32) (zsh : Nat → Int32) (zsn : Int32) (f : Nat) (g0 : Nat) (hR : ModAt g r zq zsp zrm zst zsl zsv ztx zln zth zsg zbg zwd zhg zin zop zbe zwi zhi zbk zot zer zen zpo zpi zgr zsh zsn H0) (hW : WF zq) (hf : f < 3) (hg : g0 < 3) : Ct l yX11_becomes cX11_becomes 4 (some .int) rm_c_X11_becomes g [.ref r, .int (nI f), .int (nI g0)] H0 (ftA (fun q => r ≤ q ∧ q < r + 16) H0.size) (fun v H1 => v = some (.int (becV zq f g0)) ∧ ∃ (wi2 : Int32), ∃ (hi2 : Int32), ∃ (bk2 : Nat → Int32), ∃ (ot2 : Nat → Int32), ModAt g r zq zsp zrm zst zsl zsv ztx zln (nI 0) zsg zbg zwd zhg zin zop zbe wi2 hi2 bk2 ot2 zer zen zpo zpi zgr zsh zsn H1) := by
  refine Ct.of (by decide) (fun _ h => Or.inr h) (Nat.le_of_ble_eq_true rfl) ?_
  intro p e s m below meth c ls hB hin hS hH hl
  have hx := hB.x
  have hb := hB.b
  have hl : lv_has ls 4 [(0, .ref r), (1, .int (nI f)), (2, .int (nI g0))] := hl
  refine lv_aload_n hx hb dX11_becomes_0 rfl (lv_at hl 0 rfl) ?_
  refine lv_iconst (v := nI 0) hx hb dX11_becomes_1 (by decide) ?_
  refine pf_X11_56 hB hR.o (by first | exact Or.inl rfl | (simp only [ftA]; omega) | (simp [ftA]; omega)) hS rfl rfl (Nat.le_of_ble_eq_true rfl) dX11_becomes_2 (fun H locs hwr => ?_)
  obtain ⟨hR, hS⟩ := hR.w_zth hwr
  refine lv_iload_n hx hb dX11_becomes_5 rfl (lv_at hl 1 rfl) ?_
  refine cl_X11_175 (As := [.int (nI f)]) (rest := []) hB (c_X11_isFrame l g H (nI f)) rfl hl.1 (Nat.le_of_ble_eq_true rfl) dX11_becomes_6 ⟨Nat.le_of_ble_eq_true rfl, Nat.le_of_ble_eq_true rfl⟩ ⟨Nat.le_of_ble_eq_true rfl, Nat.le_of_ble_eq_true rfl⟩ hS (by have hz9 := hS.1; rintro q (h | h) <;> first | exact Or.inr (by omega) | exact h.elim | exact Or.inl h | (simp only [ftA] at h ⊢; omega)) (fun v H1 locs hpo hfr hS => ?_)
  obtain ⟨rfl, rfl⟩ := hpo
  refine W.widen (k := 0) (n := 0) (Nat.le_of_ble_eq_true rfl) (Nat.le_of_ble_eq_true rfl) ?_
  refine mb_if_eq (tgt := 19) hB dX11_becomes_9 (by decide) (fun h => by rw [isIx_of hf (by omega)] at h; cases h) (fun h_9 => ?_)
  refine lv_iload_n hx hb dX11_becomes_12 rfl (lv_at hl 2 rfl) ?_
  refine cl_X11_175 (As := [.int (nI g0)]) (rest := []) hB (c_X11_isFrame l g H (nI g0)) rfl hl.1 (Nat.le_of_ble_eq_true rfl) dX11_becomes_13 ⟨Nat.le_of_ble_eq_true rfl, Nat.le_of_ble_eq_true rfl⟩ ⟨Nat.le_of_ble_eq_true rfl, Nat.le_of_ble_eq_true rfl⟩ hS (by have hz9 := hS.1; rintro q (h | h) <;> first | exact Or.inr (by omega) | exact h.elim | exact Or.inl h | (simp only [ftA] at h ⊢; omega)) (fun v H1 locs hpo hfr hS => ?_)
  obtain ⟨rfl, rfl⟩ := hpo
  refine W.widen (k := 0) (n := 0) (Nat.le_of_ble_eq_true rfl) (Nat.le_of_ble_eq_true rfl) ?_
  refine mb_if_ne (tgt := 25) hB dX11_becomes_16 (by decide) (fun h_16 => ?_) (fun h => by rw [isIx_of hg (by omega)] at h; cases h)
  refine lv_iconst (v := nI 0) hx hb dX11_becomes_25 (by decide) ?_
  refine lv_istore_n (lv' := [(3, .int (nI 0)), (0, .ref r), (1, .int (nI f)), (2, .int (nI g0))]) hx hb dX11_becomes_26 rfl hl (by decide) rfl (fun ls hl => ?_)
  refine mh_loop (σ := Nat × Int32 × Int32 × (Nat → Int32) × (Nat → Int32)) (fun xx9 H locs ls => match xx9 with | (k9, wi9, hi9, bk9, ot9) => k9 ≤ 8 ∧ (0 < szF zq f → 0 < szF zq g0 → becG zq f g0 (8 - k9) = becG zq f g0 8) ∧ ModAt g r zq zsp zrm zst zsl zsv ztx zln (nI 0) zsg zbg zwd zhg zin zop zbe wi9 hi9 bk9 ot9 zer zen zpo zpi zgr zsh zsn H ∧ va_S (ftA (fun q => r ≤ q ∧ q < r + 16) H0.size) H0 H locs ∧ lv_has ls 4 [(0, .ref r), (1, .int (nI f)), (2, .int (nI g0)), (3, .int (nI k9))]) (fun xx9 => match xx9 with | (k9, wi9, hi9, bk9, ot9) => 8 - k9) ?_ (0, zwi, zhi, zbk, zot) ⟨(by omega), (fun _ _ => rfl), hR, hS, lv_sub hl [1, 2, 3, 0] rfl⟩
  rintro ⟨k9, wi9, hi9, bk9, ot9⟩ H locs ls ⟨hk9, hbe, hR, hS, hl⟩ ih
  have ih27 := ih
  refine lv_iload_n hx hb dX11_becomes_27 rfl (lv_at hl 3 rfl) ?_
  refine lv_bipush (v := nI 8) hx hb dX11_becomes_28 (by decide) ?_
  refine mn_icmp_ge (tgt := 79) hB dX11_becomes_30 (by decide) (by omega) (by omega) (fun h_28 => ?_) (fun h_28 => ?_)
  · skip
    refine lv_bipush (v := (-9)) hx hb dX11_becomes_79 (by decide) ?_
    refine mh_iret hB ⟨Nat.le_of_ble_eq_true rfl, Nat.le_of_ble_eq_true rfl⟩ hS dX11_becomes_81 ⟨?_, wi9, hi9, bk9, ot9, ?_⟩
    · unfold becV
      by_cases z9 : 0 < szF zq f ∧ 0 < szF zq g0
      · have z8 : 8 - k9 = 0 := by omega
        rw [if_pos z9, ← hbe z9.1 z9.2, z8]
        rfl
      · rw [if_neg z9]
    · exact hR
  · skip
    refine lv_aload_n hx hb dX11_becomes_33 rfl (lv_at hl 0 rfl) ?_
    refine lv_iload_n hx hb dX11_becomes_34 rfl (lv_at hl 1 rfl) ?_
    refine cl_X11_75 (As := [.int (nI f)]) (rest := []) hB (c_X11_patches l g H r zq zsp zrm zst zsl zsv ztx zln (nI 0) zsg zbg zwd zhg zin zop zbe wi9 hi9 bk9 ot9 zer zen zpo zpi zgr zsh zsn f hR (by omega) (hW.fr hf)) hR.o rfl hl.1 (Nat.le_of_ble_eq_true rfl) dX11_becomes_35 ⟨Nat.le_of_ble_eq_true rfl, Nat.le_of_ble_eq_true rfl⟩ ⟨Nat.le_of_ble_eq_true rfl, Nat.le_of_ble_eq_true rfl⟩ hS (by have hz9 := hS.1; rintro q (h | h) <;> first | exact Or.inr (by omega) | exact h.elim | exact Or.inl h | (simp only [ftA] at h ⊢; omega)) (fun v H1 locs hpo hfr hS => ?_)
    obtain ⟨rfl, rfl⟩ := hpo
    refine W.widen (k := 0) (n := 0) (Nat.le_of_ble_eq_true rfl) (Nat.le_of_ble_eq_true rfl) ?_
    refine mn_if_le (tgt := 79) hB dX11_becomes_38 (by decide) (by have := WF.sz (hW.fr hf); omega) (fun h_38 => ?_) (fun h_38 => ?_)
    · skip
      refine lv_bipush (v := (-9)) hx hb dX11_becomes_79 (by decide) ?_
      refine mh_iret hB ⟨Nat.le_of_ble_eq_true rfl, Nat.le_of_ble_eq_true rfl⟩ hS dX11_becomes_81 ⟨?_, wi9, hi9, bk9, ot9, ?_⟩
      · unfold becV
        by_cases z9 : 0 < szF zq f ∧ 0 < szF zq g0
        · have z8 : 8 - k9 = 0 := by omega
          rw [if_pos z9, ← hbe z9.1 z9.2, z8]
          rfl
        · rw [if_neg z9]
      · exact hR
    · skip
      refine lv_aload_n hx hb dX11_becomes_41 rfl (lv_at hl 0 rfl) ?_
      refine lv_iload_n hx hb dX11_becomes_42 rfl (lv_at hl 2 rfl) ?_
      refine cl_X11_75 (As := [.int (nI g0)]) (rest := []) hB (c_X11_patches l g H r zq zsp zrm zst zsl zsv ztx zln (nI 0) zsg zbg zwd zhg zin zop zbe wi9 hi9 bk9 ot9 zer zen zpo zpi zgr zsh zsn g0 hR (by omega) (hW.fr hg)) hR.o rfl hl.1 (Nat.le_of_ble_eq_true rfl) dX11_becomes_43 ⟨Nat.le_of_ble_eq_true rfl, Nat.le_of_ble_eq_true rfl⟩ ⟨Nat.le_of_ble_eq_true rfl, Nat.le_of_ble_eq_true rfl⟩ hS (by have hz9 := hS.1; rintro q (h | h) <;> first | exact Or.inr (by omega) | exact h.elim | exact Or.inl h | (simp only [ftA] at h ⊢; omega)) (fun v H1 locs hpo hfr hS => ?_)
      obtain ⟨rfl, rfl⟩ := hpo
      refine W.widen (k := 0) (n := 0) (Nat.le_of_ble_eq_true rfl) (Nat.le_of_ble_eq_true rfl) ?_
      refine mn_if_le (tgt := 79) hB dX11_becomes_46 (by decide) (by have := WF.sz (hW.fr hg); omega) (fun h_46 => ?_) (fun h_46 => ?_)
      · skip
        refine lv_bipush (v := (-9)) hx hb dX11_becomes_79 (by decide) ?_
        refine mh_iret hB ⟨Nat.le_of_ble_eq_true rfl, Nat.le_of_ble_eq_true rfl⟩ hS dX11_becomes_81 ⟨?_, wi9, hi9, bk9, ot9, ?_⟩
        · unfold becV
          by_cases z9 : 0 < szF zq f ∧ 0 < szF zq g0
          · have z8 : 8 - k9 = 0 := by omega
            rw [if_pos z9, ← hbe z9.1 z9.2, z8]
            rfl
          · rw [if_neg z9]
        · exact hR
      · skip
        refine lv_aload_n hx hb dX11_becomes_49 rfl (lv_at hl 0 rfl) ?_
        refine lv_iload_n hx hb dX11_becomes_50 rfl (lv_at hl 1 rfl) ?_
        refine lv_iload_n hx hb dX11_becomes_51 rfl (lv_at hl 2 rfl) ?_
        refine lv_iload_n hx hb dX11_becomes_52 rfl (lv_at hl 3 rfl) ?_
        refine lv_iconst (v := nI 3) hx hb dX11_becomes_53 (by decide) ?_
        refine mn_icmp_le (tgt := 61) hB dX11_becomes_54 (by decide) (by omega) (by omega) (fun h_54 => ?_) (fun h_54 => ?_)
        · skip
          refine lv_iconst (v := nI 0) hx hb dX11_becomes_61 (by decide) ?_
          refine mh_top (y := .int (bI false)) (rfl) ?_
          refine lv_iload_n hx hb dX11_becomes_62 rfl (lv_at hl 3 rfl) ?_
          refine lv_iconst (v := nI 4) hx hb dX11_becomes_63 (by decide) ?_
          refine mn_irem hB dX11_becomes_64 (by omega) (by omega) (by omega) ?_
          refine cl_X11_196 (As := [.int (nI f), .int (nI g0), .int (bI false), .int (nI (k9 % 4))]) (rest := []) hB (c_X11_isAfter l g H r zq zsp zrm zst zsl zsv ztx zln (nI 0) zsg zbg zwd zhg zin zop zbe wi9 hi9 bk9 ot9 zer zen zpo zpi zgr zsh zsn f g0 false (k9 % 4) hR (by omega) (by omega) (by omega) (by omega) (by omega)) hR.o rfl hl.1 (Nat.le_of_ble_eq_true rfl) dX11_becomes_65 ⟨Nat.le_of_ble_eq_true rfl, Nat.le_of_ble_eq_true rfl⟩ ⟨Nat.le_of_ble_eq_true rfl, Nat.le_of_ble_eq_true rfl⟩ hS (by have hz9 := hS.1; rintro q (h | h) <;> first | exact Or.inr (by omega) | exact h.elim | exact Or.inl h | (simp only [ftA] at h ⊢; omega)) (fun v H1 locs hpo hfr hS => ?_)
          obtain ⟨rfl, wi2_1, hi2_2, bk2_3, ot2_4, hR⟩ := hpo
          generalize H1 = H at hfr hS hR ⊢
          refine W.widen (k := 0) (n := 0) (Nat.le_of_ble_eq_true rfl) (Nat.le_of_ble_eq_true rfl) ?_
          refine mb_if_eq (tgt := 73) hB dX11_becomes_68 (by decide) (fun h_68 => ?_) (fun h_68 => ?_)
          · skip
            refine lv_iinc (v := nI (k9 + 1)) (lv' := [(3, .int (nI (k9 + 1))), (0, .ref r), (1, .int (nI f)), (2, .int (nI g0))]) hx hb dX11_becomes_73 hl (k := 3) rfl (nI_1 _) (by decide) rfl (fun ls hl => ?_)
            refine lv_goto (tgt := 27) hx hb dX11_becomes_76 (by decide) ?_
            refine ih27 (k9 + 1, wi2_1, hi2_2, bk2_3, ot2_4) _ _ _ ⟨(by omega), (fun z8 z9 => (becG_f h_28 (by first | (rw [decide_eq_true h_54]; exact h_68) | (rw [decide_eq_false (Nat.not_lt.mpr h_54)]; exact h_68))).symm.trans (hbe z8 z9)), hR, hS, lv_sub hl [1, 2, 3, 0] rfl⟩ (by dsimp only; omega)
          · skip
            refine lv_iload_n hx hb dX11_becomes_71 rfl (lv_at hl 3 rfl) ?_
            refine mh_iret hB ⟨Nat.le_of_ble_eq_true rfl, Nat.le_of_ble_eq_true rfl⟩ hS dX11_becomes_72 ⟨?_, wi2_1, hi2_2, bk2_3, ot2_4, ?_⟩
            · unfold becV
              rw [if_pos ⟨h_38, h_46⟩, ← hbe h_38 h_46]
              first | (rw [becG_t h_28 (by rw [decide_eq_true h_54]; exact h_68)]) | (rw [becG_t h_28 (by rw [decide_eq_false (Nat.not_lt.mpr h_54)]; exact h_68)])
            · exact hR
        · skip
          refine lv_iconst (v := nI 1) hx hb dX11_becomes_57 (by decide) ?_
          refine mh_top (y := .int (bI true)) (rfl) ?_
          refine lv_goto (tgt := 62) hx hb dX11_becomes_58 (by decide) ?_
          refine lv_iload_n hx hb dX11_becomes_62 rfl (lv_at hl 3 rfl) ?_
          refine lv_iconst (v := nI 4) hx hb dX11_becomes_63 (by decide) ?_
          refine mn_irem hB dX11_becomes_64 (by omega) (by omega) (by omega) ?_
          refine cl_X11_196 (As := [.int (nI f), .int (nI g0), .int (bI true), .int (nI (k9 % 4))]) (rest := []) hB (c_X11_isAfter l g H r zq zsp zrm zst zsl zsv ztx zln (nI 0) zsg zbg zwd zhg zin zop zbe wi9 hi9 bk9 ot9 zer zen zpo zpi zgr zsh zsn f g0 true (k9 % 4) hR (by omega) (by omega) (by omega) (by omega) (by omega)) hR.o rfl hl.1 (Nat.le_of_ble_eq_true rfl) dX11_becomes_65 ⟨Nat.le_of_ble_eq_true rfl, Nat.le_of_ble_eq_true rfl⟩ ⟨Nat.le_of_ble_eq_true rfl, Nat.le_of_ble_eq_true rfl⟩ hS (by have hz9 := hS.1; rintro q (h | h) <;> first | exact Or.inr (by omega) | exact h.elim | exact Or.inl h | (simp only [ftA] at h ⊢; omega)) (fun v H1 locs hpo hfr hS => ?_)
          obtain ⟨rfl, wi2_5, hi2_6, bk2_7, ot2_8, hR⟩ := hpo
          generalize H1 = H at hfr hS hR ⊢
          refine W.widen (k := 0) (n := 0) (Nat.le_of_ble_eq_true rfl) (Nat.le_of_ble_eq_true rfl) ?_
          refine mb_if_eq (tgt := 73) hB dX11_becomes_68 (by decide) (fun h_68 => ?_) (fun h_68 => ?_)
          · skip
            refine lv_iinc (v := nI (k9 + 1)) (lv' := [(3, .int (nI (k9 + 1))), (0, .ref r), (1, .int (nI f)), (2, .int (nI g0))]) hx hb dX11_becomes_73 hl (k := 3) rfl (nI_1 _) (by decide) rfl (fun ls hl => ?_)
            refine lv_goto (tgt := 27) hx hb dX11_becomes_76 (by decide) ?_
            refine ih27 (k9 + 1, wi2_5, hi2_6, bk2_7, ot2_8) _ _ _ ⟨(by omega), (fun z8 z9 => (becG_f h_28 (by first | (rw [decide_eq_true h_54]; exact h_68) | (rw [decide_eq_false (Nat.not_lt.mpr h_54)]; exact h_68))).symm.trans (hbe z8 z9)), hR, hS, lv_sub hl [1, 2, 3, 0] rfl⟩ (by dsimp only; omega)
          · skip
            refine lv_iload_n hx hb dX11_becomes_71 rfl (lv_at hl 3 rfl) ?_
            refine mh_iret hB ⟨Nat.le_of_ble_eq_true rfl, Nat.le_of_ble_eq_true rfl⟩ hS dX11_becomes_72 ⟨?_, wi2_5, hi2_6, bk2_7, ot2_8, ?_⟩
            · unfold becV
              rw [if_pos ⟨h_38, h_46⟩, ← hbe h_38 h_46]
              first | (rw [becG_t h_28 (by rw [decide_eq_true h_54]; exact h_68)]) | (rw [becG_t h_28 (by rw [decide_eq_false (Nat.not_lt.mpr h_54)]; exact h_68)])
            · exact hR

def rm_c_X11_becomes_t1 : Room := { frames := 2, cells := 0, slots := 0, locals := 45 }
set_option maxRecDepth 100000 in
set_option maxHeartbeats 400000 in
theorem c_X11_becomes_t1 (l : Launch) (g : GG) (H0 : Heap) (r : Nat) (zq : Nat → Int32) (zsp : Nat → Int32) (zrm : Nat → Int32) (zst : Int32) (zsl : Nat → Int32) (zsv : Nat → Int32) (ztx : Nat → Int32) (zln : Int32) (zth : Int32) (zsg : Nat → Int32) (zbg : Nat → Int32) (zwd : Nat → Int32) (zhg : Nat → Int32) (zin : Nat → Int32) (zop : Int32) (zbe : Int32) (zwi : Int32) (zhi : Int32) (zbk : Nat → Int32) (zot : Nat → Int32) (zer : Int32) (zen : Int32) (zpo : Nat → Int32) (zpi : Int32) (zgr : Int32) (zsh : Nat → Int32) (zsn : Int32) (x : Int32) (y : Int32) (hR : ModAt g r zq zsp zrm zst zsl zsv ztx zln zth zsg zbg zwd zhg zin zop zbe zwi zhi zbk zot zer zen zpo zpi zgr zsh zsn H0) (hx1 : isIx x 3 = false ∨ isIx y 3 = false) : Ct l yX11_becomes cX11_becomes 4 (some .int) rm_c_X11_becomes_t1 g [.ref r, .int x, .int y] H0 (ftA (fun q => r ≤ q ∧ q < r + 16) H0.size) (fun v H1 => v = some (.int (nI 0)) ∧ ModAt g r zq zsp zrm zst zsl zsv ztx zln (nI 1) zsg zbg zwd zhg zin zop zbe zwi zhi zbk zot zer zen zpo zpi zgr zsh zsn H1) := by
  refine Ct.of (by decide) (fun _ h => Or.inr h) (Nat.le_of_ble_eq_true rfl) ?_
  intro p e s m below meth c ls hB hin hS hH hl
  have hx := hB.x
  have hb := hB.b
  have hl : lv_has ls 4 [(0, .ref r), (1, .int x), (2, .int y)] := hl
  refine lv_aload_n hx hb dX11_becomes_0 rfl (lv_at hl 0 rfl) ?_
  refine lv_iconst (v := nI 0) hx hb dX11_becomes_1 (by decide) ?_
  refine pf_X11_56 hB hR.o (by first | exact Or.inl rfl | (simp only [ftA]; omega) | (simp [ftA]; omega)) hS rfl rfl (Nat.le_of_ble_eq_true rfl) dX11_becomes_2 (fun H locs hwr => ?_)
  obtain ⟨hR, hS⟩ := hR.w_zth hwr
  refine lv_iload_n hx hb dX11_becomes_5 rfl (lv_at hl 1 rfl) ?_
  refine cl_X11_175 (As := [.int x]) (rest := []) hB (c_X11_isFrame l g H x) rfl hl.1 (Nat.le_of_ble_eq_true rfl) dX11_becomes_6 ⟨Nat.le_of_ble_eq_true rfl, Nat.le_of_ble_eq_true rfl⟩ ⟨Nat.le_of_ble_eq_true rfl, Nat.le_of_ble_eq_true rfl⟩ hS (by have hz9 := hS.1; rintro q (h | h) <;> first | exact Or.inr (by omega) | exact h.elim | exact Or.inl h | (simp only [ftA] at h ⊢; omega)) (fun v H1 locs hpo hfr hS => ?_)
  obtain ⟨rfl, rfl⟩ := hpo
  refine W.widen (k := 0) (n := 0) (Nat.le_of_ble_eq_true rfl) (Nat.le_of_ble_eq_true rfl) ?_
  refine mb_if_eq (tgt := 19) hB dX11_becomes_9 (by decide) (fun h_9 => ?_) (fun h_9 => ?_)
  · skip
    refine lv_aload_n hx hb dX11_becomes_19 rfl (lv_at hl 0 rfl) ?_
    refine lv_iconst (v := nI 1) hx hb dX11_becomes_20 (by decide) ?_
    refine cl_X11_81 (As := [.int (nI 1)]) (rest := []) hB (c_X11_fails l g H r zq zsp zrm zst zsl zsv ztx zln (nI 0) zsg zbg zwd zhg zin zop zbe zwi zhi zbk zot zer zen zpo zpi zgr zsh zsn (nI 1) hR) hR.o rfl hl.1 (Nat.le_of_ble_eq_true rfl) dX11_becomes_21 ⟨Nat.le_of_ble_eq_true rfl, Nat.le_of_ble_eq_true rfl⟩ ⟨Nat.le_of_ble_eq_true rfl, Nat.le_of_ble_eq_true rfl⟩ hS (by have hz9 := hS.1; rintro q (h | h) <;> first | exact Or.inr (by omega) | exact h.elim | exact Or.inl h | (simp only [ftA] at h ⊢; omega)) (fun v H1 locs hpo hfr hS => ?_)
    obtain ⟨rfl, hR⟩ := hpo
    generalize H1 = H at hfr hS hR ⊢
    refine W.widen (k := 0) (n := 0) (Nat.le_of_ble_eq_true rfl) (Nat.le_of_ble_eq_true rfl) ?_
    refine mh_iret hB ⟨Nat.le_of_ble_eq_true rfl, Nat.le_of_ble_eq_true rfl⟩ hS dX11_becomes_24 ⟨?_, ?_⟩
    · rfl
    · exact hR
  · skip
    refine lv_iload_n hx hb dX11_becomes_12 rfl (lv_at hl 2 rfl) ?_
    refine cl_X11_175 (As := [.int y]) (rest := []) hB (c_X11_isFrame l g H y) rfl hl.1 (Nat.le_of_ble_eq_true rfl) dX11_becomes_13 ⟨Nat.le_of_ble_eq_true rfl, Nat.le_of_ble_eq_true rfl⟩ ⟨Nat.le_of_ble_eq_true rfl, Nat.le_of_ble_eq_true rfl⟩ hS (by have hz9 := hS.1; rintro q (h | h) <;> first | exact Or.inr (by omega) | exact h.elim | exact Or.inl h | (simp only [ftA] at h ⊢; omega)) (fun v H1 locs hpo hfr hS => ?_)
    obtain ⟨rfl, rfl⟩ := hpo
    refine W.widen (k := 0) (n := 0) (Nat.le_of_ble_eq_true rfl) (Nat.le_of_ble_eq_true rfl) ?_
    refine mb_if_ne (tgt := 25) hB dX11_becomes_16 (by decide) (fun h => by rcases hx1 with z9 | z9; (rw [z9] at h_9; cases h_9); (rw [z9] at h; cases h)) (fun h_16 => ?_)
    refine lv_aload_n hx hb dX11_becomes_19 rfl (lv_at hl 0 rfl) ?_
    refine lv_iconst (v := nI 1) hx hb dX11_becomes_20 (by decide) ?_
    refine cl_X11_81 (As := [.int (nI 1)]) (rest := []) hB (c_X11_fails l g H r zq zsp zrm zst zsl zsv ztx zln (nI 0) zsg zbg zwd zhg zin zop zbe zwi zhi zbk zot zer zen zpo zpi zgr zsh zsn (nI 1) hR) hR.o rfl hl.1 (Nat.le_of_ble_eq_true rfl) dX11_becomes_21 ⟨Nat.le_of_ble_eq_true rfl, Nat.le_of_ble_eq_true rfl⟩ ⟨Nat.le_of_ble_eq_true rfl, Nat.le_of_ble_eq_true rfl⟩ hS (by have hz9 := hS.1; rintro q (h | h) <;> first | exact Or.inr (by omega) | exact h.elim | exact Or.inl h | (simp only [ftA] at h ⊢; omega)) (fun v H1 locs hpo hfr hS => ?_)
    obtain ⟨rfl, hR⟩ := hpo
    generalize H1 = H at hfr hS hR ⊢
    refine W.widen (k := 0) (n := 0) (Nat.le_of_ble_eq_true rfl) (Nat.le_of_ble_eq_true rfl) ?_
    refine mh_iret hB ⟨Nat.le_of_ble_eq_true rfl, Nat.le_of_ble_eq_true rfl⟩ hS dX11_becomes_24 ⟨?_, ?_⟩
    · rfl
    · exact hR
