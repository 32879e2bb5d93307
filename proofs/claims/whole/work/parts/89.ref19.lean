def rm_c_X11_findPieces : Room := { frames := 3, cells := 0, slots := 0, locals := 67 }
set_option maxRecDepth 100000 in
set_option maxHeartbeats 400000 in
theorem c_X11_findPieces (l : Launch) (g : GG) (H0 : Heap) (r : Nat) (zq : Nat → Int32) (zsp : Nat → Int32) (zrm : Nat → Int32) (zst : Int32) (zsl : Nat → Int32) (zsv : Nat → Int32) (ztx : Nat → Int32) (zln : Int32) (zth : Int32) (zsg : Nat → Int32) (zbg : Nat → Int32) (zwd : Nat → Int32) (zhg : Nat → Int32) (zin : Nat → Int32) (zop : Int32) (zbe : Int32) (zwi : Int32) (zhi : Int32) (zbk : Nat → Int32) (zot : Nat → Int32) (zer : Int32) (zen : Int32) (zpo : Nat → Int32) (zpi : Int32) (zgr : Int32) (zsh : Nat → Int32) (zsn : Int32) (f : Nat) (hR : ModAt g r zq zsp zrm zst zsl zsv ztx zln zth zsg zbg zwd zhg zin zop zbe zwi zhi zbk zot zer zen zpo zpi zgr zsh zsn H0) (hf : f < 3) (hF : WFf zq f) : Ct l yX11_findPieces cX11_findPieces 8 none rm_c_X11_findPieces g [.ref r, .int (nI f)] H0 (ftA (fun q => r ≤ q ∧ q < r + 16) H0.size) (fun v H1 => v = none ∧ ∃ (po2 : Nat → Int32), ModAt g r zq zsp zrm zst zsl zsv ztx zln zth zsg zbg zwd zhg zin zop zbe zwi zhi zbk zot zer zen po2 (nI (pcN (labC (wdF zq f) (szF zq f) (clF zq f)) (szF zq f) (szF zq f))) (nI (grN (labC (wdF zq f) (szF zq f) (clF zq f)) (szF zq f) (szF zq f))) zsh zsn H1) := by
  refine Ct.of (by decide) (fun _ h => Or.inr h) (Nat.le_of_ble_eq_true rfl) ?_
  intro p e s m below meth c ls hB hin hS hH hl
  have hx := hB.x
  have hb := hB.b
  have hl : lv_has ls 8 [(0, .ref r), (1, .int (nI f))] := hl
  have hsz := WF.sz hF
  refine lv_aload_n hx hb dX11_findPieces_0 rfl (lv_at hl 0 rfl) ?_
  refine gf_X11_7 hB hR.o rfl dX11_findPieces_1 ?_
  refine lv_iload_n hx hb dX11_findPieces_4 rfl (lv_at hl 1 rfl) ?_
  refine lv_iconst (v := nI 0) hx hb dX11_findPieces_5 (by decide) ?_
  refine cl_X11_71 (As := [.int (nI f), .int (nI 0)]) (rest := [.ref (r + 1)]) hB (c_X11_at l g H0 f 0) rfl hl.1 (Nat.le_of_ble_eq_true rfl) dX11_findPieces_6 ⟨Nat.le_of_ble_eq_true rfl, Nat.le_of_ble_eq_true rfl⟩ ⟨Nat.le_of_ble_eq_true rfl, Nat.le_of_ble_eq_true rfl⟩ hS (by have hz9 := hS.1; rintro q (h | h) <;> first | exact Or.inr (by omega) | exact h.elim | exact Or.inl h | (simp only [ftA] at h ⊢; omega)) (fun v H1 locs hpo hfr hS => ?_)
  obtain ⟨rfl, rfl⟩ := hpo
  refine W.widen (k := 0) (n := 0) (Nat.le_of_ble_eq_true rfl) (Nat.le_of_ble_eq_true rfl) ?_
  refine mn_iald hB hR.a_zq (by omega) (by omega) dX11_findPieces_9 ?_
  refine mh_top (y := .int (nI (wdF zq f))) (by rw [hF.w]) ?_
  refine lv_istore_n (lv' := [(2, .int (nI (wdF zq f))), (0, .ref r), (1, .int (nI f))]) hx hb dX11_findPieces_10 rfl hl (by decide) rfl (fun ls hl => ?_)
  refine lv_aload_n hx hb dX11_findPieces_11 rfl (lv_at hl 1 rfl) ?_
  refine lv_iload_n hx hb dX11_findPieces_12 rfl (lv_at hl 2 rfl) ?_
  refine cl_X11_75 (As := [.int (nI f)]) (rest := []) hB (c_X11_patches l g H0 r zq zsp zrm zst zsl zsv ztx zln zth zsg zbg zwd zhg zin zop zbe zwi zhi zbk zot zer zen zpo zpi zgr zsh zsn f hR (by first | assumption | omega) (by first | assumption | omega)) hR.o rfl hl.1 (Nat.le_of_ble_eq_true rfl) dX11_findPieces_13 ⟨Nat.le_of_ble_eq_true rfl, Nat.le_of_ble_eq_true rfl⟩ ⟨Nat.le_of_ble_eq_true rfl, Nat.le_of_ble_eq_true rfl⟩ hS (by have hz9 := hS.1; rintro q (h | h) <;> first | exact Or.inr (by omega) | exact h.elim | exact Or.inl h | (simp only [ftA] at h ⊢; omega)) (fun v H1 locs hpo hfr hS => ?_)
  obtain ⟨rfl, rfl⟩ := hpo
  refine W.widen (k := 0) (n := 0) (Nat.le_of_ble_eq_true rfl) (Nat.le_of_ble_eq_true rfl) ?_
  refine lv_istore_n (lv' := [(3, .int (nI (szF zq f))), (2, .int (nI (wdF zq f))), (0, .ref r), (1, .int (nI f))]) hx hb dX11_findPieces_16 rfl hl (by decide) rfl (fun ls hl => ?_)
  refine lv_iconst (v := nI 0) hx hb dX11_findPieces_17 (by decide) ?_
  refine lv_istore (lv' := [(4, .int (nI 0)), (3, .int (nI (szF zq f))), (2, .int (nI (wdF zq f))), (0, .ref r), (1, .int (nI f))]) hx hb dX11_findPieces_18 hl (by decide) rfl (fun ls hl => ?_)
  refine mh_loop (σ := Nat × (Nat → Int32)) (fun xx9 H locs ls => match xx9 with | (i, po) => i ≤ szF zq f ∧ (∀ k, k < i → po k = nI k) ∧ ModAt g r zq zsp zrm zst zsl zsv ztx zln zth zsg zbg zwd zhg zin zop zbe zwi zhi zbk zot zer zen po zpi zgr zsh zsn H ∧ va_S (ftA (fun q => r ≤ q ∧ q < r + 16) H0.size) H0 H locs ∧ lv_has ls 8 [(0, .ref r), (1, .int (nI f)), (2, .int (nI (wdF zq f))), (3, .int (nI (szF zq f))), (4, .int (nI i))]) (fun xx9 => match xx9 with | (i, po) => szF zq f - i) ?_ (0, zpo) ⟨(Nat.zero_le _), (fun k hk => absurd hk (Nat.not_lt_zero _)), hR, hS, lv_sub hl [3, 4, 2, 1, 0] rfl⟩
  rintro ⟨i, po⟩ H locs ls ⟨hi, hpo, hR, hS, hl⟩ ih
  have ih20 := ih
  refine lv_iload hx hb dX11_findPieces_20 (lv_at hl 4 rfl) ?_
  refine lv_iload_n hx hb dX11_findPieces_22 rfl (lv_at hl 3 rfl) ?_
  refine mn_icmp_ge (tgt := 41) hB dX11_findPieces_23 (by decide) (by omega) (by omega) (fun h_23 => ?_) (fun h_23 => ?_)
  · skip
    have hin9 : i = szF zq f := by omega
    refine lv_iconst (v := nI 1) hx hb dX11_findPieces_41 (by decide) ?_
    refine lv_istore (lv' := [(4, .int (nI 1)), (0, .ref r), (1, .int (nI f)), (2, .int (nI (wdF zq f))), (3, .int (nI (szF zq f)))]) hx hb dX11_findPieces_42 hl (by decide) rfl (fun ls hl => ?_)
    refine mh_loop (σ := (Nat → Int32) × (Nat → Nat) × Bool) (fun xx9 H locs ls => match xx9 with | (po1, L1, ch) => PInv (wdF zq f) (szF zq f) (clF zq f) po1 L1 (sumL L1 (szF zq f)) false ∧ (ch = false → ∀ x y, Edg (wdF zq f) (szF zq f) (clF zq f) x y → L1 x = L1 y) ∧ ModAt g r zq zsp zrm zst zsl zsv ztx zln zth zsg zbg zwd zhg zin zop zbe zwi zhi zbk zot zer zen po1 zpi zgr zsh zsn H ∧ va_S (ftA (fun q => r ≤ q ∧ q < r + 16) H0.size) H0 H locs ∧ lv_has ls 8 [(0, .ref r), (1, .int (nI f)), (2, .int (nI (wdF zq f))), (3, .int (nI (szF zq f))), (4, .int (bI ch))]) (fun xx9 => match xx9 with | (po1, L1, ch) => sumL L1 (szF zq f) + b1 ch) ?_ (po, (fun k => k), true) ⟨(⟨fun k hk => hpo k (by omega), fun k hk => ⟨Nat.le_refl _, Cnn.rf k⟩, Nat.le_refl _⟩), (fun z => absurd z (by decide)), hR, hS, lv_sub hl [1, 2, 3, 4, 0] rfl⟩
    rintro ⟨po1, L1, ch⟩ H locs ls ⟨hP1, hE1, hR, hS, hl⟩ ih
    have ih44 := ih
    refine lv_iload hx hb dX11_findPieces_44 (lv_at hl 4 rfl) ?_
    refine mb_if_eq (tgt := 136) hB dX11_findPieces_46 (by decide) (fun h_46 => ?_) (fun h_46 => ?_)
    · skip
      have hLB : ∀ k, k < szF zq f → po1 k = nI ((labC (wdF zq f) (szF zq f) (clF zq f)) k) := fun k hk => by rw [hP1.1 k hk, lab_of hP1.2.1 (hE1 h_46) hk]
      have hsz := WF.sz hF
      refine lv_aload_n hx hb dX11_findPieces_136 rfl (lv_at hl 0 rfl) ?_
      refine lv_iconst (v := nI 0) hx hb dX11_findPieces_137 (by decide) ?_
      refine pf_X11_169 hB hR.o (by first | exact Or.inl rfl | (simp only [ftA]; omega) | (simp [ftA]; omega)) hS rfl rfl (Nat.le_of_ble_eq_true rfl) dX11_findPieces_138 (fun H locs hwr => ?_)
      obtain ⟨hR, hS⟩ := hR.w_zpi hwr
      refine lv_aload_n hx hb dX11_findPieces_141 rfl (lv_at hl 0 rfl) ?_
      refine lv_iconst (v := nI 0) hx hb dX11_findPieces_142 (by decide) ?_
      refine pf_X11_172 hB hR.o (by first | exact Or.inl rfl | (simp only [ftA]; omega) | (simp [ftA]; omega)) hS rfl rfl (Nat.le_of_ble_eq_true rfl) dX11_findPieces_143 (fun H locs hwr => ?_)
      obtain ⟨hR, hS⟩ := hR.w_zgr hwr
      refine lv_iconst (v := nI 0) hx hb dX11_findPieces_146 (by decide) ?_
      refine lv_istore (lv' := [(5, .int (nI 0)), (0, .ref r), (1, .int (nI f)), (2, .int (nI (wdF zq f))), (3, .int (nI (szF zq f))), (4, .int (bI ch))]) hx hb dX11_findPieces_147 hl (by decide) rfl (fun ls hl => ?_)
      refine mh_loop (σ := Nat) (fun xx9 H locs ls => match xx9 with | k9 => k9 ≤ szF zq f ∧ ModAt g r zq zsp zrm zst zsl zsv ztx zln zth zsg zbg zwd zhg zin zop zbe zwi zhi zbk zot zer zen po1 (nI (pcN (labC (wdF zq f) (szF zq f) (clF zq f)) (szF zq f) k9)) (nI (grN (labC (wdF zq f) (szF zq f) (clF zq f)) (szF zq f) k9)) zsh zsn H ∧ va_S (ftA (fun q => r ≤ q ∧ q < r + 16) H0.size) H0 H locs ∧ lv_has ls 8 [(0, .ref r), (1, .int (nI f)), (2, .int (nI (wdF zq f))), (3, .int (nI (szF zq f))), (5, .int (nI k9))]) (fun xx9 => match xx9 with | k9 => szF zq f - k9) ?_ 0 ⟨(Nat.zero_le _), hR, hS, lv_sub hl [1, 2, 3, 4, 0] rfl⟩
      rintro k9 H locs ls ⟨hk9, hR, hS, hl⟩ ih
      have ih149 := ih
      refine lv_iload hx hb dX11_findPieces_149 (lv_at hl 4 rfl) ?_
      refine lv_iload_n hx hb dX11_findPieces_151 rfl (lv_at hl 3 rfl) ?_
      refine mn_icmp_ge (tgt := 242) hB dX11_findPieces_152 (by decide) (by omega) (by omega) (fun h_152 => ?_) (fun h_152 => ?_)
      · skip
        have hkn : szF zq f = k9 := by omega
        refine mh_vret hB ⟨Nat.le_of_ble_eq_true rfl, Nat.le_of_ble_eq_true rfl⟩ hS dX11_findPieces_242 ⟨?_, po1, ?_⟩
        · rfl
        · rw [← hkn] at hR
          exact hR
      · skip
        refine lv_iconst (v := nI 0) hx hb dX11_findPieces_155 (by decide) ?_
        refine lv_istore (lv' := [(6, .int (nI 0)), (0, .ref r), (1, .int (nI f)), (2, .int (nI (wdF zq f))), (3, .int (nI (szF zq f))), (5, .int (nI k9))]) hx hb dX11_findPieces_156 hl (by decide) rfl (fun ls hl => ?_)
        refine lv_iconst (v := nI 0) hx hb dX11_findPieces_158 (by decide) ?_
        refine lv_istore (lv' := [(7, .int (nI 0)), (6, .int (nI 0)), (0, .ref r), (1, .int (nI f)), (2, .int (nI (wdF zq f))), (3, .int (nI (szF zq f))), (5, .int (nI k9))]) hx hb dX11_findPieces_159 hl (by decide) rfl (fun ls hl => ?_)
        refine mh_loop (σ := Nat) (fun xx9 H locs ls => match xx9 with | j9 => j9 ≤ szF zq f ∧ ModAt g r zq zsp zrm zst zsl zsv ztx zln zth zsg zbg zwd zhg zin zop zbe zwi zhi zbk zot zer zen po1 (nI (pcN (labC (wdF zq f) (szF zq f) (clF zq f)) (szF zq f) k9)) (nI (grN (labC (wdF zq f) (szF zq f) (clF zq f)) (szF zq f) k9)) zsh zsn H ∧ va_S (ftA (fun q => r ≤ q ∧ q < r + 16) H0.size) H0 H locs ∧ lv_has ls 8 [(0, .ref r), (1, .int (nI f)), (2, .int (nI (wdF zq f))), (3, .int (nI (szF zq f))), (5, .int (nI k9)), (6, .int (nI (cntR (fun z => decide ((labC (wdF zq f) (szF zq f) (clF zq f)) z = k9)) 0 j9))), (7, .int (nI j9))]) (fun xx9 => match xx9 with | j9 => szF zq f - j9) ?_ 0 ⟨(Nat.zero_le _), hR, hS, lv_sub hl [2, 3, 4, 5, 6, 1, 0] rfl⟩
        rintro j9 H locs ls ⟨hj9, hR, hS, hl⟩ ih
        have ih161 := ih
        refine lv_iload hx hb dX11_findPieces_161 (lv_at hl 6 rfl) ?_
        refine lv_iload_n hx hb dX11_findPieces_163 rfl (lv_at hl 3 rfl) ?_
        refine mn_icmp_ge (tgt := 195) hB dX11_findPieces_164 (by decide) (by omega) (by omega) (fun h_164 => ?_) (fun h_164 => ?_)
        · skip
          have hjn : j9 = szF zq f := by omega
          rw [hjn] at hl
          have hl : lv_has ls 8 [(0, .ref r), (1, .int (nI f)), (2, .int (nI (wdF zq f))), (3, .int (nI (szF zq f))), (5, .int (nI k9)), (6, .int (nI (szL (labC (wdF zq f) (szF zq f) (clF zq f)) (szF zq f) k9))), (7, .int (nI (szF zq f)))] := hl
          have hs1 := szL_le (labC (wdF zq f) (szF zq f) (clF zq f)) (szF zq f) k9
          have hs2 := pcN_le (labC (wdF zq f) (szF zq f) (clF zq f)) (szF zq f) k9
          have hs3 := grN_le (labC (wdF zq f) (szF zq f) (clF zq f)) (szF zq f) k9
          refine lv_aload_n hx hb dX11_findPieces_195 rfl (lv_at hl 0 rfl) ?_
          refine lv_dup hx hb dX11_findPieces_196 rfl ?_
          refine gf_X11_169 hB hR.o rfl dX11_findPieces_197 ?_
          refine lv_iload hx hb dX11_findPieces_200 (lv_at hl 5 rfl) ?_
          refine mn_if_le (tgt := 209) hB dX11_findPieces_202 (by decide) (by omega) (fun h_202 => ?_) (fun h_202 => ?_)
          · skip
            refine lv_iconst (v := nI 0) hx hb dX11_findPieces_209 (by decide) ?_
            refine mn_iadd hB dX11_findPieces_210 ?_
            refine mh_top (y := .int (nI (pcN (labC (wdF zq f) (szF zq f) (clF zq f)) (szF zq f) (k9 + 1)))) (by rw [pcN_f (by omega), Nat.add_zero]) ?_
            refine pf_X11_169 hB hR.o (by first | exact Or.inl rfl | (simp only [ftA]; omega) | (simp [ftA]; omega)) hS rfl rfl (Nat.le_of_ble_eq_true rfl) dX11_findPieces_211 (fun H locs hwr => ?_)
            obtain ⟨hR, hS⟩ := hR.w_zpi hwr
            refine lv_aload_n hx hb dX11_findPieces_214 rfl (lv_at hl 0 rfl) ?_
            refine lv_iload hx hb dX11_findPieces_215 (lv_at hl 5 rfl) ?_
            refine lv_aload_n hx hb dX11_findPieces_217 rfl (lv_at hl 0 rfl) ?_
            refine gf_X11_172 hB hR.o rfl dX11_findPieces_218 ?_
            refine mn_icmp_le (tgt := 229) hB dX11_findPieces_221 (by decide) (by omega) (by omega) (fun h_221 => ?_) (fun h_221 => ?_)
            · skip
              refine lv_aload_n hx hb dX11_findPieces_229 rfl (lv_at hl 0 rfl) ?_
              refine gf_X11_172 hB hR.o rfl dX11_findPieces_230 ?_
              refine mh_top (y := .int (nI (grN (labC (wdF zq f) (szF zq f) (clF zq f)) (szF zq f) (k9 + 1)))) (by rw [grN_f (by omega)]) ?_
              refine pf_X11_172 hB hR.o (by first | exact Or.inl rfl | (simp only [ftA]; omega) | (simp [ftA]; omega)) hS rfl rfl (Nat.le_of_ble_eq_true rfl) dX11_findPieces_233 (fun H locs hwr => ?_)
              obtain ⟨hR, hS⟩ := hR.w_zgr hwr
              refine lv_iinc (v := nI (k9 + 1)) (lv' := [(5, .int (nI (k9 + 1))), (0, .ref r), (1, .int (nI f)), (2, .int (nI (wdF zq f))), (3, .int (nI (szF zq f))), (6, .int (nI (szL (labC (wdF zq f) (szF zq f) (clF zq f)) (szF zq f) k9))), (7, .int (nI (szF zq f)))]) hx hb dX11_findPieces_236 hl (k := 4) rfl (nI_1 _) (by decide) rfl (fun ls hl => ?_)
              refine lv_goto (tgt := 149) hx hb dX11_findPieces_239 (by decide) ?_
              refine ih149 (k9 + 1) _ _ _ ⟨(by omega), hR, hS, lv_sub hl [1, 2, 3, 4, 0] rfl⟩ (by dsimp only; omega)
            · skip
              refine lv_iload hx hb dX11_findPieces_224 (lv_at hl 5 rfl) ?_
              refine mh_top (y := .int (nI (grN (labC (wdF zq f) (szF zq f) (clF zq f)) (szF zq f) (k9 + 1)))) (by rw [grN_t (by omega)]) ?_
              refine lv_goto (tgt := 233) hx hb dX11_findPieces_226 (by decide) ?_
              refine pf_X11_172 hB hR.o (by first | exact Or.inl rfl | (simp only [ftA]; omega) | (simp [ftA]; omega)) hS rfl rfl (Nat.le_of_ble_eq_true rfl) dX11_findPieces_233 (fun H locs hwr => ?_)
              obtain ⟨hR, hS⟩ := hR.w_zgr hwr
              refine lv_iinc (v := nI (k9 + 1)) (lv' := [(5, .int (nI (k9 + 1))), (0, .ref r), (1, .int (nI f)), (2, .int (nI (wdF zq f))), (3, .int (nI (szF zq f))), (6, .int (nI (szL (labC (wdF zq f) (szF zq f) (clF zq f)) (szF zq f) k9))), (7, .int (nI (szF zq f)))]) hx hb dX11_findPieces_236 hl (k := 4) rfl (nI_1 _) (by decide) rfl (fun ls hl => ?_)
              refine lv_goto (tgt := 149) hx hb dX11_findPieces_239 (by decide) ?_
              refine ih149 (k9 + 1) _ _ _ ⟨(by omega), hR, hS, lv_sub hl [1, 2, 3, 4, 0] rfl⟩ (by dsimp only; omega)
          · skip
            refine lv_iconst (v := nI 1) hx hb dX11_findPieces_205 (by decide) ?_
            refine lv_goto (tgt := 210) hx hb dX11_findPieces_206 (by decide) ?_
            refine mn_iadd hB dX11_findPieces_210 ?_
            refine mh_top (y := .int (nI (pcN (labC (wdF zq f) (szF zq f) (clF zq f)) (szF zq f) (k9 + 1)))) (by rw [pcN_t (by omega)]) ?_
            refine pf_X11_169 hB hR.o (by first | exact Or.inl rfl | (simp only [ftA]; omega) | (simp [ftA]; omega)) hS rfl rfl (Nat.le_of_ble_eq_true rfl) dX11_findPieces_211 (fun H locs hwr => ?_)
            obtain ⟨hR, hS⟩ := hR.w_zpi hwr
            refine lv_aload_n hx hb dX11_findPieces_214 rfl (lv_at hl 0 rfl) ?_
            refine lv_iload hx hb dX11_findPieces_215 (lv_at hl 5 rfl) ?_
            refine lv_aload_n hx hb dX11_findPieces_217 rfl (lv_at hl 0 rfl) ?_
            refine gf_X11_172 hB hR.o rfl dX11_findPieces_218 ?_
            refine mn_icmp_le (tgt := 229) hB dX11_findPieces_221 (by decide) (by omega) (by omega) (fun h_221 => ?_) (fun h_221 => ?_)
            · skip
              refine lv_aload_n hx hb dX11_findPieces_229 rfl (lv_at hl 0 rfl) ?_
              refine gf_X11_172 hB hR.o rfl dX11_findPieces_230 ?_
              refine mh_top (y := .int (nI (grN (labC (wdF zq f) (szF zq f) (clF zq f)) (szF zq f) (k9 + 1)))) (by rw [grN_f (by omega)]) ?_
              refine pf_X11_172 hB hR.o (by first | exact Or.inl rfl | (simp only [ftA]; omega) | (simp [ftA]; omega)) hS rfl rfl (Nat.le_of_ble_eq_true rfl) dX11_findPieces_233 (fun H locs hwr => ?_)
              obtain ⟨hR, hS⟩ := hR.w_zgr hwr
              refine lv_iinc (v := nI (k9 + 1)) (lv' := [(5, .int (nI (k9 + 1))), (0, .ref r), (1, .int (nI f)), (2, .int (nI (wdF zq f))), (3, .int (nI (szF zq f))), (6, .int (nI (szL (labC (wdF zq f) (szF zq f) (clF zq f)) (szF zq f) k9))), (7, .int (nI (szF zq f)))]) hx hb dX11_findPieces_236 hl (k := 4) rfl (nI_1 _) (by decide) rfl (fun ls hl => ?_)
              refine lv_goto (tgt := 149) hx hb dX11_findPieces_239 (by decide) ?_
              refine ih149 (k9 + 1) _ _ _ ⟨(by omega), hR, hS, lv_sub hl [1, 2, 3, 4, 0] rfl⟩ (by dsimp only; omega)
            · skip
              refine lv_iload hx hb dX11_findPieces_224 (lv_at hl 5 rfl) ?_
              refine mh_top (y := .int (nI (grN (labC (wdF zq f) (szF zq f) (clF zq f)) (szF zq f) (k9 + 1)))) (by rw [grN_t (by omega)]) ?_
              refine lv_goto (tgt := 233) hx hb dX11_findPieces_226 (by decide) ?_
              refine pf_X11_172 hB hR.o (by first | exact Or.inl rfl | (simp only [ftA]; omega) | (simp [ftA]; omega)) hS rfl rfl (Nat.le_of_ble_eq_true rfl) dX11_findPieces_233 (fun H locs hwr => ?_)
              obtain ⟨hR, hS⟩ := hR.w_zgr hwr
              refine lv_iinc (v := nI (k9 + 1)) (lv' := [(5, .int (nI (k9 + 1))), (0, .ref r), (1, .int (nI f)), (2, .int (nI (wdF zq f))), (3, .int (nI (szF zq f))), (6, .int (nI (szL (labC (wdF zq f) (szF zq f) (clF zq f)) (szF zq f) k9))), (7, .int (nI (szF zq f)))]) hx hb dX11_findPieces_236 hl (k := 4) rfl (nI_1 _) (by decide) rfl (fun ls hl => ?_)
              refine lv_goto (tgt := 149) hx hb dX11_findPieces_239 (by decide) ?_
              refine ih149 (k9 + 1) _ _ _ ⟨(by omega), hR, hS, lv_sub hl [1, 2, 3, 4, 0] rfl⟩ (by dsimp only; omega)
        · skip
          refine lv_iload hx hb dX11_findPieces_167 (lv_at hl 5 rfl) ?_
          refine lv_aload_n hx hb dX11_findPieces_169 rfl (lv_at hl 0 rfl) ?_
          refine gf_X11_50 hB hR.o rfl dX11_findPieces_170 ?_
          refine lv_iload hx hb dX11_findPieces_173 (lv_at hl 6 rfl) ?_
          refine mn_iald hB hR.a_zpo (by omega) (by omega) dX11_findPieces_175 ?_
          refine mh_top (y := .int (nI ((labC (wdF zq f) (szF zq f) (clF zq f)) j9))) (by rw [hLB j9 (by omega)]) ?_
          have hlj := lab_le (w := wdF zq f) (n := szF zq f) (col := clF zq f) j9
          refine lv_iload hx hb dX11_findPieces_176 (lv_at hl 4 rfl) ?_
          refine mn_icmp_ne (tgt := 185) hB dX11_findPieces_178 (by decide) (by omega) (by omega) (fun h_178 => ?_) (fun h_178 => ?_)
          · skip
            refine lv_iconst (v := nI 0) hx hb dX11_findPieces_185 (by decide) ?_
            refine mn_iadd hB dX11_findPieces_186 ?_
            refine mh_top (y := .int (nI (cntR (fun z => decide ((labC (wdF zq f) (szF zq f) (clF zq f)) z = k9)) 0 (j9 + 1)))) (by rw [cnt_s, if_neg (by rw [decide_eq_false h_178]; decide)]) ?_
            refine lv_istore (lv' := [(6, .int (nI (cntR (fun z => decide ((labC (wdF zq f) (szF zq f) (clF zq f)) z = k9)) 0 (j9 + 1)))), (0, .ref r), (1, .int (nI f)), (2, .int (nI (wdF zq f))), (3, .int (nI (szF zq f))), (5, .int (nI k9)), (7, .int (nI j9))]) hx hb dX11_findPieces_187 hl (by decide) rfl (fun ls hl => ?_)
            refine lv_iinc (v := nI (j9 + 1)) (lv' := [(7, .int (nI (j9 + 1))), (6, .int (nI (cntR (fun z => decide ((labC (wdF zq f) (szF zq f) (clF zq f)) z = k9)) 0 (j9 + 1)))), (0, .ref r), (1, .int (nI f)), (2, .int (nI (wdF zq f))), (3, .int (nI (szF zq f))), (5, .int (nI k9))]) hx hb dX11_findPieces_189 hl (k := 6) rfl (nI_1 _) (by decide) rfl (fun ls hl => ?_)
            refine lv_goto (tgt := 161) hx hb dX11_findPieces_192 (by decide) ?_
            refine ih161 (j9 + 1) _ _ _ ⟨(by omega), hR, hS, lv_sub hl [2, 3, 4, 5, 6, 1, 0] rfl⟩ (by dsimp only; omega)
          · skip
            refine lv_iconst (v := nI 1) hx hb dX11_findPieces_181 (by decide) ?_
            refine lv_goto (tgt := 186) hx hb dX11_findPieces_182 (by decide) ?_
            refine mn_iadd hB dX11_findPieces_186 ?_
            refine mh_top (y := .int (nI (cntR (fun z => decide ((labC (wdF zq f) (szF zq f) (clF zq f)) z = k9)) 0 (j9 + 1)))) (by rw [cnt_s, if_pos (decide_eq_true h_178)]) ?_
            refine lv_istore (lv' := [(6, .int (nI (cntR (fun z => decide ((labC (wdF zq f) (szF zq f) (clF zq f)) z = k9)) 0 (j9 + 1)))), (0, .ref r), (1, .int (nI f)), (2, .int (nI (wdF zq f))), (3, .int (nI (szF zq f))), (5, .int (nI k9)), (7, .int (nI j9))]) hx hb dX11_findPieces_187 hl (by decide) rfl (fun ls hl => ?_)
            refine lv_iinc (v := nI (j9 + 1)) (lv' := [(7, .int (nI (j9 + 1))), (6, .int (nI (cntR (fun z => decide ((labC (wdF zq f) (szF zq f) (clF zq f)) z = k9)) 0 (j9 + 1)))), (0, .ref r), (1, .int (nI f)), (2, .int (nI (wdF zq f))), (3, .int (nI (szF zq f))), (5, .int (nI k9))]) hx hb dX11_findPieces_189 hl (k := 6) rfl (nI_1 _) (by decide) rfl (fun ls hl => ?_)
            refine lv_goto (tgt := 161) hx hb dX11_findPieces_192 (by decide) ?_
            refine ih161 (j9 + 1) _ _ _ ⟨(by omega), hR, hS, lv_sub hl [2, 3, 4, 5, 6, 1, 0] rfl⟩ (by dsimp only; omega)
    · skip
      subst h_46
      refine lv_iconst (v := nI 0) hx hb dX11_findPieces_49 (by decide) ?_
      refine lv_istore (lv' := [(4, .int (nI 0)), (0, .ref r), (1, .int (nI f)), (2, .int (nI (wdF zq f))), (3, .int (nI (szF zq f)))]) hx hb dX11_findPieces_50 hl (by decide) rfl (fun ls hl => ?_)
      refine lv_iconst (v := nI 0) hx hb dX11_findPieces_52 (by decide) ?_
      refine lv_istore (lv' := [(5, .int (nI 0)), (4, .int (nI 0)), (0, .ref r), (1, .int (nI f)), (2, .int (nI (wdF zq f))), (3, .int (nI (szF zq f)))]) hx hb dX11_findPieces_53 hl (by decide) rfl (fun ls hl => ?_)
      refine mh_loop (σ := Nat × (Nat → Int32) × (Nat → Nat) × Bool) (fun xx9 H locs ls => match xx9 with | (k, po2, L2, ch2) => k ≤ szF zq f ∧ PInv (wdF zq f) (szF zq f) (clF zq f) po2 L2 (sumL L1 (szF zq f)) ch2 ∧ (ch2 = false → ∀ x y, Edg (wdF zq f) (szF zq f) (clF zq f) x y → x < k → L2 x = L2 y) ∧ ModAt g r zq zsp zrm zst zsl zsv ztx zln zth zsg zbg zwd zhg zin zop zbe zwi zhi zbk zot zer zen po2 zpi zgr zsh zsn H ∧ va_S (ftA (fun q => r ≤ q ∧ q < r + 16) H0.size) H0 H locs ∧ lv_has ls 8 [(0, .ref r), (1, .int (nI f)), (2, .int (nI (wdF zq f))), (3, .int (nI (szF zq f))), (4, .int (bI ch2)), (5, .int (nI k))]) (fun xx9 => match xx9 with | (k, po2, L2, ch2) => szF zq f - k) ?_ (0, po1, L1, false) ⟨(Nat.zero_le _), (hP1), (fun z x y e h9 => absurd h9 (Nat.not_lt_zero _)), hR, hS, lv_sub hl [2, 3, 4, 5, 1, 0] rfl⟩
      rintro ⟨k, po2, L2, ch2⟩ H locs ls ⟨hk, hP2, hE2, hR, hS, hl⟩ ih
      have ih55 := ih
      refine lv_iload hx hb dX11_findPieces_55 (lv_at hl 5 rfl) ?_
      refine lv_iload_n hx hb dX11_findPieces_57 rfl (lv_at hl 3 rfl) ?_
      refine mn_icmp_ge (tgt := 133) hB dX11_findPieces_58 (by decide) (by omega) (by omega) (fun h_58 => ?_) (fun h_58 => ?_)
      · skip
        refine lv_goto (tgt := 44) hx hb dX11_findPieces_133 (by decide) ?_
        refine ih44 (po2, L2, ch2) _ _ _ ⟨(⟨hP2.1, hP2.2.1, Nat.le_refl _⟩), (fun z x y e => hE2 z x y e (by have := e.1; have := e.2.2; omega)), hR, hS, lv_sub hl [0, 1, 2, 3, 4] rfl⟩ (by show sumL L2 (szF zq f) + b1 ch2 < sumL L1 (szF zq f) + b1 true; have h9 := hP2.2.2; rw [b1_t]; omega)
      · skip
        have hwp := WF.szw hF (by omega)
        have hw16 := hF.w16
        have hmod := Nat.mod_lt k hwp.1
        have hbig : k % wdF zq f + 1 < wdF zq f → k + 1 < szF zq f := fun h9 => edg_in (show k < wdF zq f * htF zq f from (show k < szF zq f by omega)) h9
        refine mh_join (σ := (Nat → Int32) × (Nat → Nat) × Bool) 93 (fun xx9 => match xx9 with | (po3, L3, ch3) => [.int (bI ch3)]) (fun xx9 H locs ls => match xx9 with | (po3, L3, ch3) => PInv (wdF zq f) (szF zq f) (clF zq f) po3 L3 (sumL L1 (szF zq f)) ch3 ∧ (ch3 = false → (∀ x y, Edg (wdF zq f) (szF zq f) (clF zq f) x y → x < k → L3 x = L3 y) ∧ (Edg (wdF zq f) (szF zq f) (clF zq f) k (k + 1) → k % wdF zq f + 1 < wdF zq f → L3 k = L3 (k + 1))) ∧ ModAt g r zq zsp zrm zst zsl zsv ztx zln zth zsg zbg zwd zhg zin zop zbe zwi zhi zbk zot zer zen po3 zpi zgr zsh zsn H ∧ va_S (ftA (fun q => r ≤ q ∧ q < r + 16) H0.size) H0 H locs ∧ lv_has ls 8 [(0, .ref r), (1, .int (nI f)), (2, .int (nI (wdF zq f))), (3, .int (nI (szF zq f))), (4, .int (bI ch2)), (5, .int (nI k))]) (fun jn93 => ?_) ?_
        · skip
          refine lv_iload hx hb dX11_findPieces_61 (lv_at hl 5 rfl) ?_
          refine lv_iload_n hx hb dX11_findPieces_63 rfl (lv_at hl 2 rfl) ?_
          refine mn_irem hB dX11_findPieces_64 (by omega) (by omega) (by omega) ?_
          refine lv_iload_n hx hb dX11_findPieces_65 rfl (lv_at hl 2 rfl) ?_
          refine lv_iconst (v := nI 1) hx hb dX11_findPieces_66 (by decide) ?_
          refine mn_isub hB dX11_findPieces_67 (by omega) ?_
          refine mn_icmp_ge (tgt := 89) hB dX11_findPieces_68 (by decide) (by omega) (by omega) (fun h_68 => ?_) (fun h_68 => ?_)
          · skip
            have h68 : ¬ k % wdF zq f + 1 < wdF zq f := by omega
            refine lv_iconst (v := nI 0) hx hb dX11_findPieces_89 (by decide) ?_
            refine lv_iload hx hb dX11_findPieces_90 (lv_at hl 4 rfl) ?_
            refine lv_ior hx hb dX11_findPieces_92 ?_
            refine mh_top (y := .int (bI ch2)) (by rw [or_b0]) ?_
            refine jn93 (po2, L2, ch2) _ _ _ ⟨(hP2), (fun z => ⟨hE2 z, fun _ y9 => absurd y9 (by omega)⟩), hR, hS, lv_sub hl [0, 1, 2, 3, 4, 5] rfl⟩
          · skip
            have h68 : k % wdF zq f + 1 < wdF zq f := by omega
            have hb68 := hbig h68
            refine lv_aload_n hx hb dX11_findPieces_71 rfl (lv_at hl 0 rfl) ?_
            refine lv_iload_n hx hb dX11_findPieces_72 rfl (lv_at hl 1 rfl) ?_
            refine lv_iload hx hb dX11_findPieces_73 (lv_at hl 5 rfl) ?_
            refine lv_iload hx hb dX11_findPieces_75 (lv_at hl 5 rfl) ?_
            refine lv_iconst (v := nI 1) hx hb dX11_findPieces_77 (by decide) ?_
            refine mn_iadd hB dX11_findPieces_78 ?_
            refine cl_X11_165 (As := [.int (nI f), .int (nI k), .int (nI (k + 1))]) (rest := []) hB (c_X11_isLinked l g H r zq zsp zrm zst zsl zsv ztx zln zth zsg zbg zwd zhg zin zop zbe zwi zhi zbk zot zer zen po2 zpi zgr zsh zsn f k (k + 1) (L2 k) (L2 (k + 1)) hR (hf) (hF) (by omega) (by omega) (hP2.1 k (by omega)) (hP2.1 (k + 1) (by omega)) (by have := (hP2.2.1 k (by omega)).1; omega) (by have := (hP2.2.1 (k + 1) (by omega)).1; omega)) hR.o rfl hl.1 (Nat.le_of_ble_eq_true rfl) dX11_findPieces_79 ⟨Nat.le_of_ble_eq_true rfl, Nat.le_of_ble_eq_true rfl⟩ ⟨Nat.le_of_ble_eq_true rfl, Nat.le_of_ble_eq_true rfl⟩ hS (by have hz9 := hS.1; rintro q (h | h) <;> first | exact Or.inr (by omega) | exact h.elim | exact Or.inl h | (simp only [ftA] at h ⊢; omega)) (fun v H1 locs hpo hfr hS => ?_)
            obtain ⟨rfl, hR⟩ := hpo
            generalize H1 = H at hfr hS hR ⊢
            refine W.widen (k := 0) (n := 0) (Nat.le_of_ble_eq_true rfl) (Nat.le_of_ble_eq_true rfl) ?_
            refine mb_if_eq (tgt := 89) hB dX11_findPieces_82 (by decide) (fun h_82 => ?_) (fun h_82 => ?_)
            · skip
              refine lv_iconst (v := nI 0) hx hb dX11_findPieces_89 (by decide) ?_
              refine lv_iload hx hb dX11_findPieces_90 (lv_at hl 4 rfl) ?_
              refine lv_ior hx hb dX11_findPieces_92 ?_
              refine mh_top (y := .int (bI ch2)) (by rw [or_b0]) ?_
              refine jn93 (lnkQ zq f k (k + 1) (L2 k) (L2 (k + 1)) po2, L2, ch2) _ _ _ ⟨(by rw [lnk_f h_82]; exact hP2), (fun z => ⟨hE2 z, fun e _ => lnk_fE h_82 e⟩), hR, hS, lv_sub hl [0, 1, 2, 3, 4, 5] rfl⟩
            · skip
              obtain ⟨L9, hP9⟩ := lnk_t hP2 hb68 (Or.inl ⟨h68, rfl⟩) hwp.1 h_82
              refine lv_iconst (v := nI 1) hx hb dX11_findPieces_85 (by decide) ?_
              refine lv_goto (tgt := 90) hx hb dX11_findPieces_86 (by decide) ?_
              refine lv_iload hx hb dX11_findPieces_90 (lv_at hl 4 rfl) ?_
              refine lv_ior hx hb dX11_findPieces_92 ?_
              refine mh_top (y := .int (bI true)) (by rw [or_b1]) ?_
              refine jn93 (lnkQ zq f k (k + 1) (L2 k) (L2 (k + 1)) po2, L9, true) _ _ _ ⟨(hP9), (fun z => absurd z (by decide)), hR, hS, lv_sub hl [0, 1, 2, 3, 4, 5] rfl⟩
        rintro ⟨po3, L3, ch3⟩ H locs ls ⟨hP3, hE3, hR, hS, hl⟩
        refine lv_istore (lv' := [(4, .int (bI ch3)), (0, .ref r), (1, .int (nI f)), (2, .int (nI (wdF zq f))), (3, .int (nI (szF zq f))), (5, .int (nI k))]) hx hb dX11_findPieces_93 hl (by decide) rfl (fun ls hl => ?_)
        refine mh_join (σ := (Nat → Int32) × (Nat → Nat) × Bool) 125 (fun xx9 => match xx9 with | (po4, L4, ch4) => [.int (bI ch4)]) (fun xx9 H locs ls => match xx9 with | (po4, L4, ch4) => PInv (wdF zq f) (szF zq f) (clF zq f) po4 L4 (sumL L1 (szF zq f)) ch4 ∧ (ch4 = false → ∀ x y, Edg (wdF zq f) (szF zq f) (clF zq f) x y → x < k + 1 → L4 x = L4 y) ∧ ModAt g r zq zsp zrm zst zsl zsv ztx zln zth zsg zbg zwd zhg zin zop zbe zwi zhi zbk zot zer zen po4 zpi zgr zsh zsn H ∧ va_S (ftA (fun q => r ≤ q ∧ q < r + 16) H0.size) H0 H locs ∧ lv_has ls 8 [(0, .ref r), (1, .int (nI f)), (2, .int (nI (wdF zq f))), (3, .int (nI (szF zq f))), (4, .int (bI ch3)), (5, .int (nI k))]) (fun jn125 => ?_) ?_
        · skip
          refine lv_iload hx hb dX11_findPieces_95 (lv_at hl 5 rfl) ?_
          refine lv_iload_n hx hb dX11_findPieces_97 rfl (lv_at hl 3 rfl) ?_
          refine mn_iadd hB dX11_findPieces_98 ?_
          refine lv_iload_n hx hb dX11_findPieces_99 rfl (lv_at hl 4 rfl) ?_
          refine mn_icmp_ge (tgt := 121) hB dX11_findPieces_100 (by decide) (by omega) (by omega) (fun h_100 => ?_) (fun h_100 => ?_)
          · skip
            refine lv_iconst (v := nI 0) hx hb dX11_findPieces_121 (by decide) ?_
            refine lv_iload hx hb dX11_findPieces_122 (lv_at hl 0 rfl) ?_
            refine lv_ior hx hb dX11_findPieces_124 ?_
            refine mh_top (y := .int (bI ch3)) (by rw [or_b0]) ?_
            refine jn125 (po3, L3, ch3) _ _ _ ⟨(hP3), (fun z => ed_s (hE3 z).1 (hE3 z).2 (fun e => absurd e.1 (by omega))), hR, hS, lv_sub hl [1, 2, 3, 4, 0, 5] rfl⟩
          · skip
            refine lv_aload_n hx hb dX11_findPieces_103 rfl (lv_at hl 1 rfl) ?_
            refine lv_iload_n hx hb dX11_findPieces_104 rfl (lv_at hl 2 rfl) ?_
            refine lv_iload hx hb dX11_findPieces_105 (lv_at hl 5 rfl) ?_
            refine lv_iload hx hb dX11_findPieces_107 (lv_at hl 5 rfl) ?_
            refine lv_iload_n hx hb dX11_findPieces_109 rfl (lv_at hl 3 rfl) ?_
            refine mn_iadd hB dX11_findPieces_110 ?_
            refine cl_X11_165 (As := [.int (nI f), .int (nI k), .int (nI (k + (wdF zq f)))]) (rest := []) hB (c_X11_isLinked l g H r zq zsp zrm zst zsl zsv ztx zln zth zsg zbg zwd zhg zin zop zbe zwi zhi zbk zot zer zen po3 zpi zgr zsh zsn f k (k + (wdF zq f)) (L3 k) (L3 (k + wdF zq f)) hR (hf) (hF) (by omega) (by omega) (hP3.1 k (by omega)) (hP3.1 (k + wdF zq f) (by omega)) (by have := (hP3.2.1 k (by omega)).1; omega) (by have := (hP3.2.1 (k + wdF zq f) (by omega)).1; omega)) hR.o rfl hl.1 (Nat.le_of_ble_eq_true rfl) dX11_findPieces_111 ⟨Nat.le_of_ble_eq_true rfl, Nat.le_of_ble_eq_true rfl⟩ ⟨Nat.le_of_ble_eq_true rfl, Nat.le_of_ble_eq_true rfl⟩ hS (by have hz9 := hS.1; rintro q (h | h) <;> first | exact Or.inr (by omega) | exact h.elim | exact Or.inl h | (simp only [ftA] at h ⊢; omega)) (fun v H1 locs hpo hfr hS => ?_)
            obtain ⟨rfl, hR⟩ := hpo
            generalize H1 = H at hfr hS hR ⊢
            refine W.widen (k := 0) (n := 0) (Nat.le_of_ble_eq_true rfl) (Nat.le_of_ble_eq_true rfl) ?_
            refine mb_if_eq (tgt := 121) hB dX11_findPieces_114 (by decide) (fun h_114 => ?_) (fun h_114 => ?_)
            · skip
              refine lv_iconst (v := nI 0) hx hb dX11_findPieces_121 (by decide) ?_
              refine lv_iload hx hb dX11_findPieces_122 (lv_at hl 0 rfl) ?_
              refine lv_ior hx hb dX11_findPieces_124 ?_
              refine mh_top (y := .int (bI ch3)) (by rw [or_b0]) ?_
              refine jn125 (lnkQ zq f k (k + wdF zq f) (L3 k) (L3 (k + wdF zq f)) po3, L3, ch3) _ _ _ ⟨(by rw [lnk_f h_114]; exact hP3), (fun z => ed_s (hE3 z).1 (hE3 z).2 (fun e => lnk_fE h_114 e)), hR, hS, lv_sub hl [1, 2, 3, 4, 0, 5] rfl⟩
            · skip
              obtain ⟨L9, hP9⟩ := lnk_t hP3 (by omega) (Or.inr rfl) hwp.1 h_114
              refine lv_iconst (v := nI 1) hx hb dX11_findPieces_117 (by decide) ?_
              refine lv_goto (tgt := 122) hx hb dX11_findPieces_118 (by decide) ?_
              refine lv_iload hx hb dX11_findPieces_122 (lv_at hl 0 rfl) ?_
              refine lv_ior hx hb dX11_findPieces_124 ?_
              refine mh_top (y := .int (bI true)) (by rw [or_b1]) ?_
              refine jn125 (lnkQ zq f k (k + wdF zq f) (L3 k) (L3 (k + wdF zq f)) po3, L9, true) _ _ _ ⟨(hP9), (fun z => absurd z (by decide)), hR, hS, lv_sub hl [1, 2, 3, 4, 0, 5] rfl⟩
        rintro ⟨po4, L4, ch4⟩ H locs ls ⟨hP4, hE4, hR, hS, hl⟩
        refine lv_istore (lv' := [(4, .int (bI ch4)), (0, .ref r), (1, .int (nI f)), (2, .int (nI (wdF zq f))), (3, .int (nI (szF zq f))), (5, .int (nI k))]) hx hb dX11_findPieces_125 hl (by decide) rfl (fun ls hl => ?_)
        refine lv_iinc (v := nI (k + 1)) (lv' := [(5, .int (nI (k + 1))), (4, .int (bI ch4)), (0, .ref r), (1, .int (nI f)), (2, .int (nI (wdF zq f))), (3, .int (nI (szF zq f)))]) hx hb dX11_findPieces_127 hl (k := 5) rfl (nI_1 _) (by decide) rfl (fun ls hl => ?_)
        refine lv_goto (tgt := 55) hx hb dX11_findPieces_130 (by decide) ?_
        refine ih55 (k + 1, po4, L4, ch4) _ _ _ ⟨(by omega), (hP4), (hE4), hR, hS, lv_sub hl [2, 3, 4, 5, 1, 0] rfl⟩ (by dsimp only; omega)
  · skip
    refine lv_aload_n hx hb dX11_findPieces_26 rfl (lv_at hl 0 rfl) ?_
    refine gf_X11_50 hB hR.o rfl dX11_findPieces_27 ?_
    refine lv_iload hx hb dX11_findPieces_30 (lv_at hl 4 rfl) ?_
    refine lv_iload hx hb dX11_findPieces_32 (lv_at hl 4 rfl) ?_
    refine mn_iast hB hR.a_zpo (by first | exact Or.inl rfl | (simp only [ftA]; omega) | (simp [ftA]; omega)) hS (by omega) (by omega) dX11_findPieces_34 (fun H locs hwr => ?_)
    obtain ⟨hR, hS⟩ := hR.w_zpo hwr
    refine lv_iinc (v := nI (i + 1)) (lv' := [(4, .int (nI (i + 1))), (0, .ref r), (1, .int (nI f)), (2, .int (nI (wdF zq f))), (3, .int (nI (szF zq f)))]) hx hb dX11_findPieces_35 hl (k := 4) rfl (nI_1 _) (by decide) rfl (fun ls hl => ?_)
    refine lv_goto (tgt := 20) hx hb dX11_findPieces_38 (by decide) ?_
    refine ih20 (i + 1, upd po i (nI i)) _ _ _ ⟨(by omega), (fun k hk => by by_cases e9 : k = i; (rw [e9]; exact upd_s (α := Nat)); (rw [upd_n e9]; exact hpo k (by omega))), hR, hS, lv_sub hl [1, 2, 3, 4, 0] rfl⟩ (by dsimp only; omega)

def rm_c_X11_frame_p : Room := { frames := 4, cells := 0, slots := 0, locals := 94 }
set_option maxRecDepth 100000 in
set_option maxHeartbeats 400000 in
theorem c_X11_frame_p (l : Launch) (g : GG) (H0 : Heap) (r : Nat) (zq : Nat → Int32) (zsp : Nat → Int32) (zrm : Nat → Int32) (zst : Int32) (zsl : Nat → Int32) (zsv : Nat → Int32) (ztx : Nat → Int32) (zln : Int32) (zth : Int32) (zsg : Nat → Int32) (zbg : Nat → Int32) (zwd : Nat → Int32) (zhg : Nat → Int32) (zin : Nat → Int32) (zop : Int32) (zbe : Int32) (zwi : Int32) (zhi : Int32) (zbk : Nat → Int32) (zot : Nat → Int32) (zer : Int32) (zen : Int32) (zpo : Nat → Int32) (zpi : Int32) (zgr : Int32) (zsh : Nat → Int32) (zsn : Int32) (f : Nat) (hR : ModAt g r zq zsp zrm zst zsl zsv ztx zln zth zsg zbg zwd zhg zin zop zbe zwi zhi zbk zot zer zen zpo zpi zgr zsh zsn H0) (hW : WF zq) (hf : f < 3) : Ct l yX11_frame cX11_frame 3 (some .int) rm_c_X11_frame_p g [.ref r, .int (nI f), .int (nI 5)] H0 (ftA (fun q => r ≤ q ∧ q < r + 16) H0.size) (fun v H1 => v = some (.int (nI (pcN (labC (wdF zq f) (szF zq f) (clF zq f)) (szF zq f) (szF zq f)))) ∧ ∃ (po2 : Nat → Int32), ModAt g r zq zsp zrm zst zsl zsv ztx zln (nI 0) zsg zbg zwd zhg zin zop zbe zwi zhi zbk zot zer zen po2 (nI (pcN (labC (wdF zq f) (szF zq f) (clF zq f)) (szF zq f) (szF zq f))) (nI (grN (labC (wdF zq f) (szF zq f) (clF zq f)) (szF zq f) (szF zq f))) zsh zsn H1) := by
  refine Ct.of (by decide) (fun _ h => Or.inr h) (Nat.le_of_ble_eq_true rfl) ?_
  intro p e s m below meth c ls hB hin hS hH hl
  have hx := hB.x
  have hb := hB.b
  have hl : lv_has ls 3 [(0, .ref r), (1, .int (nI f)), (2, .int (nI 5))] := hl
  refine lv_aload_n hx hb dX11_frame_0 rfl (lv_at hl 0 rfl) ?_
  refine lv_iconst (v := nI 0) hx hb dX11_frame_1 (by decide) ?_
  refine pf_X11_56 hB hR.o (by first | exact Or.inl rfl | (simp only [ftA]; omega) | (simp [ftA]; omega)) hS rfl rfl (Nat.le_of_ble_eq_true rfl) dX11_frame_2 (fun H locs hwr => ?_)
  obtain ⟨hR, hS⟩ := hR.w_zth hwr
  refine lv_iload_n hx hb dX11_frame_5 rfl (lv_at hl 1 rfl) ?_
  refine cl_X11_175 (As := [.int (nI f)]) (rest := []) hB (c_X11_isFrame l g H (nI f)) rfl hl.1 (Nat.le_of_ble_eq_true rfl) dX11_frame_6 ⟨Nat.le_of_ble_eq_true rfl, Nat.le_of_ble_eq_true rfl⟩ ⟨Nat.le_of_ble_eq_true rfl, Nat.le_of_ble_eq_true rfl⟩ hS (by have hz9 := hS.1; rintro q (h | h) <;> first | exact Or.inr (by omega) | exact h.elim | exact Or.inl h | (simp only [ftA] at h ⊢; omega)) (fun v H1 locs hpo hfr hS => ?_)
  obtain ⟨rfl, rfl⟩ := hpo
  refine W.widen (k := 0) (n := 0) (Nat.le_of_ble_eq_true rfl) (Nat.le_of_ble_eq_true rfl) ?_
  refine mb_if_ne (tgt := 18) hB dX11_frame_9 (by decide) (fun h_9 => ?_) (fun h => by rw [isIx_of hf (by omega)] at h; cases h)
  refine lv_iload_n hx hb dX11_frame_18 rfl (lv_at hl 2 rfl) ?_
  refine lv_i2l (v := (nI 5).toInt64) hx hb dX11_frame_19 rfl ?_
  refine lv_lconst (v := 0) hx hb dX11_frame_20 (by decide) ?_
  refine lv_ldc2 (v := (6)) hx hb hB.ow (hB.K.2 _ kw_1165 _) dX11_frame_21 ?_
  refine cl_X11_63 (As := [.long ((nI 5).toInt64), .long 0, .long (6)]) (rest := []) hB (c_X11_in l g H ((nI 5).toInt64) 0 (6)) rfl hl.1 (Nat.le_of_ble_eq_true rfl) dX11_frame_24 ⟨Nat.le_of_ble_eq_true rfl, Nat.le_of_ble_eq_true rfl⟩ ⟨Nat.le_of_ble_eq_true rfl, Nat.le_of_ble_eq_true rfl⟩ hS (by have hz9 := hS.1; rintro q (h | h) <;> first | exact Or.inr (by omega) | exact h.elim | exact Or.inl h | (simp only [ftA] at h ⊢; omega)) (fun v H1 locs hpo hfr hS => ?_)
  obtain ⟨rfl, rfl⟩ := hpo
  refine W.widen (k := 0) (n := 0) (Nat.le_of_ble_eq_true rfl) (Nat.le_of_ble_eq_true rfl) ?_
  refine mh_top (y := .int (bI (isIx (nI 5) 7))) (by rw [inL_ix _ 7 _ (by decide +kernel)]) ?_
  refine mb_if_ne (tgt := 36) hB dX11_frame_27 (by decide) (fun h_27 => ?_) (fun h => by rw [isIx_of (show 5 < 7 by omega) (by omega)] at h; cases h)
  refine lv_iload_n hx hb dX11_frame_36 rfl (lv_at hl 2 rfl) ?_
  refine lv_iconst (v := nI 3) hx hb dX11_frame_37 (by decide) ?_
  refine mn_icmp_ge (tgt := 52) hB dX11_frame_38 (by decide) (by omega) (by omega) (fun h_38 => ?_) (fun h => by exfalso; omega)
  refine lv_iload_n hx hb dX11_frame_52 rfl (lv_at hl 2 rfl) ?_
  refine lv_iconst (v := nI 4) hx hb dX11_frame_53 (by decide) ?_
  refine mn_icmp_le (tgt := 62) hB dX11_frame_54 (by decide) (by omega) (by omega) (fun h => by exfalso; omega) (fun h_54 => ?_)
  refine lv_aload_n hx hb dX11_frame_57 rfl (lv_at hl 0 rfl) ?_
  refine lv_iload_n hx hb dX11_frame_58 rfl (lv_at hl 1 rfl) ?_
  refine cl_X11_180 (As := [.int (nI f)]) (rest := []) hB (c_X11_findPieces l g H r zq zsp zrm zst zsl zsv ztx zln (nI 0) zsg zbg zwd zhg zin zop zbe zwi zhi zbk zot zer zen zpo zpi zgr zsh zsn f hR (hf) (hW.fr hf)) hR.o rfl hl.1 (Nat.le_of_ble_eq_true rfl) dX11_frame_59 ⟨Nat.le_of_ble_eq_true rfl, Nat.le_of_ble_eq_true rfl⟩ ⟨Nat.le_of_ble_eq_true rfl, Nat.le_of_ble_eq_true rfl⟩ hS (by have hz9 := hS.1; rintro q (h | h) <;> first | exact Or.inr (by omega) | exact h.elim | exact Or.inl h | (simp only [ftA] at h ⊢; omega)) (fun v H1 locs hpo hfr hS => ?_)
  obtain ⟨rfl, po2_1, hR⟩ := hpo
  generalize H1 = H at hfr hS hR ⊢
  refine W.widen (k := 0) (n := 0) (Nat.le_of_ble_eq_true rfl) (Nat.le_of_ble_eq_true rfl) ?_
  refine lv_iload_n hx hb dX11_frame_62 rfl (lv_at hl 2 rfl) ?_
  refine lv_iconst (v := nI 3) hx hb dX11_frame_63 (by decide) ?_
  refine mn_icmp_ne (tgt := 75) hB dX11_frame_64 (by decide) (by omega) (by omega) (fun h_64 => ?_) (fun h => by exfalso; omega)
  refine lv_iload_n hx hb dX11_frame_75 rfl (lv_at hl 2 rfl) ?_
  refine lv_iconst (v := nI 4) hx hb dX11_frame_76 (by decide) ?_
  refine mn_icmp_ne (tgt := 88) hB dX11_frame_77 (by decide) (by omega) (by omega) (fun h_77 => ?_) (fun h => by exfalso; omega)
  refine lv_iload_n hx hb dX11_frame_88 rfl (lv_at hl 2 rfl) ?_
  refine lv_iconst (v := nI 5) hx hb dX11_frame_89 (by decide) ?_
  refine mn_icmp_ne (tgt := 100) hB dX11_frame_90 (by decide) (by omega) (by omega) (fun h => by exfalso; omega) (fun h_90 => ?_)
  refine lv_aload_n hx hb dX11_frame_93 rfl (lv_at hl 0 rfl) ?_
  refine gf_X11_169 hB hR.o rfl dX11_frame_94 ?_
  refine lv_goto (tgt := 104) hx hb dX11_frame_97 (by decide) ?_
  refine mh_iret hB ⟨Nat.le_of_ble_eq_true rfl, Nat.le_of_ble_eq_true rfl⟩ hS dX11_frame_104 ⟨?_, po2_1, ?_⟩
  · rfl
  · exact hR

def rm_c_X11_frame_g : Room := { frames := 4, cells := 0, slots := 0, locals := 94 }
set_option maxRecDepth 100000 in
set_option maxHeartbeats 400000 in
theorem c_X11_frame_g (l : Launch) (g : GG) (H0 : Heap) (r : Nat) (zq : Nat → Int32) (zsp : Nat → Int32) (zrm : Nat → Int32) (zst : Int32) (zsl : Nat → Int32) (zsv : Nat → Int32) (ztx : Nat → Int32) (zln : Int32) (zth : Int32) (zsg : Nat → Int32) (zbg : Nat → Int32) (zwd : Nat → Int32) (zhg : Nat → Int32) (zin : Nat → Int32) (zop : Int32) (zbe : Int32) (zwi : Int32) (zhi : Int32) (zbk : Nat → Int32) (zot : Nat → Int32) (zer : Int32) (zen : Int32) (zpo : Nat → Int32) (zpi : Int32) (zgr : Int32) (zsh : Nat → Int32) (zsn : Int32) (f : Nat) (hR : ModAt g r zq zsp zrm zst zsl zsv ztx zln zth zsg zbg zwd zhg zin zop zbe zwi zhi zbk zot zer zen zpo zpi zgr zsh zsn H0) (hW : WF zq) (hf : f < 3) : Ct l yX11_frame cX11_frame 3 (some .int) rm_c_X11_frame_g g [.ref r, .int (nI f), .int (nI 6)] H0 (ftA (fun q => r ≤ q ∧ q < r + 16) H0.size) (fun v H1 => v = some (.int (nI (grN (labC (wdF zq f) (szF zq f) (clF zq f)) (szF zq f) (szF zq f)))) ∧ ∃ (po2 : Nat → Int32), ModAt g r zq zsp zrm zst zsl zsv ztx zln (nI 0) zsg zbg zwd zhg zin zop zbe zwi zhi zbk zot zer zen po2 (nI (pcN (labC (wdF zq f) (szF zq f) (clF zq f)) (szF zq f) (szF zq f))) (nI (grN (labC (wdF zq f) (szF zq f) (clF zq f)) (szF zq f) (szF zq f))) zsh zsn H1) := by
  refine Ct.of (by decide) (fun _ h => Or.inr h) (Nat.le_of_ble_eq_true rfl) ?_
  intro p e s m below meth c ls hB hin hS hH hl
  have hx := hB.x
  have hb := hB.b
  have hl : lv_has ls 3 [(0, .ref r), (1, .int (nI f)), (2, .int (nI 6))] := hl
  refine lv_aload_n hx hb dX11_frame_0 rfl (lv_at hl 0 rfl) ?_
  refine lv_iconst (v := nI 0) hx hb dX11_frame_1 (by decide) ?_
  refine pf_X11_56 hB hR.o (by first | exact Or.inl rfl | (simp only [ftA]; omega) | (simp [ftA]; omega)) hS rfl rfl (Nat.le_of_ble_eq_true rfl) dX11_frame_2 (fun H locs hwr => ?_)
  obtain ⟨hR, hS⟩ := hR.w_zth hwr
  refine lv_iload_n hx hb dX11_frame_5 rfl (lv_at hl 1 rfl) ?_
  refine cl_X11_175 (As := [.int (nI f)]) (rest := []) hB (c_X11_isFrame l g H (nI f)) rfl hl.1 (Nat.le_of_ble_eq_true rfl) dX11_frame_6 ⟨Nat.le_of_ble_eq_true rfl, Nat.le_of_ble_eq_true rfl⟩ ⟨Nat.le_of_ble_eq_true rfl, Nat.le_of_ble_eq_true rfl⟩ hS (by have hz9 := hS.1; rintro q (h | h) <;> first | exact Or.inr (by omega) | exact h.elim | exact Or.inl h | (simp only [ftA] at h ⊢; omega)) (fun v H1 locs hpo hfr hS => ?_)
  obtain ⟨rfl, rfl⟩ := hpo
  refine W.widen (k := 0) (n := 0) (Nat.le_of_ble_eq_true rfl) (Nat.le_of_ble_eq_true rfl) ?_
  refine mb_if_ne (tgt := 18) hB dX11_frame_9 (by decide) (fun h_9 => ?_) (fun h => by rw [isIx_of hf (by omega)] at h; cases h)
  refine lv_iload_n hx hb dX11_frame_18 rfl (lv_at hl 2 rfl) ?_
  refine lv_i2l (v := (nI 6).toInt64) hx hb dX11_frame_19 rfl ?_
  refine lv_lconst (v := 0) hx hb dX11_frame_20 (by decide) ?_
  refine lv_ldc2 (v := (6)) hx hb hB.ow (hB.K.2 _ kw_1165 _) dX11_frame_21 ?_
  refine cl_X11_63 (As := [.long ((nI 6).toInt64), .long 0, .long (6)]) (rest := []) hB (c_X11_in l g H ((nI 6).toInt64) 0 (6)) rfl hl.1 (Nat.le_of_ble_eq_true rfl) dX11_frame_24 ⟨Nat.le_of_ble_eq_true rfl, Nat.le_of_ble_eq_true rfl⟩ ⟨Nat.le_of_ble_eq_true rfl, Nat.le_of_ble_eq_true rfl⟩ hS (by have hz9 := hS.1; rintro q (h | h) <;> first | exact Or.inr (by omega) | exact h.elim | exact Or.inl h | (simp only [ftA] at h ⊢; omega)) (fun v H1 locs hpo hfr hS => ?_)
  obtain ⟨rfl, rfl⟩ := hpo
  refine W.widen (k := 0) (n := 0) (Nat.le_of_ble_eq_true rfl) (Nat.le_of_ble_eq_true rfl) ?_
  refine mh_top (y := .int (bI (isIx (nI 6) 7))) (by rw [inL_ix _ 7 _ (by decide +kernel)]) ?_
  refine mb_if_ne (tgt := 36) hB dX11_frame_27 (by decide) (fun h_27 => ?_) (fun h => by rw [isIx_of (show 6 < 7 by omega) (by omega)] at h; cases h)
  refine lv_iload_n hx hb dX11_frame_36 rfl (lv_at hl 2 rfl) ?_
  refine lv_iconst (v := nI 3) hx hb dX11_frame_37 (by decide) ?_
  refine mn_icmp_ge (tgt := 52) hB dX11_frame_38 (by decide) (by omega) (by omega) (fun h_38 => ?_) (fun h => by exfalso; omega)
  refine lv_iload_n hx hb dX11_frame_52 rfl (lv_at hl 2 rfl) ?_
  refine lv_iconst (v := nI 4) hx hb dX11_frame_53 (by decide) ?_
  refine mn_icmp_le (tgt := 62) hB dX11_frame_54 (by decide) (by omega) (by omega) (fun h => by exfalso; omega) (fun h_54 => ?_)
  refine lv_aload_n hx hb dX11_frame_57 rfl (lv_at hl 0 rfl) ?_
  refine lv_iload_n hx hb dX11_frame_58 rfl (lv_at hl 1 rfl) ?_
  refine cl_X11_180 (As := [.int (nI f)]) (rest := []) hB (c_X11_findPieces l g H r zq zsp zrm zst zsl zsv ztx zln (nI 0) zsg zbg zwd zhg zin zop zbe zwi zhi zbk zot zer zen zpo zpi zgr zsh zsn f hR (hf) (hW.fr hf)) hR.o rfl hl.1 (Nat.le_of_ble_eq_true rfl) dX11_frame_59 ⟨Nat.le_of_ble_eq_true rfl, Nat.le_of_ble_eq_true rfl⟩ ⟨Nat.le_of_ble_eq_true rfl, Nat.le_of_ble_eq_true rfl⟩ hS (by have hz9 := hS.1; rintro q (h | h) <;> first | exact Or.inr (by omega) | exact h.elim | exact Or.inl h | (simp only [ftA] at h ⊢; omega)) (fun v H1 locs hpo hfr hS => ?_)
  obtain ⟨rfl, po2_1, hR⟩ := hpo
  generalize H1 = H at hfr hS hR ⊢
  refine W.widen (k := 0) (n := 0) (Nat.le_of_ble_eq_true rfl) (Nat.le_of_ble_eq_true rfl) ?_
  refine lv_iload_n hx hb dX11_frame_62 rfl (lv_at hl 2 rfl) ?_
  refine lv_iconst (v := nI 3) hx hb dX11_frame_63 (by decide) ?_
  refine mn_icmp_ne (tgt := 75) hB dX11_frame_64 (by decide) (by omega) (by omega) (fun h_64 => ?_) (fun h => by exfalso; omega)
  refine lv_iload_n hx hb dX11_frame_75 rfl (lv_at hl 2 rfl) ?_
  refine lv_iconst (v := nI 4) hx hb dX11_frame_76 (by decide) ?_
  refine mn_icmp_ne (tgt := 88) hB dX11_frame_77 (by decide) (by omega) (by omega) (fun h_77 => ?_) (fun h => by exfalso; omega)
  refine lv_iload_n hx hb dX11_frame_88 rfl (lv_at hl 2 rfl) ?_
  refine lv_iconst (v := nI 5) hx hb dX11_frame_89 (by decide) ?_
  refine mn_icmp_ne (tgt := 100) hB dX11_frame_90 (by decide) (by omega) (by omega) (fun h_90 => ?_) (fun h => by exfalso; omega)
  refine lv_aload_n hx hb dX11_frame_100 rfl (lv_at hl 0 rfl) ?_
  refine gf_X11_172 hB hR.o rfl dX11_frame_101 ?_
  refine mh_iret hB ⟨Nat.le_of_ble_eq_true rfl, Nat.le_of_ble_eq_true rfl⟩ hS dX11_frame_104 ⟨?_, po2_1, ?_⟩
  · rfl
  · exact hR
