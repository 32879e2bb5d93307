def rm_c_X11_joins_u : Room := { frames := 0, cells := 0, slots := 0, locals := 0 }
set_option maxRecDepth 100000 in
set_option maxHeartbeats 400000 in
theorem c_X11_joins_u (l : Launch) (g : GG) (H0 : Heap) (r : Nat) (zq : Nat → Int32) (zsp : Nat → Int32) (zrm : Nat → Int32) (zst : Int32) (zsl : Nat → Int32) (zsv : Nat → Int32) (ztx : Nat → Int32) (zln : Int32) (zth : Int32) (zsg : Nat → Int32) (zbg : Nat → Int32) (zwd : Nat → Int32) (zhg : Nat → Int32) (zin : Nat → Int32) (zbe : Int32) (zbk : Nat → Int32) (zot : Nat → Int32) (zer : Int32) (zen : Int32) (zpo : Nat → Int32) (zpi : Int32) (zgr : Int32) (zsh : Nat → Int32) (zsn : Int32) (n : Nat) (s1 : Nat) (p1 : Nat) (w1 : Nat) (h1 : Nat) (c1 : Nat → Nat) (w0 : Nat) (h0 : Nat) (b0 : Nat → Nat) (hR : ModAt g r zq zsp zrm zst zsl zsv ztx zln zth zsg zbg zwd zhg zin (nI n) zbe (nI w0) (nI h0) zbk zot zer zen zpo zpi zgr zsh zsn H0) (hn1 : 0 < n) (hn : n ≤ 60) (hs9 : zsg (n - 1) = nI s1) (hs1 : s1 < 256) (hw9 : zwd (n - 1) = nI w1) (hh9 : zhg (n - 1) = nI h1) (hw1 : w1 ≤ 16) (hh1 : h1 ≤ 16) (hz1 : w1 = 0 → h1 = 0) (hw0 : w0 ≤ 16) (hh0 : h0 ≤ 16) (hc9 : ∀ k, k < w1 * h1 → zin (256 * (n - 1) + k) = nI (c1 k) ∧ c1 k < 6) (hb9 : ∀ k, k < w0 * h0 → zbk k = nI (b0 k) ∧ b0 k < 6) : Ct l yX11_joins cX11_joins 11 (some .boolean) rm_c_X11_joins_u g [.ref r] H0 (ftA (fun q => r ≤ q ∧ q < r + 16) H0.size) (fun v H1 => v = some (.int (bI ((joinS (s1, p1, w1, h1, c1) (w0, h0, b0)).isSome))) ∧ ∃ (wd2 : Nat → Int32), ∃ (hg2 : Nat → Int32), ∃ (in2 : Nat → Int32), ∃ (ot2 : Nat → Int32), ModAt g r zq zsp zrm zst zsl zsv ztx zln zth zsg zbg wd2 hg2 in2 (nI n) zbe (nI w0) (nI h0) zbk ot2 zer zen zpo zpi zgr zsh zsn H1 ∧ (∀ it2, joinS (s1, p1, w1, h1, c1) (w0, h0, b0) = some it2 → (∀ j, j < n - 1 → wd2 j = zwd j ∧ hg2 j = zhg j) ∧ (∀ j, j < 256 * (n - 1) → in2 j = zin j) ∧ wd2 (n - 1) = nI it2.2.2.1 ∧ hg2 (n - 1) = nI it2.2.2.2.1 ∧ ∀ k, k < it2.2.2.1 * it2.2.2.2.1 → in2 (256 * (n - 1) + k) = nI (it2.2.2.2.2 k) ∧ it2.2.2.2.2 k < 6)) := by
  refine Ct.of (by decide) (fun _ h => Or.inr h) (Nat.le_of_ble_eq_true rfl) ?_
  intro p e s m below meth c ls hB hin hS hH hl
  have hx := hB.x
  have hb := hB.b
  have hl : lv_has ls 11 [(0, .ref r)] := hl
  refine lv_aload_n hx hb dX11_joins_0 rfl (lv_at hl 0 rfl) ?_
  refine gf_X11_87 hB hR.o rfl dX11_joins_1 ?_
  refine lv_iconst (v := nI 1) hx hb dX11_joins_4 (by decide) ?_
  refine mn_isub hB dX11_joins_5 (by omega) ?_
  refine lv_istore_n (lv' := [(1, .int (nI (n - 1))), (0, .ref r)]) hx hb dX11_joins_6 rfl hl (by decide) rfl (fun ls hl => ?_)
  refine lv_aload_n hx hb dX11_joins_7 rfl (lv_at hl 1 rfl) ?_
  refine gf_X11_29 hB hR.o rfl dX11_joins_8 ?_
  refine lv_iload_n hx hb dX11_joins_11 rfl (lv_at hl 0 rfl) ?_
  refine mn_iald hB hR.a_zsg (by omega) (by omega) dX11_joins_12 ?_
  refine mh_top (y := .int (nI s1)) (by rw [hs9]) ?_
  refine lv_bipush (v := nI 40) hx hb dX11_joins_13 (by decide) ?_
  refine mn_icmp_ne (tgt := 22) hB dX11_joins_15 (by decide) (by omega) (by omega) (fun h_15 => ?_) (fun h_15 => ?_)
  · skip
    refine lv_iconst (v := nI 0) hx hb dX11_joins_22 (by decide) ?_
    refine lv_istore_n (lv' := [(2, .int (nI 0)), (1, .int (nI (n - 1))), (0, .ref r)]) hx hb dX11_joins_23 rfl hl (by decide) rfl (fun ls hl => ?_)
    refine lv_iload_n hx hb dX11_joins_24 rfl (lv_at hl 0 rfl) ?_
    refine mn_if_eq (tgt := 42) hB dX11_joins_25 (by decide) (by omega) (fun h_25 => ?_) (fun h => by exfalso; omega)
    refine lv_aload_n hx hb dX11_joins_42 rfl (lv_at hl 2 rfl) ?_
    refine gf_X11_90 hB hR.o rfl dX11_joins_43 ?_
    refine lv_istore_n (lv' := [(3, .int (nI w0)), (2, .int (nI 0)), (1, .int (nI (n - 1))), (0, .ref r)]) hx hb dX11_joins_46 rfl hl (by decide) rfl (fun ls hl => ?_)
    refine lv_iload_n hx hb dX11_joins_47 rfl (lv_at hl 1 rfl) ?_
    refine mn_if_eq (tgt := 58) hB dX11_joins_48 (by decide) (by omega) (fun h_48 => ?_) (fun h => by exfalso; omega)
    refine lv_aload_n hx hb dX11_joins_58 rfl (lv_at hl 3 rfl) ?_
    refine gf_X11_38 hB hR.o rfl dX11_joins_59 ?_
    refine lv_iload_n hx hb dX11_joins_62 rfl (lv_at hl 2 rfl) ?_
    refine mn_iald hB hR.a_zhg (by omega) (by omega) dX11_joins_63 ?_
    refine mh_top (y := .int (nI h1)) (by rw [hh9]) ?_
    refine lv_aload_n hx hb dX11_joins_64 rfl (lv_at hl 3 rfl) ?_
    refine gf_X11_93 hB hR.o rfl dX11_joins_65 ?_
    refine mn_iadd hB dX11_joins_68 ?_
    refine lv_istore (lv' := [(4, .int (nI (h1 + h0))), (3, .int (nI w0)), (2, .int (nI 0)), (1, .int (nI (n - 1))), (0, .ref r)]) hx hb dX11_joins_69 hl (by decide) rfl (fun ls hl => ?_)
    refine lv_aload_n hx hb dX11_joins_71 rfl (lv_at hl 4 rfl) ?_
    refine gf_X11_35 hB hR.o rfl dX11_joins_72 ?_
    refine lv_iload_n hx hb dX11_joins_75 rfl (lv_at hl 3 rfl) ?_
    refine mn_iald hB hR.a_zwd (by omega) (by omega) dX11_joins_76 ?_
    refine mh_top (y := .int (nI w1)) (by rw [hw9]) ?_
    refine mn_if_le (tgt := 117) hB dX11_joins_77 (by decide) (by omega) (fun h_77 => ?_) (fun h_77 => ?_)
    · skip
      refine lv_iconst (v := nI 0) hx hb dX11_joins_117 (by decide) ?_
      refine lv_istore (lv' := [(5, .int (nI 0)), (4, .int (nI (h1 + h0))), (3, .int (nI w0)), (2, .int (nI 0)), (1, .int (nI (n - 1))), (0, .ref r)]) hx hb dX11_joins_118 hl (by decide) rfl (fun ls hl => ?_)
      refine lv_iload hx hb dX11_joins_120 (lv_at hl 0 rfl) ?_
      refine mn_if_ne (tgt := 138) hB dX11_joins_122 (by decide) (by omega) (fun h => by exfalso; omega) (fun h_122 => ?_)
      refine lv_iload_n hx hb dX11_joins_125 rfl (lv_at hl 2 rfl) ?_
      refine lv_bipush (v := nI 16) hx hb dX11_joins_126 (by decide) ?_
      refine mn_icmp_gt (tgt := 138) hB dX11_joins_128 (by decide) (by omega) (by omega) (fun h_128 => ?_) (fun h_128 => ?_)
      · skip
        refine lv_iconst (v := nI 0) hx hb dX11_joins_138 (by decide) ?_
        refine mh_zret hB ⟨Nat.le_of_ble_eq_true rfl, Nat.le_of_ble_eq_true rfl⟩ hS dX11_joins_139 (by first | rfl | decide | (split <;> rfl)) ⟨?_, zwd, zhg, zin, zot, ?_, ?_⟩
        · have e9 : joinS (s1, p1, w1, h1, c1) (w0, h0, b0) = none := by unfold joinS; dsimp only; first | rw [if_pos (by omega), if_neg (by omega)] | rw [if_neg (by omega), if_neg (by omega)]
          rw [e9]; rfl
        · exact hR
        · have e9 : joinS (s1, p1, w1, h1, c1) (w0, h0, b0) = none := by unfold joinS; dsimp only; first | rw [if_pos (by omega), if_neg (by omega)] | rw [if_neg (by omega), if_neg (by omega)]
          intro it2 hi2
          rw [e9] at hi2
          cases hi2
      · skip
        refine lv_iload hx hb dX11_joins_131 (lv_at hl 1 rfl) ?_
        refine lv_bipush (v := nI 16) hx hb dX11_joins_133 (by decide) ?_
        refine mn_icmp_le (tgt := 140) hB dX11_joins_135 (by decide) (by omega) (by omega) (fun h_135 => ?_) (fun h_135 => ?_)
        · skip
          refine lv_sipush (v := nI 256) hx hb dX11_joins_140 (by decide +kernel) ?_
          have hsz9 : (w1 + w0) * h0 ≤ 256 ∨ ¬ s1 = 40 := by first | exact Or.inl (sz256 (by omega) (by omega)) | exact Or.inr (by omega)
          have hsz8 : w0 * (h1 + h0) ≤ 256 ∨ s1 = 40 := by first | exact Or.inl (sz256 (by omega) (by omega)) | exact Or.inr (by omega)
          refine lv_iload_n hx hb dX11_joins_143 rfl (lv_at hl 4 rfl) ?_
          refine mn_imul hB dX11_joins_144 ?_
          refine lv_istore (lv' := [(6, .int (nI (256 * (n - 1)))), (5, .int (nI 0)), (4, .int (nI (h1 + h0))), (3, .int (nI w0)), (2, .int (nI 0)), (1, .int (nI (n - 1))), (0, .ref r)]) hx hb dX11_joins_145 hl (by decide) rfl (fun ls hl => ?_)
          refine lv_iconst (v := nI 0) hx hb dX11_joins_147 (by decide) ?_
          refine lv_istore (lv' := [(7, .int (nI 0)), (6, .int (nI (256 * (n - 1)))), (5, .int (nI 0)), (4, .int (nI (h1 + h0))), (3, .int (nI w0)), (2, .int (nI 0)), (1, .int (nI (n - 1))), (0, .ref r)]) hx hb dX11_joins_148 hl (by decide) rfl (fun ls hl => ?_)
          refine mh_loop (σ := Nat) (fun xx9 H locs ls => match xx9 with | k9 => k9 ≤ w0 * (h1 + h0) ∧ ModAt g r zq zsp zrm zst zsl zsv ztx zln zth zsg zbg zwd zhg zin (nI n) zbe (nI w0) (nI h0) zbk (lowOf (joB w1 h1 w0 (fun j9 => zin (256 * (n - 1) + j9)) zbk) zot k9) zer zen zpo zpi zgr zsh zsn H ∧ va_S (ftA (fun q => r ≤ q ∧ q < r + 16) H0.size) H0 H locs ∧ lv_has ls 11 [(0, .ref r), (1, .int (nI (n - 1))), (2, .int (nI 0)), (3, .int (nI w0)), (4, .int (nI (h1 + h0))), (5, .int (nI 0)), (6, .int (nI (256 * (n - 1)))), (7, .int (nI k9))]) (fun xx9 => match xx9 with | k9 => w0 * (h1 + h0) - k9) ?_ 0 ⟨(by omega), (by rw [lowOf_0]; exact hR), hS, lv_sub hl [7, 6, 5, 4, 3, 2, 1, 0] rfl⟩
          rintro k9 H locs ls ⟨hk9, hR, hS, hl⟩ ih
          have ih150 := ih
          refine lv_iload hx hb dX11_joins_150 (lv_at hl 7 rfl) ?_
          refine lv_iload_n hx hb dX11_joins_152 rfl (lv_at hl 3 rfl) ?_
          refine lv_iload hx hb dX11_joins_153 (lv_at hl 4 rfl) ?_
          refine mn_imul hB dX11_joins_155 ?_
          refine mn_icmp_ge (tgt := 304) hB dX11_joins_156 (by decide) (by omega) (by omega) (fun h_156 => ?_) (fun h_156 => ?_)
          · skip
            have hin9 : k9 = w0 * (h1 + h0) := by omega
            subst hin9
            refine lv_iconst (v := nI 0) hx hb dX11_joins_304 (by decide) ?_
            refine lv_istore (lv' := [(7, .int (nI 0)), (0, .ref r), (1, .int (nI (n - 1))), (2, .int (nI 0)), (3, .int (nI w0)), (4, .int (nI (h1 + h0))), (5, .int (nI 0)), (6, .int (nI (256 * (n - 1))))]) hx hb dX11_joins_305 hl (by decide) rfl (fun ls hl => ?_)
            refine mh_loop (σ := Nat) (fun xx9 H locs ls => match xx9 with | k8 => k8 ≤ w0 * (h1 + h0) ∧ ModAt g r zq zsp zrm zst zsl zsv ztx zln zth zsg zbg zwd zhg (layI zin (256 * (n - 1)) (joB w1 h1 w0 (fun j9 => zin (256 * (n - 1) + j9)) zbk) k8) (nI n) zbe (nI w0) (nI h0) zbk (lowOf (joB w1 h1 w0 (fun j9 => zin (256 * (n - 1) + j9)) zbk) zot (w0 * (h1 + h0))) zer zen zpo zpi zgr zsh zsn H ∧ va_S (ftA (fun q => r ≤ q ∧ q < r + 16) H0.size) H0 H locs ∧ lv_has ls 11 [(0, .ref r), (1, .int (nI (n - 1))), (2, .int (nI 0)), (3, .int (nI w0)), (4, .int (nI (h1 + h0))), (5, .int (nI 0)), (6, .int (nI (256 * (n - 1)))), (7, .int (nI k8))]) (fun xx9 => match xx9 with | k8 => w0 * (h1 + h0) - k8) ?_ 0 ⟨(by omega), (by rw [layI_0]; exact hR), hS, lv_sub hl [1, 2, 3, 4, 5, 6, 7, 0] rfl⟩
            rintro k8 H locs ls ⟨hk8, hR, hS, hl⟩ ih
            have ih307 := ih
            refine lv_iload hx hb dX11_joins_307 (lv_at hl 7 rfl) ?_
            refine lv_iload_n hx hb dX11_joins_309 rfl (lv_at hl 3 rfl) ?_
            refine lv_iload hx hb dX11_joins_310 (lv_at hl 4 rfl) ?_
            refine mn_imul hB dX11_joins_312 ?_
            refine mn_icmp_ge (tgt := 339) hB dX11_joins_313 (by decide) (by omega) (by omega) (fun h_313 => ?_) (fun h_313 => ?_)
            · skip
              have hin9 : k8 = w0 * (h1 + h0) := by omega
              subst hin9
              refine lv_aload_n hx hb dX11_joins_339 rfl (lv_at hl 0 rfl) ?_
              refine gf_X11_35 hB hR.o rfl dX11_joins_340 ?_
              refine lv_iload_n hx hb dX11_joins_343 rfl (lv_at hl 1 rfl) ?_
              refine lv_iload_n hx hb dX11_joins_344 rfl (lv_at hl 3 rfl) ?_
              refine mn_iast hB hR.a_zwd (by first | exact Or.inl rfl | (simp only [ftA]; omega) | (simp [ftA]; omega)) hS (by omega) (by omega) dX11_joins_345 (fun H locs hwr => ?_)
              obtain ⟨hR, hS⟩ := hR.w_zwd hwr
              refine lv_aload_n hx hb dX11_joins_346 rfl (lv_at hl 0 rfl) ?_
              refine gf_X11_38 hB hR.o rfl dX11_joins_347 ?_
              refine lv_iload_n hx hb dX11_joins_350 rfl (lv_at hl 1 rfl) ?_
              refine lv_iload hx hb dX11_joins_351 (lv_at hl 4 rfl) ?_
              refine mn_iast hB hR.a_zhg (by first | exact Or.inl rfl | (simp only [ftA]; omega) | (simp [ftA]; omega)) hS (by omega) (by omega) dX11_joins_353 (fun H locs hwr => ?_)
              obtain ⟨hR, hS⟩ := hR.w_zhg hwr
              refine lv_iconst (v := nI 1) hx hb dX11_joins_354 (by decide) ?_
              refine mh_zret hB ⟨Nat.le_of_ble_eq_true rfl, Nat.le_of_ble_eq_true rfl⟩ hS dX11_joins_355 (by first | rfl | decide | (split <;> rfl)) ⟨?_, (upd zwd (n - 1) (nI w0)), (upd zhg (n - 1) (nI (h1 + h0))), (layI zin (256 * (n - 1)) (joB w1 h1 w0 (fun j9 => zin (256 * (n - 1) + j9)) zbk) (w0 * (h1 + h0))), (lowOf (joB w1 h1 w0 (fun j9 => zin (256 * (n - 1) + j9)) zbk) zot (w0 * (h1 + h0))), ?_, ?_⟩
              · have e9 : joinS (s1, p1, w1, h1, c1) (w0, h0, b0) = some (s1, p1, w0, h1 + h0, joB w1 h1 w0 c1 b0) := by unfold joinS; dsimp only; rw [if_neg (by omega), if_pos (by omega)]
                rw [e9]; rfl
              · exact hR
              · have e9 : joinS (s1, p1, w1, h1, c1) (w0, h0, b0) = some (s1, p1, w0, h1 + h0, joB w1 h1 w0 c1 b0) := by unfold joinS; dsimp only; rw [if_neg (by omega), if_pos (by omega)]
                intro it2 hi2
                rw [e9] at hi2
                cases hi2
                refine ⟨fun j hj => ⟨upd_n (by omega), upd_n (by omega)⟩, fun j hj => layI_out hj, upd_s (α := Nat), upd_s (α := Nat), fun k hk => ?_⟩
                have h9 := joB_ok (c := fun j9 => zin (256 * (n - 1) + j9)) hc9 hb9 hz1 (by omega) hk
                exact ⟨(layI_in hk).trans h9.1, h9.2⟩
            · skip
              refine lv_aload_n hx hb dX11_joins_316 rfl (lv_at hl 0 rfl) ?_
              refine gf_X11_41 hB hR.o rfl dX11_joins_317 ?_
              refine lv_iload hx hb dX11_joins_320 (lv_at hl 6 rfl) ?_
              refine lv_iload hx hb dX11_joins_322 (lv_at hl 7 rfl) ?_
              refine mn_iadd hB dX11_joins_324 ?_
              refine lv_aload_n hx hb dX11_joins_325 rfl (lv_at hl 0 rfl) ?_
              refine gf_X11_47 hB hR.o rfl dX11_joins_326 ?_
              refine lv_iload hx hb dX11_joins_329 (lv_at hl 7 rfl) ?_
              refine mn_iald hB hR.a_zot (by omega) (by omega) dX11_joins_331 ?_
              refine mh_top (y := .int ((joB w1 h1 w0 (fun j9 => zin (256 * (n - 1) + j9)) zbk) k8)) (by rw [lowOf_all _ _ (by omega)]) ?_
              refine mn_iast hB hR.a_zin (by first | exact Or.inl rfl | (simp only [ftA]; omega) | (simp [ftA]; omega)) hS (by omega) (by omega) dX11_joins_332 (fun H locs hwr => ?_)
              obtain ⟨hR, hS⟩ := hR.w_zin hwr
              refine lv_iinc (v := nI (k8 + 1)) (lv' := [(7, .int (nI (k8 + 1))), (0, .ref r), (1, .int (nI (n - 1))), (2, .int (nI 0)), (3, .int (nI w0)), (4, .int (nI (h1 + h0))), (5, .int (nI 0)), (6, .int (nI (256 * (n - 1))))]) hx hb dX11_joins_333 hl (k := 7) rfl (nI_1 _) (by decide) rfl (fun ls hl => ?_)
              refine lv_goto (tgt := 307) hx hb dX11_joins_336 (by decide) ?_
              refine ih307 (k8 + 1) _ _ _ ⟨(by omega), (by rw [← layI_up]; exact hR), hS, lv_sub hl [1, 2, 3, 4, 5, 6, 7, 0] rfl⟩ (by dsimp only; omega)
          · skip
            have hW9 : 0 < w0 := by
              rcases Nat.eq_zero_or_pos w0 with z9 | z9
              · have z8 := h_156
                rw [z9, Nat.zero_mul] at z8
                omega
              · exact z9
            have hd9 : k9 / w0 < h1 + h0 := Nat.div_lt_of_lt_mul h_156
            have hm9 := Nat.mod_lt k9 hW9
            have hz9 : 0 ≤ k9 / w0 := Nat.zero_le _
            have he9 : k9 / w0 < h1 → k9 / w0 * w1 + w1 ≤ h1 * w1 := fun z9 => by
              have y9 := Nat.mul_le_mul_right w1 z9
              rw [Nat.succ_mul] at y9
              exact y9
            have he8 : k9 / w0 - h1 < h0 → (k9 / w0 - h1) * w0 + w0 ≤ h0 * w0 := fun z9 => by
              have y9 := Nat.mul_le_mul_right w0 z9
              rw [Nat.succ_mul] at y9
              exact y9
            have hg9 := sz256 hh1 hw1
            have hg8 := sz256 hh0 hw0
            refine lv_iload hx hb dX11_joins_159 (lv_at hl 7 rfl) ?_
            refine lv_iload_n hx hb dX11_joins_161 rfl (lv_at hl 3 rfl) ?_
            refine mn_irem hB dX11_joins_162 (by omega) (by omega) (by omega) ?_
            refine lv_istore (lv' := [(8, .int (nI (k9 % w0))), (0, .ref r), (1, .int (nI (n - 1))), (2, .int (nI 0)), (3, .int (nI w0)), (4, .int (nI (h1 + h0))), (5, .int (nI 0)), (6, .int (nI (256 * (n - 1)))), (7, .int (nI k9))]) hx hb dX11_joins_163 hl (by decide) rfl (fun ls hl => ?_)
            refine lv_iload hx hb dX11_joins_165 (lv_at hl 8 rfl) ?_
            refine lv_iload_n hx hb dX11_joins_167 rfl (lv_at hl 4 rfl) ?_
            refine mn_idiv hB dX11_joins_168 (by omega) (by omega) (by omega) ?_
            refine lv_istore (lv' := [(9, .int (nI (k9 / w0))), (8, .int (nI (k9 % w0))), (0, .ref r), (1, .int (nI (n - 1))), (2, .int (nI 0)), (3, .int (nI w0)), (4, .int (nI (h1 + h0))), (5, .int (nI 0)), (6, .int (nI (256 * (n - 1)))), (7, .int (nI k9))]) hx hb dX11_joins_169 hl (by decide) rfl (fun ls hl => ?_)
            refine lv_iload_n hx hb dX11_joins_171 rfl (lv_at hl 4 rfl) ?_
            refine mn_if_eq (tgt := 194) hB dX11_joins_172 (by decide) (by omega) (fun h_172 => ?_) (fun h => by exfalso; omega)
            refine lv_iload hx hb dX11_joins_194 (lv_at hl 0 rfl) ?_
            refine lv_aload_n hx hb dX11_joins_196 rfl (lv_at hl 2 rfl) ?_
            refine gf_X11_38 hB hR.o rfl dX11_joins_197 ?_
            refine lv_iload_n hx hb dX11_joins_200 rfl (lv_at hl 3 rfl) ?_
            refine mn_iald hB hR.a_zhg (by omega) (by omega) dX11_joins_201 ?_
            refine mh_top (y := .int (nI h1)) (by rw [hh9]) ?_
            refine mn_icmp_ge (tgt := 209) hB dX11_joins_202 (by decide) (by omega) (by omega) (fun h_202 => ?_) (fun h_202 => ?_)
            · skip
              refine lv_iconst (v := nI 0) hx hb dX11_joins_209 (by decide) ?_
              refine lv_istore (lv' := [(10, .int (nI 0)), (9, .int (nI (k9 / w0))), (8, .int (nI (k9 % w0))), (0, .ref r), (1, .int (nI (n - 1))), (2, .int (nI 0)), (3, .int (nI w0)), (4, .int (nI (h1 + h0))), (5, .int (nI 0)), (6, .int (nI (256 * (n - 1)))), (7, .int (nI k9))]) hx hb dX11_joins_210 hl (by decide) rfl (fun ls hl => ?_)
              refine lv_aload_n hx hb dX11_joins_212 rfl (lv_at hl 3 rfl) ?_
              refine gf_X11_47 hB hR.o rfl dX11_joins_213 ?_
              refine lv_iload hx hb dX11_joins_216 (lv_at hl 10 rfl) ?_
              refine lv_iload hx hb dX11_joins_218 (lv_at hl 0 rfl) ?_
              refine mn_if_eq (tgt := 246) hB dX11_joins_220 (by decide) (by omega) (fun h_220 => ?_) (fun h => by exfalso; omega)
              refine lv_iload_n hx hb dX11_joins_246 rfl (lv_at hl 5 rfl) ?_
              refine mn_if_eq (tgt := 275) hB dX11_joins_247 (by decide) (by omega) (fun h_247 => ?_) (fun h => by exfalso; omega)
              refine lv_aload_n hx hb dX11_joins_275 rfl (lv_at hl 3 rfl) ?_
              refine gf_X11_44 hB hR.o rfl dX11_joins_276 ?_
              refine lv_iload hx hb dX11_joins_279 (lv_at hl 1 rfl) ?_
              refine lv_aload_n hx hb dX11_joins_281 rfl (lv_at hl 3 rfl) ?_
              refine gf_X11_38 hB hR.o rfl dX11_joins_282 ?_
              refine lv_iload_n hx hb dX11_joins_285 rfl (lv_at hl 4 rfl) ?_
              refine mn_iald hB hR.a_zhg (by omega) (by omega) dX11_joins_286 ?_
              refine mh_top (y := .int (nI h1)) (by rw [hh9]) ?_
              refine mn_isub hB dX11_joins_287 (by omega) ?_
              refine lv_aload_n hx hb dX11_joins_288 rfl (lv_at hl 3 rfl) ?_
              refine gf_X11_90 hB hR.o rfl dX11_joins_289 ?_
              refine mn_imul hB dX11_joins_292 ?_
              refine lv_iload hx hb dX11_joins_293 (lv_at hl 2 rfl) ?_
              refine mn_iadd hB dX11_joins_295 ?_
              refine mn_iald hB hR.a_zbk (by have := he8 (by omega); omega) (by omega) dX11_joins_296 ?_
              refine mh_top (y := .int ((joB w1 h1 w0 (fun j9 => zin (256 * (n - 1) + j9)) zbk) k9)) (by unfold joB; rw [if_neg (by omega)]) ?_
              refine mn_iast hB hR.a_zot (by first | exact Or.inl rfl | (simp only [ftA]; omega) | (simp [ftA]; omega)) hS (by omega) (by omega) dX11_joins_297 (fun H locs hwr => ?_)
              obtain ⟨hR, hS⟩ := hR.w_zot hwr
              refine lv_iinc (v := nI (k9 + 1)) (lv' := [(7, .int (nI (k9 + 1))), (10, .int (nI 0)), (9, .int (nI (k9 / w0))), (8, .int (nI (k9 % w0))), (0, .ref r), (1, .int (nI (n - 1))), (2, .int (nI 0)), (3, .int (nI w0)), (4, .int (nI (h1 + h0))), (5, .int (nI 0)), (6, .int (nI (256 * (n - 1))))]) hx hb dX11_joins_298 hl (k := 10) rfl (nI_1 _) (by decide) rfl (fun ls hl => ?_)
              refine lv_goto (tgt := 150) hx hb dX11_joins_301 (by decide) ?_
              refine ih150 (k9 + 1) _ _ _ ⟨(by omega), (by rw [← lowOf_up]; exact hR), hS, lv_sub hl [4, 5, 6, 7, 8, 9, 10, 0] rfl⟩ (by dsimp only; omega)
            · skip
              refine lv_iconst (v := nI 1) hx hb dX11_joins_205 (by decide) ?_
              refine lv_goto (tgt := 210) hx hb dX11_joins_206 (by decide) ?_
              refine lv_istore (lv' := [(10, .int (nI 1)), (9, .int (nI (k9 / w0))), (8, .int (nI (k9 % w0))), (0, .ref r), (1, .int (nI (n - 1))), (2, .int (nI 0)), (3, .int (nI w0)), (4, .int (nI (h1 + h0))), (5, .int (nI 0)), (6, .int (nI (256 * (n - 1)))), (7, .int (nI k9))]) hx hb dX11_joins_210 hl (by decide) rfl (fun ls hl => ?_)
              refine lv_aload_n hx hb dX11_joins_212 rfl (lv_at hl 3 rfl) ?_
              refine gf_X11_47 hB hR.o rfl dX11_joins_213 ?_
              refine lv_iload hx hb dX11_joins_216 (lv_at hl 10 rfl) ?_
              refine lv_iload hx hb dX11_joins_218 (lv_at hl 0 rfl) ?_
              refine mn_if_eq (tgt := 246) hB dX11_joins_220 (by decide) (by omega) (fun h => by exfalso; omega) (fun h_220 => ?_)
              refine lv_aload_n hx hb dX11_joins_223 rfl (lv_at hl 3 rfl) ?_
              refine gf_X11_41 hB hR.o rfl dX11_joins_224 ?_
              refine lv_iload hx hb dX11_joins_227 (lv_at hl 9 rfl) ?_
              refine lv_iload hx hb dX11_joins_229 (lv_at hl 1 rfl) ?_
              refine lv_aload_n hx hb dX11_joins_231 rfl (lv_at hl 3 rfl) ?_
              refine gf_X11_35 hB hR.o rfl dX11_joins_232 ?_
              refine lv_iload_n hx hb dX11_joins_235 rfl (lv_at hl 4 rfl) ?_
              refine mn_iald hB hR.a_zwd (by omega) (by omega) dX11_joins_236 ?_
              refine mh_top (y := .int (nI w1)) (by rw [hw9]) ?_
              refine mn_imul hB dX11_joins_237 ?_
              refine mn_iadd hB dX11_joins_238 ?_
              refine lv_iload hx hb dX11_joins_239 (lv_at hl 2 rfl) ?_
              refine mn_iadd hB dX11_joins_241 ?_
              refine mn_iald hB hR.a_zin (by have := he9 (by omega); omega) (by omega) dX11_joins_242 ?_
              refine mh_top (y := .int ((joB w1 h1 w0 (fun j9 => zin (256 * (n - 1) + j9)) zbk) k9)) (by unfold joB; rw [if_pos (by omega)]; exact congrArg (fun z => Value.int (zin z)) (Nat.add_assoc _ _ _)) ?_
              refine lv_goto (tgt := 297) hx hb dX11_joins_243 (by decide) ?_
              refine mn_iast hB hR.a_zot (by first | exact Or.inl rfl | (simp only [ftA]; omega) | (simp [ftA]; omega)) hS (by omega) (by omega) dX11_joins_297 (fun H locs hwr => ?_)
              obtain ⟨hR, hS⟩ := hR.w_zot hwr
              refine lv_iinc (v := nI (k9 + 1)) (lv' := [(7, .int (nI (k9 + 1))), (10, .int (nI 1)), (9, .int (nI (k9 / w0))), (8, .int (nI (k9 % w0))), (0, .ref r), (1, .int (nI (n - 1))), (2, .int (nI 0)), (3, .int (nI w0)), (4, .int (nI (h1 + h0))), (5, .int (nI 0)), (6, .int (nI (256 * (n - 1))))]) hx hb dX11_joins_298 hl (k := 10) rfl (nI_1 _) (by decide) rfl (fun ls hl => ?_)
              refine lv_goto (tgt := 150) hx hb dX11_joins_301 (by decide) ?_
              refine ih150 (k9 + 1) _ _ _ ⟨(by omega), (by rw [← lowOf_up]; exact hR), hS, lv_sub hl [4, 5, 6, 7, 8, 9, 10, 0] rfl⟩ (by dsimp only; omega)
        · skip
          refine lv_iconst (v := nI 0) hx hb dX11_joins_138 (by decide) ?_
          refine mh_zret hB ⟨Nat.le_of_ble_eq_true rfl, Nat.le_of_ble_eq_true rfl⟩ hS dX11_joins_139 (by first | rfl | decide | (split <;> rfl)) ⟨?_, zwd, zhg, zin, zot, ?_, ?_⟩
          · have e9 : joinS (s1, p1, w1, h1, c1) (w0, h0, b0) = none := by unfold joinS; dsimp only; first | rw [if_pos (by omega), if_neg (by omega)] | rw [if_neg (by omega), if_neg (by omega)]
            rw [e9]; rfl
          · exact hR
          · have e9 : joinS (s1, p1, w1, h1, c1) (w0, h0, b0) = none := by unfold joinS; dsimp only; first | rw [if_pos (by omega), if_neg (by omega)] | rw [if_neg (by omega), if_neg (by omega)]
            intro it2 hi2
            rw [e9] at hi2
            cases hi2
    · skip
      refine lv_iload_n hx hb dX11_joins_80 rfl (lv_at hl 2 rfl) ?_
      refine mn_if_eq (tgt := 100) hB dX11_joins_81 (by decide) (by omega) (fun h_81 => ?_) (fun h => by exfalso; omega)
      refine lv_aload_n hx hb dX11_joins_100 rfl (lv_at hl 4 rfl) ?_
      refine gf_X11_90 hB hR.o rfl dX11_joins_101 ?_
      refine lv_aload_n hx hb dX11_joins_104 rfl (lv_at hl 4 rfl) ?_
      refine gf_X11_35 hB hR.o rfl dX11_joins_105 ?_
      refine lv_iload_n hx hb dX11_joins_108 rfl (lv_at hl 3 rfl) ?_
      refine mn_iald hB hR.a_zwd (by omega) (by omega) dX11_joins_109 ?_
      refine mh_top (y := .int (nI w1)) (by rw [hw9]) ?_
      refine mn_icmp_eq (tgt := 117) hB dX11_joins_110 (by decide) (by omega) (by omega) (fun h_110 => ?_) (fun h_110 => ?_)
      · skip
        refine lv_iconst (v := nI 0) hx hb dX11_joins_117 (by decide) ?_
        refine lv_istore (lv' := [(5, .int (nI 0)), (4, .int (nI (h1 + h0))), (3, .int (nI w0)), (2, .int (nI 0)), (1, .int (nI (n - 1))), (0, .ref r)]) hx hb dX11_joins_118 hl (by decide) rfl (fun ls hl => ?_)
        refine lv_iload hx hb dX11_joins_120 (lv_at hl 0 rfl) ?_
        refine mn_if_ne (tgt := 138) hB dX11_joins_122 (by decide) (by omega) (fun h => by exfalso; omega) (fun h_122 => ?_)
        refine lv_iload_n hx hb dX11_joins_125 rfl (lv_at hl 2 rfl) ?_
        refine lv_bipush (v := nI 16) hx hb dX11_joins_126 (by decide) ?_
        refine mn_icmp_gt (tgt := 138) hB dX11_joins_128 (by decide) (by omega) (by omega) (fun h_128 => ?_) (fun h_128 => ?_)
        · skip
          refine lv_iconst (v := nI 0) hx hb dX11_joins_138 (by decide) ?_
          refine mh_zret hB ⟨Nat.le_of_ble_eq_true rfl, Nat.le_of_ble_eq_true rfl⟩ hS dX11_joins_139 (by first | rfl | decide | (split <;> rfl)) ⟨?_, zwd, zhg, zin, zot, ?_, ?_⟩
          · have e9 : joinS (s1, p1, w1, h1, c1) (w0, h0, b0) = none := by unfold joinS; dsimp only; first | rw [if_pos (by omega), if_neg (by omega)] | rw [if_neg (by omega), if_neg (by omega)]
            rw [e9]; rfl
          · exact hR
          · have e9 : joinS (s1, p1, w1, h1, c1) (w0, h0, b0) = none := by unfold joinS; dsimp only; first | rw [if_pos (by omega), if_neg (by omega)] | rw [if_neg (by omega), if_neg (by omega)]
            intro it2 hi2
            rw [e9] at hi2
            cases hi2
        · skip
          refine lv_iload hx hb dX11_joins_131 (lv_at hl 1 rfl) ?_
          refine lv_bipush (v := nI 16) hx hb dX11_joins_133 (by decide) ?_
          refine mn_icmp_le (tgt := 140) hB dX11_joins_135 (by decide) (by omega) (by omega) (fun h_135 => ?_) (fun h_135 => ?_)
          · skip
            refine lv_sipush (v := nI 256) hx hb dX11_joins_140 (by decide +kernel) ?_
            have hsz9 : (w1 + w0) * h0 ≤ 256 ∨ ¬ s1 = 40 := by first | exact Or.inl (sz256 (by omega) (by omega)) | exact Or.inr (by omega)
            have hsz8 : w0 * (h1 + h0) ≤ 256 ∨ s1 = 40 := by first | exact Or.inl (sz256 (by omega) (by omega)) | exact Or.inr (by omega)
            refine lv_iload_n hx hb dX11_joins_143 rfl (lv_at hl 4 rfl) ?_
            refine mn_imul hB dX11_joins_144 ?_
            refine lv_istore (lv' := [(6, .int (nI (256 * (n - 1)))), (5, .int (nI 0)), (4, .int (nI (h1 + h0))), (3, .int (nI w0)), (2, .int (nI 0)), (1, .int (nI (n - 1))), (0, .ref r)]) hx hb dX11_joins_145 hl (by decide) rfl (fun ls hl => ?_)
            refine lv_iconst (v := nI 0) hx hb dX11_joins_147 (by decide) ?_
            refine lv_istore (lv' := [(7, .int (nI 0)), (6, .int (nI (256 * (n - 1)))), (5, .int (nI 0)), (4, .int (nI (h1 + h0))), (3, .int (nI w0)), (2, .int (nI 0)), (1, .int (nI (n - 1))), (0, .ref r)]) hx hb dX11_joins_148 hl (by decide) rfl (fun ls hl => ?_)
            refine mh_loop (σ := Nat) (fun xx9 H locs ls => match xx9 with | k9 => k9 ≤ w0 * (h1 + h0) ∧ ModAt g r zq zsp zrm zst zsl zsv ztx zln zth zsg zbg zwd zhg zin (nI n) zbe (nI w0) (nI h0) zbk (lowOf (joB w1 h1 w0 (fun j9 => zin (256 * (n - 1) + j9)) zbk) zot k9) zer zen zpo zpi zgr zsh zsn H ∧ va_S (ftA (fun q => r ≤ q ∧ q < r + 16) H0.size) H0 H locs ∧ lv_has ls 11 [(0, .ref r), (1, .int (nI (n - 1))), (2, .int (nI 0)), (3, .int (nI w0)), (4, .int (nI (h1 + h0))), (5, .int (nI 0)), (6, .int (nI (256 * (n - 1)))), (7, .int (nI k9))]) (fun xx9 => match xx9 with | k9 => w0 * (h1 + h0) - k9) ?_ 0 ⟨(by omega), (by rw [lowOf_0]; exact hR), hS, lv_sub hl [7, 6, 5, 4, 3, 2, 1, 0] rfl⟩
            rintro k9 H locs ls ⟨hk9, hR, hS, hl⟩ ih
            have ih150 := ih
            refine lv_iload hx hb dX11_joins_150 (lv_at hl 7 rfl) ?_
            refine lv_iload_n hx hb dX11_joins_152 rfl (lv_at hl 3 rfl) ?_
            refine lv_iload hx hb dX11_joins_153 (lv_at hl 4 rfl) ?_
            refine mn_imul hB dX11_joins_155 ?_
            refine mn_icmp_ge (tgt := 304) hB dX11_joins_156 (by decide) (by omega) (by omega) (fun h_156 => ?_) (fun h_156 => ?_)
            · skip
              have hin9 : k9 = w0 * (h1 + h0) := by omega
              subst hin9
              refine lv_iconst (v := nI 0) hx hb dX11_joins_304 (by decide) ?_
              refine lv_istore (lv' := [(7, .int (nI 0)), (0, .ref r), (1, .int (nI (n - 1))), (2, .int (nI 0)), (3, .int (nI w0)), (4, .int (nI (h1 + h0))), (5, .int (nI 0)), (6, .int (nI (256 * (n - 1))))]) hx hb dX11_joins_305 hl (by decide) rfl (fun ls hl => ?_)
              refine mh_loop (σ := Nat) (fun xx9 H locs ls => match xx9 with | k8 => k8 ≤ w0 * (h1 + h0) ∧ ModAt g r zq zsp zrm zst zsl zsv ztx zln zth zsg zbg zwd zhg (layI zin (256 * (n - 1)) (joB w1 h1 w0 (fun j9 => zin (256 * (n - 1) + j9)) zbk) k8) (nI n) zbe (nI w0) (nI h0) zbk (lowOf (joB w1 h1 w0 (fun j9 => zin (256 * (n - 1) + j9)) zbk) zot (w0 * (h1 + h0))) zer zen zpo zpi zgr zsh zsn H ∧ va_S (ftA (fun q => r ≤ q ∧ q < r + 16) H0.size) H0 H locs ∧ lv_has ls 11 [(0, .ref r), (1, .int (nI (n - 1))), (2, .int (nI 0)), (3, .int (nI w0)), (4, .int (nI (h1 + h0))), (5, .int (nI 0)), (6, .int (nI (256 * (n - 1)))), (7, .int (nI k8))]) (fun xx9 => match xx9 with | k8 => w0 * (h1 + h0) - k8) ?_ 0 ⟨(by omega), (by rw [layI_0]; exact hR), hS, lv_sub hl [1, 2, 3, 4, 5, 6, 7, 0] rfl⟩
              rintro k8 H locs ls ⟨hk8, hR, hS, hl⟩ ih
              have ih307 := ih
              refine lv_iload hx hb dX11_joins_307 (lv_at hl 7 rfl) ?_
              refine lv_iload_n hx hb dX11_joins_309 rfl (lv_at hl 3 rfl) ?_
              refine lv_iload hx hb dX11_joins_310 (lv_at hl 4 rfl) ?_
              refine mn_imul hB dX11_joins_312 ?_
              refine mn_icmp_ge (tgt := 339) hB dX11_joins_313 (by decide) (by omega) (by omega) (fun h_313 => ?_) (fun h_313 => ?_)
              · skip
                have hin9 : k8 = w0 * (h1 + h0) := by omega
                subst hin9
                refine lv_aload_n hx hb dX11_joins_339 rfl (lv_at hl 0 rfl) ?_
                refine gf_X11_35 hB hR.o rfl dX11_joins_340 ?_
                refine lv_iload_n hx hb dX11_joins_343 rfl (lv_at hl 1 rfl) ?_
                refine lv_iload_n hx hb dX11_joins_344 rfl (lv_at hl 3 rfl) ?_
                refine mn_iast hB hR.a_zwd (by first | exact Or.inl rfl | (simp only [ftA]; omega) | (simp [ftA]; omega)) hS (by omega) (by omega) dX11_joins_345 (fun H locs hwr => ?_)
                obtain ⟨hR, hS⟩ := hR.w_zwd hwr
                refine lv_aload_n hx hb dX11_joins_346 rfl (lv_at hl 0 rfl) ?_
                refine gf_X11_38 hB hR.o rfl dX11_joins_347 ?_
                refine lv_iload_n hx hb dX11_joins_350 rfl (lv_at hl 1 rfl) ?_
                refine lv_iload hx hb dX11_joins_351 (lv_at hl 4 rfl) ?_
                refine mn_iast hB hR.a_zhg (by first | exact Or.inl rfl | (simp only [ftA]; omega) | (simp [ftA]; omega)) hS (by omega) (by omega) dX11_joins_353 (fun H locs hwr => ?_)
                obtain ⟨hR, hS⟩ := hR.w_zhg hwr
                refine lv_iconst (v := nI 1) hx hb dX11_joins_354 (by decide) ?_
                refine mh_zret hB ⟨Nat.le_of_ble_eq_true rfl, Nat.le_of_ble_eq_true rfl⟩ hS dX11_joins_355 (by first | rfl | decide | (split <;> rfl)) ⟨?_, (upd zwd (n - 1) (nI w0)), (upd zhg (n - 1) (nI (h1 + h0))), (layI zin (256 * (n - 1)) (joB w1 h1 w0 (fun j9 => zin (256 * (n - 1) + j9)) zbk) (w0 * (h1 + h0))), (lowOf (joB w1 h1 w0 (fun j9 => zin (256 * (n - 1) + j9)) zbk) zot (w0 * (h1 + h0))), ?_, ?_⟩
                · have e9 : joinS (s1, p1, w1, h1, c1) (w0, h0, b0) = some (s1, p1, w0, h1 + h0, joB w1 h1 w0 c1 b0) := by unfold joinS; dsimp only; rw [if_neg (by omega), if_pos (by omega)]
                  rw [e9]; rfl
                · exact hR
                · have e9 : joinS (s1, p1, w1, h1, c1) (w0, h0, b0) = some (s1, p1, w0, h1 + h0, joB w1 h1 w0 c1 b0) := by unfold joinS; dsimp only; rw [if_neg (by omega), if_pos (by omega)]
                  intro it2 hi2
                  rw [e9] at hi2
                  cases hi2
                  refine ⟨fun j hj => ⟨upd_n (by omega), upd_n (by omega)⟩, fun j hj => layI_out hj, upd_s (α := Nat), upd_s (α := Nat), fun k hk => ?_⟩
                  have h9 := joB_ok (c := fun j9 => zin (256 * (n - 1) + j9)) hc9 hb9 hz1 (by omega) hk
                  exact ⟨(layI_in hk).trans h9.1, h9.2⟩
              · skip
                refine lv_aload_n hx hb dX11_joins_316 rfl (lv_at hl 0 rfl) ?_
                refine gf_X11_41 hB hR.o rfl dX11_joins_317 ?_
                refine lv_iload hx hb dX11_joins_320 (lv_at hl 6 rfl) ?_
                refine lv_iload hx hb dX11_joins_322 (lv_at hl 7 rfl) ?_
                refine mn_iadd hB dX11_joins_324 ?_
                refine lv_aload_n hx hb dX11_joins_325 rfl (lv_at hl 0 rfl) ?_
                refine gf_X11_47 hB hR.o rfl dX11_joins_326 ?_
                refine lv_iload hx hb dX11_joins_329 (lv_at hl 7 rfl) ?_
                refine mn_iald hB hR.a_zot (by omega) (by omega) dX11_joins_331 ?_
                refine mh_top (y := .int ((joB w1 h1 w0 (fun j9 => zin (256 * (n - 1) + j9)) zbk) k8)) (by rw [lowOf_all _ _ (by omega)]) ?_
                refine mn_iast hB hR.a_zin (by first | exact Or.inl rfl | (simp only [ftA]; omega) | (simp [ftA]; omega)) hS (by omega) (by omega) dX11_joins_332 (fun H locs hwr => ?_)
                obtain ⟨hR, hS⟩ := hR.w_zin hwr
                refine lv_iinc (v := nI (k8 + 1)) (lv' := [(7, .int (nI (k8 + 1))), (0, .ref r), (1, .int (nI (n - 1))), (2, .int (nI 0)), (3, .int (nI w0)), (4, .int (nI (h1 + h0))), (5, .int (nI 0)), (6, .int (nI (256 * (n - 1))))]) hx hb dX11_joins_333 hl (k := 7) rfl (nI_1 _) (by decide) rfl (fun ls hl => ?_)
                refine lv_goto (tgt := 307) hx hb dX11_joins_336 (by decide) ?_
                refine ih307 (k8 + 1) _ _ _ ⟨(by omega), (by rw [← layI_up]; exact hR), hS, lv_sub hl [1, 2, 3, 4, 5, 6, 7, 0] rfl⟩ (by dsimp only; omega)
            · skip
              have hW9 : 0 < w0 := by
                rcases Nat.eq_zero_or_pos w0 with z9 | z9
                · have z8 := h_156
                  rw [z9, Nat.zero_mul] at z8
                  omega
                · exact z9
              have hd9 : k9 / w0 < h1 + h0 := Nat.div_lt_of_lt_mul h_156
              have hm9 := Nat.mod_lt k9 hW9
              have hz9 : 0 ≤ k9 / w0 := Nat.zero_le _
              have he9 : k9 / w0 < h1 → k9 / w0 * w1 + w1 ≤ h1 * w1 := fun z9 => by
                have y9 := Nat.mul_le_mul_right w1 z9
                rw [Nat.succ_mul] at y9
                exact y9
              have he8 : k9 / w0 - h1 < h0 → (k9 / w0 - h1) * w0 + w0 ≤ h0 * w0 := fun z9 => by
                have y9 := Nat.mul_le_mul_right w0 z9
                rw [Nat.succ_mul] at y9
                exact y9
              have hg9 := sz256 hh1 hw1
              have hg8 := sz256 hh0 hw0
              refine lv_iload hx hb dX11_joins_159 (lv_at hl 7 rfl) ?_
              refine lv_iload_n hx hb dX11_joins_161 rfl (lv_at hl 3 rfl) ?_
              refine mn_irem hB dX11_joins_162 (by omega) (by omega) (by omega) ?_
              refine lv_istore (lv' := [(8, .int (nI (k9 % w0))), (0, .ref r), (1, .int (nI (n - 1))), (2, .int (nI 0)), (3, .int (nI w0)), (4, .int (nI (h1 + h0))), (5, .int (nI 0)), (6, .int (nI (256 * (n - 1)))), (7, .int (nI k9))]) hx hb dX11_joins_163 hl (by decide) rfl (fun ls hl => ?_)
              refine lv_iload hx hb dX11_joins_165 (lv_at hl 8 rfl) ?_
              refine lv_iload_n hx hb dX11_joins_167 rfl (lv_at hl 4 rfl) ?_
              refine mn_idiv hB dX11_joins_168 (by omega) (by omega) (by omega) ?_
              refine lv_istore (lv' := [(9, .int (nI (k9 / w0))), (8, .int (nI (k9 % w0))), (0, .ref r), (1, .int (nI (n - 1))), (2, .int (nI 0)), (3, .int (nI w0)), (4, .int (nI (h1 + h0))), (5, .int (nI 0)), (6, .int (nI (256 * (n - 1)))), (7, .int (nI k9))]) hx hb dX11_joins_169 hl (by decide) rfl (fun ls hl => ?_)
              refine lv_iload_n hx hb dX11_joins_171 rfl (lv_at hl 4 rfl) ?_
              refine mn_if_eq (tgt := 194) hB dX11_joins_172 (by decide) (by omega) (fun h_172 => ?_) (fun h => by exfalso; omega)
              refine lv_iload hx hb dX11_joins_194 (lv_at hl 0 rfl) ?_
              refine lv_aload_n hx hb dX11_joins_196 rfl (lv_at hl 2 rfl) ?_
              refine gf_X11_38 hB hR.o rfl dX11_joins_197 ?_
              refine lv_iload_n hx hb dX11_joins_200 rfl (lv_at hl 3 rfl) ?_
              refine mn_iald hB hR.a_zhg (by omega) (by omega) dX11_joins_201 ?_
              refine mh_top (y := .int (nI h1)) (by rw [hh9]) ?_
              refine mn_icmp_ge (tgt := 209) hB dX11_joins_202 (by decide) (by omega) (by omega) (fun h_202 => ?_) (fun h_202 => ?_)
              · skip
                refine lv_iconst (v := nI 0) hx hb dX11_joins_209 (by decide) ?_
                refine lv_istore (lv' := [(10, .int (nI 0)), (9, .int (nI (k9 / w0))), (8, .int (nI (k9 % w0))), (0, .ref r), (1, .int (nI (n - 1))), (2, .int (nI 0)), (3, .int (nI w0)), (4, .int (nI (h1 + h0))), (5, .int (nI 0)), (6, .int (nI (256 * (n - 1)))), (7, .int (nI k9))]) hx hb dX11_joins_210 hl (by decide) rfl (fun ls hl => ?_)
                refine lv_aload_n hx hb dX11_joins_212 rfl (lv_at hl 3 rfl) ?_
                refine gf_X11_47 hB hR.o rfl dX11_joins_213 ?_
                refine lv_iload hx hb dX11_joins_216 (lv_at hl 10 rfl) ?_
                refine lv_iload hx hb dX11_joins_218 (lv_at hl 0 rfl) ?_
                refine mn_if_eq (tgt := 246) hB dX11_joins_220 (by decide) (by omega) (fun h_220 => ?_) (fun h => by exfalso; omega)
                refine lv_iload_n hx hb dX11_joins_246 rfl (lv_at hl 5 rfl) ?_
                refine mn_if_eq (tgt := 275) hB dX11_joins_247 (by decide) (by omega) (fun h_247 => ?_) (fun h => by exfalso; omega)
                refine lv_aload_n hx hb dX11_joins_275 rfl (lv_at hl 3 rfl) ?_
                refine gf_X11_44 hB hR.o rfl dX11_joins_276 ?_
                refine lv_iload hx hb dX11_joins_279 (lv_at hl 1 rfl) ?_
                refine lv_aload_n hx hb dX11_joins_281 rfl (lv_at hl 3 rfl) ?_
                refine gf_X11_38 hB hR.o rfl dX11_joins_282 ?_
                refine lv_iload_n hx hb dX11_joins_285 rfl (lv_at hl 4 rfl) ?_
                refine mn_iald hB hR.a_zhg (by omega) (by omega) dX11_joins_286 ?_
                refine mh_top (y := .int (nI h1)) (by rw [hh9]) ?_
                refine mn_isub hB dX11_joins_287 (by omega) ?_
                refine lv_aload_n hx hb dX11_joins_288 rfl (lv_at hl 3 rfl) ?_
                refine gf_X11_90 hB hR.o rfl dX11_joins_289 ?_
                refine mn_imul hB dX11_joins_292 ?_
                refine lv_iload hx hb dX11_joins_293 (lv_at hl 2 rfl) ?_
                refine mn_iadd hB dX11_joins_295 ?_
                refine mn_iald hB hR.a_zbk (by have := he8 (by omega); omega) (by omega) dX11_joins_296 ?_
                refine mh_top (y := .int ((joB w1 h1 w0 (fun j9 => zin (256 * (n - 1) + j9)) zbk) k9)) (by unfold joB; rw [if_neg (by omega)]) ?_
                refine mn_iast hB hR.a_zot (by first | exact Or.inl rfl | (simp only [ftA]; omega) | (simp [ftA]; omega)) hS (by omega) (by omega) dX11_joins_297 (fun H locs hwr => ?_)
                obtain ⟨hR, hS⟩ := hR.w_zot hwr
                refine lv_iinc (v := nI (k9 + 1)) (lv' := [(7, .int (nI (k9 + 1))), (10, .int (nI 0)), (9, .int (nI (k9 / w0))), (8, .int (nI (k9 % w0))), (0, .ref r), (1, .int (nI (n - 1))), (2, .int (nI 0)), (3, .int (nI w0)), (4, .int (nI (h1 + h0))), (5, .int (nI 0)), (6, .int (nI (256 * (n - 1))))]) hx hb dX11_joins_298 hl (k := 10) rfl (nI_1 _) (by decide) rfl (fun ls hl => ?_)
                refine lv_goto (tgt := 150) hx hb dX11_joins_301 (by decide) ?_
                refine ih150 (k9 + 1) _ _ _ ⟨(by omega), (by rw [← lowOf_up]; exact hR), hS, lv_sub hl [4, 5, 6, 7, 8, 9, 10, 0] rfl⟩ (by dsimp only; omega)
              · skip
                refine lv_iconst (v := nI 1) hx hb dX11_joins_205 (by decide) ?_
                refine lv_goto (tgt := 210) hx hb dX11_joins_206 (by decide) ?_
                refine lv_istore (lv' := [(10, .int (nI 1)), (9, .int (nI (k9 / w0))), (8, .int (nI (k9 % w0))), (0, .ref r), (1, .int (nI (n - 1))), (2, .int (nI 0)), (3, .int (nI w0)), (4, .int (nI (h1 + h0))), (5, .int (nI 0)), (6, .int (nI (256 * (n - 1)))), (7, .int (nI k9))]) hx hb dX11_joins_210 hl (by decide) rfl (fun ls hl => ?_)
                refine lv_aload_n hx hb dX11_joins_212 rfl (lv_at hl 3 rfl) ?_
                refine gf_X11_47 hB hR.o rfl dX11_joins_213 ?_
                refine lv_iload hx hb dX11_joins_216 (lv_at hl 10 rfl) ?_
                refine lv_iload hx hb dX11_joins_218 (lv_at hl 0 rfl) ?_
                refine mn_if_eq (tgt := 246) hB dX11_joins_220 (by decide) (by omega) (fun h => by exfalso; omega) (fun h_220 => ?_)
                refine lv_aload_n hx hb dX11_joins_223 rfl (lv_at hl 3 rfl) ?_
                refine gf_X11_41 hB hR.o rfl dX11_joins_224 ?_
                refine lv_iload hx hb dX11_joins_227 (lv_at hl 9 rfl) ?_
                refine lv_iload hx hb dX11_joins_229 (lv_at hl 1 rfl) ?_
                refine lv_aload_n hx hb dX11_joins_231 rfl (lv_at hl 3 rfl) ?_
                refine gf_X11_35 hB hR.o rfl dX11_joins_232 ?_
                refine lv_iload_n hx hb dX11_joins_235 rfl (lv_at hl 4 rfl) ?_
                refine mn_iald hB hR.a_zwd (by omega) (by omega) dX11_joins_236 ?_
                refine mh_top (y := .int (nI w1)) (by rw [hw9]) ?_
                refine mn_imul hB dX11_joins_237 ?_
                refine mn_iadd hB dX11_joins_238 ?_
                refine lv_iload hx hb dX11_joins_239 (lv_at hl 2 rfl) ?_
                refine mn_iadd hB dX11_joins_241 ?_
                refine mn_iald hB hR.a_zin (by have := he9 (by omega); omega) (by omega) dX11_joins_242 ?_
                refine mh_top (y := .int ((joB w1 h1 w0 (fun j9 => zin (256 * (n - 1) + j9)) zbk) k9)) (by unfold joB; rw [if_pos (by omega)]; exact congrArg (fun z => Value.int (zin z)) (Nat.add_assoc _ _ _)) ?_
                refine lv_goto (tgt := 297) hx hb dX11_joins_243 (by decide) ?_
                refine mn_iast hB hR.a_zot (by first | exact Or.inl rfl | (simp only [ftA]; omega) | (simp [ftA]; omega)) hS (by omega) (by omega) dX11_joins_297 (fun H locs hwr => ?_)
                obtain ⟨hR, hS⟩ := hR.w_zot hwr
                refine lv_iinc (v := nI (k9 + 1)) (lv' := [(7, .int (nI (k9 + 1))), (10, .int (nI 1)), (9, .int (nI (k9 / w0))), (8, .int (nI (k9 % w0))), (0, .ref r), (1, .int (nI (n - 1))), (2, .int (nI 0)), (3, .int (nI w0)), (4, .int (nI (h1 + h0))), (5, .int (nI 0)), (6, .int (nI (256 * (n - 1))))]) hx hb dX11_joins_298 hl (k := 10) rfl (nI_1 _) (by decide) rfl (fun ls hl => ?_)
                refine lv_goto (tgt := 150) hx hb dX11_joins_301 (by decide) ?_
                refine ih150 (k9 + 1) _ _ _ ⟨(by omega), (by rw [← lowOf_up]; exact hR), hS, lv_sub hl [4, 5, 6, 7, 8, 9, 10, 0] rfl⟩ (by dsimp only; omega)
          · skip
            refine lv_iconst (v := nI 0) hx hb dX11_joins_138 (by decide) ?_
            refine mh_zret hB ⟨Nat.le_of_ble_eq_true rfl, Nat.le_of_ble_eq_true rfl⟩ hS dX11_joins_139 (by first | rfl | decide | (split <;> rfl)) ⟨?_, zwd, zhg, zin, zot, ?_, ?_⟩
            · have e9 : joinS (s1, p1, w1, h1, c1) (w0, h0, b0) = none := by unfold joinS; dsimp only; first | rw [if_pos (by omega), if_neg (by omega)] | rw [if_neg (by omega), if_neg (by omega)]
              rw [e9]; rfl
            · exact hR
            · have e9 : joinS (s1, p1, w1, h1, c1) (w0, h0, b0) = none := by unfold joinS; dsimp only; first | rw [if_pos (by omega), if_neg (by omega)] | rw [if_neg (by omega), if_neg (by omega)]
              intro it2 hi2
              rw [e9] at hi2
              cases hi2
      · skip
        refine lv_iconst (v := nI 1) hx hb dX11_joins_113 (by decide) ?_
        refine lv_goto (tgt := 118) hx hb dX11_joins_114 (by decide) ?_
        refine lv_istore (lv' := [(5, .int (nI 1)), (4, .int (nI (h1 + h0))), (3, .int (nI w0)), (2, .int (nI 0)), (1, .int (nI (n - 1))), (0, .ref r)]) hx hb dX11_joins_118 hl (by decide) rfl (fun ls hl => ?_)
        refine lv_iload hx hb dX11_joins_120 (lv_at hl 0 rfl) ?_
        refine mn_if_ne (tgt := 138) hB dX11_joins_122 (by decide) (by omega) (fun h_122 => ?_) (fun h => by exfalso; omega)
        refine lv_iconst (v := nI 0) hx hb dX11_joins_138 (by decide) ?_
        refine mh_zret hB ⟨Nat.le_of_ble_eq_true rfl, Nat.le_of_ble_eq_true rfl⟩ hS dX11_joins_139 (by first | rfl | decide | (split <;> rfl)) ⟨?_, zwd, zhg, zin, zot, ?_, ?_⟩
        · have e9 : joinS (s1, p1, w1, h1, c1) (w0, h0, b0) = none := by unfold joinS; dsimp only; first | rw [if_pos (by omega), if_neg (by omega)] | rw [if_neg (by omega), if_neg (by omega)]
          rw [e9]; rfl
        · exact hR
        · have e9 : joinS (s1, p1, w1, h1, c1) (w0, h0, b0) = none := by unfold joinS; dsimp only; first | rw [if_pos (by omega), if_neg (by omega)] | rw [if_neg (by omega), if_neg (by omega)]
          intro it2 hi2
          rw [e9] at hi2
          cases hi2
  · skip
    refine lv_iconst (v := nI 1) hx hb dX11_joins_18 (by decide) ?_
    refine lv_goto (tgt := 23) hx hb dX11_joins_19 (by decide) ?_
    refine lv_istore_n (lv' := [(2, .int (nI 1)), (1, .int (nI (n - 1))), (0, .ref r)]) hx hb dX11_joins_23 rfl hl (by decide) rfl (fun ls hl => ?_)
    refine lv_iload_n hx hb dX11_joins_24 rfl (lv_at hl 0 rfl) ?_
    refine mn_if_eq (tgt := 42) hB dX11_joins_25 (by decide) (by omega) (fun h => by exfalso; omega) (fun h_25 => ?_)
    refine lv_aload_n hx hb dX11_joins_28 rfl (lv_at hl 2 rfl) ?_
    refine gf_X11_35 hB hR.o rfl dX11_joins_29 ?_
    refine lv_iload_n hx hb dX11_joins_32 rfl (lv_at hl 1 rfl) ?_
    refine mn_iald hB hR.a_zwd (by omega) (by omega) dX11_joins_33 ?_
    refine mh_top (y := .int (nI w1)) (by rw [hw9]) ?_
    refine lv_aload_n hx hb dX11_joins_34 rfl (lv_at hl 2 rfl) ?_
    refine gf_X11_90 hB hR.o rfl dX11_joins_35 ?_
    refine mn_iadd hB dX11_joins_38 ?_
    refine lv_goto (tgt := 46) hx hb dX11_joins_39 (by decide) ?_
    refine lv_istore_n (lv' := [(3, .int (nI (w1 + w0))), (2, .int (nI 1)), (1, .int (nI (n - 1))), (0, .ref r)]) hx hb dX11_joins_46 rfl hl (by decide) rfl (fun ls hl => ?_)
    refine lv_iload_n hx hb dX11_joins_47 rfl (lv_at hl 1 rfl) ?_
    refine mn_if_eq (tgt := 58) hB dX11_joins_48 (by decide) (by omega) (fun h => by exfalso; omega) (fun h_48 => ?_)
    refine lv_aload_n hx hb dX11_joins_51 rfl (lv_at hl 3 rfl) ?_
    refine gf_X11_93 hB hR.o rfl dX11_joins_52 ?_
    refine lv_goto (tgt := 69) hx hb dX11_joins_55 (by decide) ?_
    refine lv_istore (lv' := [(4, .int (nI h0)), (3, .int (nI (w1 + w0))), (2, .int (nI 1)), (1, .int (nI (n - 1))), (0, .ref r)]) hx hb dX11_joins_69 hl (by decide) rfl (fun ls hl => ?_)
    refine lv_aload_n hx hb dX11_joins_71 rfl (lv_at hl 4 rfl) ?_
    refine gf_X11_35 hB hR.o rfl dX11_joins_72 ?_
    refine lv_iload_n hx hb dX11_joins_75 rfl (lv_at hl 3 rfl) ?_
    refine mn_iald hB hR.a_zwd (by omega) (by omega) dX11_joins_76 ?_
    refine mh_top (y := .int (nI w1)) (by rw [hw9]) ?_
    refine mn_if_le (tgt := 117) hB dX11_joins_77 (by decide) (by omega) (fun h_77 => ?_) (fun h_77 => ?_)
    · skip
      refine lv_iconst (v := nI 0) hx hb dX11_joins_117 (by decide) ?_
      refine lv_istore (lv' := [(5, .int (nI 0)), (4, .int (nI h0)), (3, .int (nI (w1 + w0))), (2, .int (nI 1)), (1, .int (nI (n - 1))), (0, .ref r)]) hx hb dX11_joins_118 hl (by decide) rfl (fun ls hl => ?_)
      refine lv_iload hx hb dX11_joins_120 (lv_at hl 0 rfl) ?_
      refine mn_if_ne (tgt := 138) hB dX11_joins_122 (by decide) (by omega) (fun h => by exfalso; omega) (fun h_122 => ?_)
      refine lv_iload_n hx hb dX11_joins_125 rfl (lv_at hl 2 rfl) ?_
      refine lv_bipush (v := nI 16) hx hb dX11_joins_126 (by decide) ?_
      refine mn_icmp_gt (tgt := 138) hB dX11_joins_128 (by decide) (by omega) (by omega) (fun h_128 => ?_) (fun h_128 => ?_)
      · skip
        refine lv_iconst (v := nI 0) hx hb dX11_joins_138 (by decide) ?_
        refine mh_zret hB ⟨Nat.le_of_ble_eq_true rfl, Nat.le_of_ble_eq_true rfl⟩ hS dX11_joins_139 (by first | rfl | decide | (split <;> rfl)) ⟨?_, zwd, zhg, zin, zot, ?_, ?_⟩
        · have e9 : joinS (s1, p1, w1, h1, c1) (w0, h0, b0) = none := by unfold joinS; dsimp only; first | rw [if_pos (by omega), if_neg (by omega)] | rw [if_neg (by omega), if_neg (by omega)]
          rw [e9]; rfl
        · exact hR
        · have e9 : joinS (s1, p1, w1, h1, c1) (w0, h0, b0) = none := by unfold joinS; dsimp only; first | rw [if_pos (by omega), if_neg (by omega)] | rw [if_neg (by omega), if_neg (by omega)]
          intro it2 hi2
          rw [e9] at hi2
          cases hi2
      · skip
        refine lv_iload hx hb dX11_joins_131 (lv_at hl 1 rfl) ?_
        refine lv_bipush (v := nI 16) hx hb dX11_joins_133 (by decide) ?_
        refine mn_icmp_le (tgt := 140) hB dX11_joins_135 (by decide) (by omega) (by omega) (fun h_135 => ?_) (fun h_135 => ?_)
        · skip
          refine lv_sipush (v := nI 256) hx hb dX11_joins_140 (by decide +kernel) ?_
          have hsz9 : (w1 + w0) * h0 ≤ 256 ∨ ¬ s1 = 40 := by first | exact Or.inl (sz256 (by omega) (by omega)) | exact Or.inr (by omega)
          have hsz8 : w0 * (h1 + h0) ≤ 256 ∨ s1 = 40 := by first | exact Or.inl (sz256 (by omega) (by omega)) | exact Or.inr (by omega)
          refine lv_iload_n hx hb dX11_joins_143 rfl (lv_at hl 4 rfl) ?_
          refine mn_imul hB dX11_joins_144 ?_
          refine lv_istore (lv' := [(6, .int (nI (256 * (n - 1)))), (5, .int (nI 0)), (4, .int (nI h0)), (3, .int (nI (w1 + w0))), (2, .int (nI 1)), (1, .int (nI (n - 1))), (0, .ref r)]) hx hb dX11_joins_145 hl (by decide) rfl (fun ls hl => ?_)
          refine lv_iconst (v := nI 0) hx hb dX11_joins_147 (by decide) ?_
          refine lv_istore (lv' := [(7, .int (nI 0)), (6, .int (nI (256 * (n - 1)))), (5, .int (nI 0)), (4, .int (nI h0)), (3, .int (nI (w1 + w0))), (2, .int (nI 1)), (1, .int (nI (n - 1))), (0, .ref r)]) hx hb dX11_joins_148 hl (by decide) rfl (fun ls hl => ?_)
          refine mh_loop (σ := Nat) (fun xx9 H locs ls => match xx9 with | k9 => k9 ≤ (w1 + w0) * h0 ∧ ModAt g r zq zsp zrm zst zsl zsv ztx zln zth zsg zbg zwd zhg zin (nI n) zbe (nI w0) (nI h0) zbk (lowOf (joA w1 w0 (fun j9 => zin (256 * (n - 1) + j9)) zbk) zot k9) zer zen zpo zpi zgr zsh zsn H ∧ va_S (ftA (fun q => r ≤ q ∧ q < r + 16) H0.size) H0 H locs ∧ lv_has ls 11 [(0, .ref r), (1, .int (nI (n - 1))), (2, .int (nI 1)), (3, .int (nI (w1 + w0))), (4, .int (nI h0)), (5, .int (nI 0)), (6, .int (nI (256 * (n - 1)))), (7, .int (nI k9))]) (fun xx9 => match xx9 with | k9 => (w1 + w0) * h0 - k9) ?_ 0 ⟨(by omega), (by rw [lowOf_0]; exact hR), hS, lv_sub hl [7, 6, 5, 4, 3, 2, 1, 0] rfl⟩
          rintro k9 H locs ls ⟨hk9, hR, hS, hl⟩ ih
          have ih150 := ih
          refine lv_iload hx hb dX11_joins_150 (lv_at hl 7 rfl) ?_
          refine lv_iload_n hx hb dX11_joins_152 rfl (lv_at hl 3 rfl) ?_
          refine lv_iload hx hb dX11_joins_153 (lv_at hl 4 rfl) ?_
          refine mn_imul hB dX11_joins_155 ?_
          refine mn_icmp_ge (tgt := 304) hB dX11_joins_156 (by decide) (by omega) (by omega) (fun h_156 => ?_) (fun h_156 => ?_)
          · skip
            have hin9 : k9 = (w1 + w0) * h0 := by omega
            subst hin9
            refine lv_iconst (v := nI 0) hx hb dX11_joins_304 (by decide) ?_
            refine lv_istore (lv' := [(7, .int (nI 0)), (0, .ref r), (1, .int (nI (n - 1))), (2, .int (nI 1)), (3, .int (nI (w1 + w0))), (4, .int (nI h0)), (5, .int (nI 0)), (6, .int (nI (256 * (n - 1))))]) hx hb dX11_joins_305 hl (by decide) rfl (fun ls hl => ?_)
            refine mh_loop (σ := Nat) (fun xx9 H locs ls => match xx9 with | k8 => k8 ≤ (w1 + w0) * h0 ∧ ModAt g r zq zsp zrm zst zsl zsv ztx zln zth zsg zbg zwd zhg (layI zin (256 * (n - 1)) (joA w1 w0 (fun j9 => zin (256 * (n - 1) + j9)) zbk) k8) (nI n) zbe (nI w0) (nI h0) zbk (lowOf (joA w1 w0 (fun j9 => zin (256 * (n - 1) + j9)) zbk) zot ((w1 + w0) * h0)) zer zen zpo zpi zgr zsh zsn H ∧ va_S (ftA (fun q => r ≤ q ∧ q < r + 16) H0.size) H0 H locs ∧ lv_has ls 11 [(0, .ref r), (1, .int (nI (n - 1))), (2, .int (nI 1)), (3, .int (nI (w1 + w0))), (4, .int (nI h0)), (5, .int (nI 0)), (6, .int (nI (256 * (n - 1)))), (7, .int (nI k8))]) (fun xx9 => match xx9 with | k8 => (w1 + w0) * h0 - k8) ?_ 0 ⟨(by omega), (by rw [layI_0]; exact hR), hS, lv_sub hl [1, 2, 3, 4, 5, 6, 7, 0] rfl⟩
            rintro k8 H locs ls ⟨hk8, hR, hS, hl⟩ ih
            have ih307 := ih
            refine lv_iload hx hb dX11_joins_307 (lv_at hl 7 rfl) ?_
            refine lv_iload_n hx hb dX11_joins_309 rfl (lv_at hl 3 rfl) ?_
            refine lv_iload hx hb dX11_joins_310 (lv_at hl 4 rfl) ?_
            refine mn_imul hB dX11_joins_312 ?_
            refine mn_icmp_ge (tgt := 339) hB dX11_joins_313 (by decide) (by omega) (by omega) (fun h_313 => ?_) (fun h_313 => ?_)
            · skip
              have hin9 : k8 = (w1 + w0) * h0 := by omega
              subst hin9
              refine lv_aload_n hx hb dX11_joins_339 rfl (lv_at hl 0 rfl) ?_
              refine gf_X11_35 hB hR.o rfl dX11_joins_340 ?_
              refine lv_iload_n hx hb dX11_joins_343 rfl (lv_at hl 1 rfl) ?_
              refine lv_iload_n hx hb dX11_joins_344 rfl (lv_at hl 3 rfl) ?_
              refine mn_iast hB hR.a_zwd (by first | exact Or.inl rfl | (simp only [ftA]; omega) | (simp [ftA]; omega)) hS (by omega) (by omega) dX11_joins_345 (fun H locs hwr => ?_)
              obtain ⟨hR, hS⟩ := hR.w_zwd hwr
              refine lv_aload_n hx hb dX11_joins_346 rfl (lv_at hl 0 rfl) ?_
              refine gf_X11_38 hB hR.o rfl dX11_joins_347 ?_
              refine lv_iload_n hx hb dX11_joins_350 rfl (lv_at hl 1 rfl) ?_
              refine lv_iload hx hb dX11_joins_351 (lv_at hl 4 rfl) ?_
              refine mn_iast hB hR.a_zhg (by first | exact Or.inl rfl | (simp only [ftA]; omega) | (simp [ftA]; omega)) hS (by omega) (by omega) dX11_joins_353 (fun H locs hwr => ?_)
              obtain ⟨hR, hS⟩ := hR.w_zhg hwr
              refine lv_iconst (v := nI 1) hx hb dX11_joins_354 (by decide) ?_
              refine mh_zret hB ⟨Nat.le_of_ble_eq_true rfl, Nat.le_of_ble_eq_true rfl⟩ hS dX11_joins_355 (by first | rfl | decide | (split <;> rfl)) ⟨?_, (upd zwd (n - 1) (nI (w1 + w0))), (upd zhg (n - 1) (nI h0)), (layI zin (256 * (n - 1)) (joA w1 w0 (fun j9 => zin (256 * (n - 1) + j9)) zbk) ((w1 + w0) * h0)), (lowOf (joA w1 w0 (fun j9 => zin (256 * (n - 1) + j9)) zbk) zot ((w1 + w0) * h0)), ?_, ?_⟩
              · have e9 : joinS (s1, p1, w1, h1, c1) (w0, h0, b0) = some (s1, p1, w1 + w0, h0, joA w1 w0 c1 b0) := by unfold joinS; dsimp only; rw [if_pos (by omega), if_pos (by omega)]
                rw [e9]; rfl
              · exact hR
              · have e9 : joinS (s1, p1, w1, h1, c1) (w0, h0, b0) = some (s1, p1, w1 + w0, h0, joA w1 w0 c1 b0) := by unfold joinS; dsimp only; rw [if_pos (by omega), if_pos (by omega)]
                intro it2 hi2
                rw [e9] at hi2
                cases hi2
                refine ⟨fun j hj => ⟨upd_n (by omega), upd_n (by omega)⟩, fun j hj => layI_out hj, upd_s (α := Nat), upd_s (α := Nat), fun k hk => ?_⟩
                have h9 := joA_ok (c := fun j9 => zin (256 * (n - 1) + j9)) hc9 hb9 (by omega) hk
                exact ⟨(layI_in hk).trans h9.1, h9.2⟩
            · skip
              refine lv_aload_n hx hb dX11_joins_316 rfl (lv_at hl 0 rfl) ?_
              refine gf_X11_41 hB hR.o rfl dX11_joins_317 ?_
              refine lv_iload hx hb dX11_joins_320 (lv_at hl 6 rfl) ?_
              refine lv_iload hx hb dX11_joins_322 (lv_at hl 7 rfl) ?_
              refine mn_iadd hB dX11_joins_324 ?_
              refine lv_aload_n hx hb dX11_joins_325 rfl (lv_at hl 0 rfl) ?_
              refine gf_X11_47 hB hR.o rfl dX11_joins_326 ?_
              refine lv_iload hx hb dX11_joins_329 (lv_at hl 7 rfl) ?_
              refine mn_iald hB hR.a_zot (by omega) (by omega) dX11_joins_331 ?_
              refine mh_top (y := .int ((joA w1 w0 (fun j9 => zin (256 * (n - 1) + j9)) zbk) k8)) (by rw [lowOf_all _ _ (by omega)]) ?_
              refine mn_iast hB hR.a_zin (by first | exact Or.inl rfl | (simp only [ftA]; omega) | (simp [ftA]; omega)) hS (by omega) (by omega) dX11_joins_332 (fun H locs hwr => ?_)
              obtain ⟨hR, hS⟩ := hR.w_zin hwr
              refine lv_iinc (v := nI (k8 + 1)) (lv' := [(7, .int (nI (k8 + 1))), (0, .ref r), (1, .int (nI (n - 1))), (2, .int (nI 1)), (3, .int (nI (w1 + w0))), (4, .int (nI h0)), (5, .int (nI 0)), (6, .int (nI (256 * (n - 1))))]) hx hb dX11_joins_333 hl (k := 7) rfl (nI_1 _) (by decide) rfl (fun ls hl => ?_)
              refine lv_goto (tgt := 307) hx hb dX11_joins_336 (by decide) ?_
              refine ih307 (k8 + 1) _ _ _ ⟨(by omega), (by rw [← layI_up]; exact hR), hS, lv_sub hl [1, 2, 3, 4, 5, 6, 7, 0] rfl⟩ (by dsimp only; omega)
          · skip
            have hW9 : 0 < w1 + w0 := by
              rcases Nat.eq_zero_or_pos (w1 + w0) with z9 | z9
              · have z8 := h_156
                rw [z9, Nat.zero_mul] at z8
                omega
              · exact z9
            have hd9 : k9 / (w1 + w0) < h0 := Nat.div_lt_of_lt_mul h_156
            have hm9 := Nat.mod_lt k9 hW9
            have hz9 : 0 ≤ k9 / (w1 + w0) := Nat.zero_le _
            have he9 := Nat.mul_le_mul_right w1 hd9
            have he8 := Nat.mul_le_mul_right w0 hd9
            rw [Nat.succ_mul] at he9 he8
            have hg9 := sz256 hh0 hw1
            have hg8 := sz256 hh0 hw0
            refine lv_iload hx hb dX11_joins_159 (lv_at hl 7 rfl) ?_
            refine lv_iload_n hx hb dX11_joins_161 rfl (lv_at hl 3 rfl) ?_
            refine mn_irem hB dX11_joins_162 (by omega) (by omega) (by omega) ?_
            refine lv_istore (lv' := [(8, .int (nI (k9 % (w1 + w0)))), (0, .ref r), (1, .int (nI (n - 1))), (2, .int (nI 1)), (3, .int (nI (w1 + w0))), (4, .int (nI h0)), (5, .int (nI 0)), (6, .int (nI (256 * (n - 1)))), (7, .int (nI k9))]) hx hb dX11_joins_163 hl (by decide) rfl (fun ls hl => ?_)
            refine lv_iload hx hb dX11_joins_165 (lv_at hl 8 rfl) ?_
            refine lv_iload_n hx hb dX11_joins_167 rfl (lv_at hl 4 rfl) ?_
            refine mn_idiv hB dX11_joins_168 (by omega) (by omega) (by omega) ?_
            refine lv_istore (lv' := [(9, .int (nI (k9 / (w1 + w0)))), (8, .int (nI (k9 % (w1 + w0)))), (0, .ref r), (1, .int (nI (n - 1))), (2, .int (nI 1)), (3, .int (nI (w1 + w0))), (4, .int (nI h0)), (5, .int (nI 0)), (6, .int (nI (256 * (n - 1)))), (7, .int (nI k9))]) hx hb dX11_joins_169 hl (by decide) rfl (fun ls hl => ?_)
            refine lv_iload_n hx hb dX11_joins_171 rfl (lv_at hl 4 rfl) ?_
            refine mn_if_eq (tgt := 194) hB dX11_joins_172 (by decide) (by omega) (fun h => by exfalso; omega) (fun h_172 => ?_)
            refine lv_iload hx hb dX11_joins_175 (lv_at hl 1 rfl) ?_
            refine lv_aload_n hx hb dX11_joins_177 rfl (lv_at hl 2 rfl) ?_
            refine gf_X11_35 hB hR.o rfl dX11_joins_178 ?_
            refine lv_iload_n hx hb dX11_joins_181 rfl (lv_at hl 3 rfl) ?_
            refine mn_iald hB hR.a_zwd (by omega) (by omega) dX11_joins_182 ?_
            refine mh_top (y := .int (nI w1)) (by rw [hw9]) ?_
            refine mn_icmp_ge (tgt := 190) hB dX11_joins_183 (by decide) (by omega) (by omega) (fun h_183 => ?_) (fun h_183 => ?_)
            · skip
              refine lv_iconst (v := nI 0) hx hb dX11_joins_190 (by decide) ?_
              refine lv_goto (tgt := 210) hx hb dX11_joins_191 (by decide) ?_
              refine lv_istore (lv' := [(10, .int (nI 0)), (9, .int (nI (k9 / (w1 + w0)))), (8, .int (nI (k9 % (w1 + w0)))), (0, .ref r), (1, .int (nI (n - 1))), (2, .int (nI 1)), (3, .int (nI (w1 + w0))), (4, .int (nI h0)), (5, .int (nI 0)), (6, .int (nI (256 * (n - 1)))), (7, .int (nI k9))]) hx hb dX11_joins_210 hl (by decide) rfl (fun ls hl => ?_)
              refine lv_aload_n hx hb dX11_joins_212 rfl (lv_at hl 3 rfl) ?_
              refine gf_X11_47 hB hR.o rfl dX11_joins_213 ?_
              refine lv_iload hx hb dX11_joins_216 (lv_at hl 10 rfl) ?_
              refine lv_iload hx hb dX11_joins_218 (lv_at hl 0 rfl) ?_
              refine mn_if_eq (tgt := 246) hB dX11_joins_220 (by decide) (by omega) (fun h_220 => ?_) (fun h => by exfalso; omega)
              refine lv_iload_n hx hb dX11_joins_246 rfl (lv_at hl 5 rfl) ?_
              refine mn_if_eq (tgt := 275) hB dX11_joins_247 (by decide) (by omega) (fun h => by exfalso; omega) (fun h_247 => ?_)
              refine lv_aload_n hx hb dX11_joins_250 rfl (lv_at hl 3 rfl) ?_
              refine gf_X11_44 hB hR.o rfl dX11_joins_251 ?_
              refine lv_iload hx hb dX11_joins_254 (lv_at hl 1 rfl) ?_
              refine lv_aload_n hx hb dX11_joins_256 rfl (lv_at hl 3 rfl) ?_
              refine gf_X11_90 hB hR.o rfl dX11_joins_257 ?_
              refine mn_imul hB dX11_joins_260 ?_
              refine lv_iload hx hb dX11_joins_261 (lv_at hl 2 rfl) ?_
              refine mn_iadd hB dX11_joins_263 ?_
              refine lv_aload_n hx hb dX11_joins_264 rfl (lv_at hl 3 rfl) ?_
              refine gf_X11_35 hB hR.o rfl dX11_joins_265 ?_
              refine lv_iload_n hx hb dX11_joins_268 rfl (lv_at hl 4 rfl) ?_
              refine mn_iald hB hR.a_zwd (by omega) (by omega) dX11_joins_269 ?_
              refine mh_top (y := .int (nI w1)) (by rw [hw9]) ?_
              refine mn_isub hB dX11_joins_270 (by omega) ?_
              refine mn_iald hB hR.a_zbk (by omega) (by omega) dX11_joins_271 ?_
              refine mh_top (y := .int ((joA w1 w0 (fun j9 => zin (256 * (n - 1) + j9)) zbk) k9)) (by unfold joA; rw [if_neg (by omega)]) ?_
              refine lv_goto (tgt := 297) hx hb dX11_joins_272 (by decide) ?_
              refine mn_iast hB hR.a_zot (by first | exact Or.inl rfl | (simp only [ftA]; omega) | (simp [ftA]; omega)) hS (by omega) (by omega) dX11_joins_297 (fun H locs hwr => ?_)
              obtain ⟨hR, hS⟩ := hR.w_zot hwr
              refine lv_iinc (v := nI (k9 + 1)) (lv' := [(7, .int (nI (k9 + 1))), (10, .int (nI 0)), (9, .int (nI (k9 / (w1 + w0)))), (8, .int (nI (k9 % (w1 + w0)))), (0, .ref r), (1, .int (nI (n - 1))), (2, .int (nI 1)), (3, .int (nI (w1 + w0))), (4, .int (nI h0)), (5, .int (nI 0)), (6, .int (nI (256 * (n - 1))))]) hx hb dX11_joins_298 hl (k := 10) rfl (nI_1 _) (by decide) rfl (fun ls hl => ?_)
              refine lv_goto (tgt := 150) hx hb dX11_joins_301 (by decide) ?_
              refine ih150 (k9 + 1) _ _ _ ⟨(by omega), (by rw [← lowOf_up]; exact hR), hS, lv_sub hl [4, 5, 6, 7, 8, 9, 10, 0] rfl⟩ (by dsimp only; omega)
            · skip
              refine lv_iconst (v := nI 1) hx hb dX11_joins_186 (by decide) ?_
              refine lv_goto (tgt := 210) hx hb dX11_joins_187 (by decide) ?_
              refine lv_istore (lv' := [(10, .int (nI 1)), (9, .int (nI (k9 / (w1 + w0)))), (8, .int (nI (k9 % (w1 + w0)))), (0, .ref r), (1, .int (nI (n - 1))), (2, .int (nI 1)), (3, .int (nI (w1 + w0))), (4, .int (nI h0)), (5, .int (nI 0)), (6, .int (nI (256 * (n - 1)))), (7, .int (nI k9))]) hx hb dX11_joins_210 hl (by decide) rfl (fun ls hl => ?_)
              refine lv_aload_n hx hb dX11_joins_212 rfl (lv_at hl 3 rfl) ?_
              refine gf_X11_47 hB hR.o rfl dX11_joins_213 ?_
              refine lv_iload hx hb dX11_joins_216 (lv_at hl 10 rfl) ?_
              refine lv_iload hx hb dX11_joins_218 (lv_at hl 0 rfl) ?_
              refine mn_if_eq (tgt := 246) hB dX11_joins_220 (by decide) (by omega) (fun h => by exfalso; omega) (fun h_220 => ?_)
              refine lv_aload_n hx hb dX11_joins_223 rfl (lv_at hl 3 rfl) ?_
              refine gf_X11_41 hB hR.o rfl dX11_joins_224 ?_
              refine lv_iload hx hb dX11_joins_227 (lv_at hl 9 rfl) ?_
              refine lv_iload hx hb dX11_joins_229 (lv_at hl 1 rfl) ?_
              refine lv_aload_n hx hb dX11_joins_231 rfl (lv_at hl 3 rfl) ?_
              refine gf_X11_35 hB hR.o rfl dX11_joins_232 ?_
              refine lv_iload_n hx hb dX11_joins_235 rfl (lv_at hl 4 rfl) ?_
              refine mn_iald hB hR.a_zwd (by omega) (by omega) dX11_joins_236 ?_
              refine mh_top (y := .int (nI w1)) (by rw [hw9]) ?_
              refine mn_imul hB dX11_joins_237 ?_
              refine mn_iadd hB dX11_joins_238 ?_
              refine lv_iload hx hb dX11_joins_239 (lv_at hl 2 rfl) ?_
              refine mn_iadd hB dX11_joins_241 ?_
              refine mn_iald hB hR.a_zin (by omega) (by omega) dX11_joins_242 ?_
              refine mh_top (y := .int ((joA w1 w0 (fun j9 => zin (256 * (n - 1) + j9)) zbk) k9)) (by unfold joA; rw [if_pos (by omega)]; exact congrArg (fun z => Value.int (zin z)) (Nat.add_assoc _ _ _)) ?_
              refine lv_goto (tgt := 297) hx hb dX11_joins_243 (by decide) ?_
              refine mn_iast hB hR.a_zot (by first | exact Or.inl rfl | (simp only [ftA]; omega) | (simp [ftA]; omega)) hS (by omega) (by omega) dX11_joins_297 (fun H locs hwr => ?_)
              obtain ⟨hR, hS⟩ := hR.w_zot hwr
              refine lv_iinc (v := nI (k9 + 1)) (lv' := [(7, .int (nI (k9 + 1))), (10, .int (nI 1)), (9, .int (nI (k9 / (w1 + w0)))), (8, .int (nI (k9 % (w1 + w0)))), (0, .ref r), (1, .int (nI (n - 1))), (2, .int (nI 1)), (3, .int (nI (w1 + w0))), (4, .int (nI h0)), (5, .int (nI 0)), (6, .int (nI (256 * (n - 1))))]) hx hb dX11_joins_298 hl (k := 10) rfl (nI_1 _) (by decide) rfl (fun ls hl => ?_)
              refine lv_goto (tgt := 150) hx hb dX11_joins_301 (by decide) ?_
              refine ih150 (k9 + 1) _ _ _ ⟨(by omega), (by rw [← lowOf_up]; exact hR), hS, lv_sub hl [4, 5, 6, 7, 8, 9, 10, 0] rfl⟩ (by dsimp only; omega)
        · skip
          refine lv_iconst (v := nI 0) hx hb dX11_joins_138 (by decide) ?_
          refine mh_zret hB ⟨Nat.le_of_ble_eq_true rfl, Nat.le_of_ble_eq_true rfl⟩ hS dX11_joins_139 (by first | rfl | decide | (split <;> rfl)) ⟨?_, zwd, zhg, zin, zot, ?_, ?_⟩
          · have e9 : joinS (s1, p1, w1, h1, c1) (w0, h0, b0) = none := by unfold joinS; dsimp only; first | rw [if_pos (by omega), if_neg (by omega)] | rw [if_neg (by omega), if_neg (by omega)]
            rw [e9]; rfl
          · exact hR
          · have e9 : joinS (s1, p1, w1, h1, c1) (w0, h0, b0) = none := by unfold joinS; dsimp only; first | rw [if_pos (by omega), if_neg (by omega)] | rw [if_neg (by omega), if_neg (by omega)]
            intro it2 hi2
            rw [e9] at hi2
            cases hi2
    · skip
      refine lv_iload_n hx hb dX11_joins_80 rfl (lv_at hl 2 rfl) ?_
      refine mn_if_eq (tgt := 100) hB dX11_joins_81 (by decide) (by omega) (fun h => by exfalso; omega) (fun h_81 => ?_)
      refine lv_aload_n hx hb dX11_joins_84 rfl (lv_at hl 4 rfl) ?_
      refine gf_X11_93 hB hR.o rfl dX11_joins_85 ?_
      refine lv_aload_n hx hb dX11_joins_88 rfl (lv_at hl 4 rfl) ?_
      refine gf_X11_38 hB hR.o rfl dX11_joins_89 ?_
      refine lv_iload_n hx hb dX11_joins_92 rfl (lv_at hl 3 rfl) ?_
      refine mn_iald hB hR.a_zhg (by omega) (by omega) dX11_joins_93 ?_
      refine mh_top (y := .int (nI h1)) (by rw [hh9]) ?_
      refine mn_icmp_eq (tgt := 117) hB dX11_joins_94 (by decide) (by omega) (by omega) (fun h_94 => ?_) (fun h_94 => ?_)
      · skip
        refine lv_iconst (v := nI 0) hx hb dX11_joins_117 (by decide) ?_
        refine lv_istore (lv' := [(5, .int (nI 0)), (4, .int (nI h0)), (3, .int (nI (w1 + w0))), (2, .int (nI 1)), (1, .int (nI (n - 1))), (0, .ref r)]) hx hb dX11_joins_118 hl (by decide) rfl (fun ls hl => ?_)
        refine lv_iload hx hb dX11_joins_120 (lv_at hl 0 rfl) ?_
        refine mn_if_ne (tgt := 138) hB dX11_joins_122 (by decide) (by omega) (fun h => by exfalso; omega) (fun h_122 => ?_)
        refine lv_iload_n hx hb dX11_joins_125 rfl (lv_at hl 2 rfl) ?_
        refine lv_bipush (v := nI 16) hx hb dX11_joins_126 (by decide) ?_
        refine mn_icmp_gt (tgt := 138) hB dX11_joins_128 (by decide) (by omega) (by omega) (fun h_128 => ?_) (fun h_128 => ?_)
        · skip
          refine lv_iconst (v := nI 0) hx hb dX11_joins_138 (by decide) ?_
          refine mh_zret hB ⟨Nat.le_of_ble_eq_true rfl, Nat.le_of_ble_eq_true rfl⟩ hS dX11_joins_139 (by first | rfl | decide | (split <;> rfl)) ⟨?_, zwd, zhg, zin, zot, ?_, ?_⟩
          · have e9 : joinS (s1, p1, w1, h1, c1) (w0, h0, b0) = none := by unfold joinS; dsimp only; first | rw [if_pos (by omega), if_neg (by omega)] | rw [if_neg (by omega), if_neg (by omega)]
            rw [e9]; rfl
          · exact hR
          · have e9 : joinS (s1, p1, w1, h1, c1) (w0, h0, b0) = none := by unfold joinS; dsimp only; first | rw [if_pos (by omega), if_neg (by omega)] | rw [if_neg (by omega), if_neg (by omega)]
            intro it2 hi2
            rw [e9] at hi2
            cases hi2
        · skip
          refine lv_iload hx hb dX11_joins_131 (lv_at hl 1 rfl) ?_
          refine lv_bipush (v := nI 16) hx hb dX11_joins_133 (by decide) ?_
          refine mn_icmp_le (tgt := 140) hB dX11_joins_135 (by decide) (by omega) (by omega) (fun h_135 => ?_) (fun h_135 => ?_)
          · skip
            refine lv_sipush (v := nI 256) hx hb dX11_joins_140 (by decide +kernel) ?_
            have hsz9 : (w1 + w0) * h0 ≤ 256 ∨ ¬ s1 = 40 := by first | exact Or.inl (sz256 (by omega) (by omega)) | exact Or.inr (by omega)
            have hsz8 : w0 * (h1 + h0) ≤ 256 ∨ s1 = 40 := by first | exact Or.inl (sz256 (by omega) (by omega)) | exact Or.inr (by omega)
            refine lv_iload_n hx hb dX11_joins_143 rfl (lv_at hl 4 rfl) ?_
            refine mn_imul hB dX11_joins_144 ?_
            refine lv_istore (lv' := [(6, .int (nI (256 * (n - 1)))), (5, .int (nI 0)), (4, .int (nI h0)), (3, .int (nI (w1 + w0))), (2, .int (nI 1)), (1, .int (nI (n - 1))), (0, .ref r)]) hx hb dX11_joins_145 hl (by decide) rfl (fun ls hl => ?_)
            refine lv_iconst (v := nI 0) hx hb dX11_joins_147 (by decide) ?_
            refine lv_istore (lv' := [(7, .int (nI 0)), (6, .int (nI (256 * (n - 1)))), (5, .int (nI 0)), (4, .int (nI h0)), (3, .int (nI (w1 + w0))), (2, .int (nI 1)), (1, .int (nI (n - 1))), (0, .ref r)]) hx hb dX11_joins_148 hl (by decide) rfl (fun ls hl => ?_)
            refine mh_loop (σ := Nat) (fun xx9 H locs ls => match xx9 with | k9 => k9 ≤ (w1 + w0) * h0 ∧ ModAt g r zq zsp zrm zst zsl zsv ztx zln zth zsg zbg zwd zhg zin (nI n) zbe (nI w0) (nI h0) zbk (lowOf (joA w1 w0 (fun j9 => zin (256 * (n - 1) + j9)) zbk) zot k9) zer zen zpo zpi zgr zsh zsn H ∧ va_S (ftA (fun q => r ≤ q ∧ q < r + 16) H0.size) H0 H locs ∧ lv_has ls 11 [(0, .ref r), (1, .int (nI (n - 1))), (2, .int (nI 1)), (3, .int (nI (w1 + w0))), (4, .int (nI h0)), (5, .int (nI 0)), (6, .int (nI (256 * (n - 1)))), (7, .int (nI k9))]) (fun xx9 => match xx9 with | k9 => (w1 + w0) * h0 - k9) ?_ 0 ⟨(by omega), (by rw [lowOf_0]; exact hR), hS, lv_sub hl [7, 6, 5, 4, 3, 2, 1, 0] rfl⟩
            rintro k9 H locs ls ⟨hk9, hR, hS, hl⟩ ih
            have ih150 := ih
            refine lv_iload hx hb dX11_joins_150 (lv_at hl 7 rfl) ?_
            refine lv_iload_n hx hb dX11_joins_152 rfl (lv_at hl 3 rfl) ?_
            refine lv_iload hx hb dX11_joins_153 (lv_at hl 4 rfl) ?_
            refine mn_imul hB dX11_joins_155 ?_
            refine mn_icmp_ge (tgt := 304) hB dX11_joins_156 (by decide) (by omega) (by omega) (fun h_156 => ?_) (fun h_156 => ?_)
            · skip
              have hin9 : k9 = (w1 + w0) * h0 := by omega
              subst hin9
              refine lv_iconst (v := nI 0) hx hb dX11_joins_304 (by decide) ?_
              refine lv_istore (lv' := [(7, .int (nI 0)), (0, .ref r), (1, .int (nI (n - 1))), (2, .int (nI 1)), (3, .int (nI (w1 + w0))), (4, .int (nI h0)), (5, .int (nI 0)), (6, .int (nI (256 * (n - 1))))]) hx hb dX11_joins_305 hl (by decide) rfl (fun ls hl => ?_)
              refine mh_loop (σ := Nat) (fun xx9 H locs ls => match xx9 with | k8 => k8 ≤ (w1 + w0) * h0 ∧ ModAt g r zq zsp zrm zst zsl zsv ztx zln zth zsg zbg zwd zhg (layI zin (256 * (n - 1)) (joA w1 w0 (fun j9 => zin (256 * (n - 1) + j9)) zbk) k8) (nI n) zbe (nI w0) (nI h0) zbk (lowOf (joA w1 w0 (fun j9 => zin (256 * (n - 1) + j9)) zbk) zot ((w1 + w0) * h0)) zer zen zpo zpi zgr zsh zsn H ∧ va_S (ftA (fun q => r ≤ q ∧ q < r + 16) H0.size) H0 H locs ∧ lv_has ls 11 [(0, .ref r), (1, .int (nI (n - 1))), (2, .int (nI 1)), (3, .int (nI (w1 + w0))), (4, .int (nI h0)), (5, .int (nI 0)), (6, .int (nI (256 * (n - 1)))), (7, .int (nI k8))]) (fun xx9 => match xx9 with | k8 => (w1 + w0) * h0 - k8) ?_ 0 ⟨(by omega), (by rw [layI_0]; exact hR), hS, lv_sub hl [1, 2, 3, 4, 5, 6, 7, 0] rfl⟩
              rintro k8 H locs ls ⟨hk8, hR, hS, hl⟩ ih
              have ih307 := ih
              refine lv_iload hx hb dX11_joins_307 (lv_at hl 7 rfl) ?_
              refine lv_iload_n hx hb dX11_joins_309 rfl (lv_at hl 3 rfl) ?_
              refine lv_iload hx hb dX11_joins_310 (lv_at hl 4 rfl) ?_
              refine mn_imul hB dX11_joins_312 ?_
              refine mn_icmp_ge (tgt := 339) hB dX11_joins_313 (by decide) (by omega) (by omega) (fun h_313 => ?_) (fun h_313 => ?_)
              · skip
                have hin9 : k8 = (w1 + w0) * h0 := by omega
                subst hin9
                refine lv_aload_n hx hb dX11_joins_339 rfl (lv_at hl 0 rfl) ?_
                refine gf_X11_35 hB hR.o rfl dX11_joins_340 ?_
                refine lv_iload_n hx hb dX11_joins_343 rfl (lv_at hl 1 rfl) ?_
                refine lv_iload_n hx hb dX11_joins_344 rfl (lv_at hl 3 rfl) ?_
                refine mn_iast hB hR.a_zwd (by first | exact Or.inl rfl | (simp only [ftA]; omega) | (simp [ftA]; omega)) hS (by omega) (by omega) dX11_joins_345 (fun H locs hwr => ?_)
                obtain ⟨hR, hS⟩ := hR.w_zwd hwr
                refine lv_aload_n hx hb dX11_joins_346 rfl (lv_at hl 0 rfl) ?_
                refine gf_X11_38 hB hR.o rfl dX11_joins_347 ?_
                refine lv_iload_n hx hb dX11_joins_350 rfl (lv_at hl 1 rfl) ?_
                refine lv_iload hx hb dX11_joins_351 (lv_at hl 4 rfl) ?_
                refine mn_iast hB hR.a_zhg (by first | exact Or.inl rfl | (simp only [ftA]; omega) | (simp [ftA]; omega)) hS (by omega) (by omega) dX11_joins_353 (fun H locs hwr => ?_)
                obtain ⟨hR, hS⟩ := hR.w_zhg hwr
                refine lv_iconst (v := nI 1) hx hb dX11_joins_354 (by decide) ?_
                refine mh_zret hB ⟨Nat.le_of_ble_eq_true rfl, Nat.le_of_ble_eq_true rfl⟩ hS dX11_joins_355 (by first | rfl | decide | (split <;> rfl)) ⟨?_, (upd zwd (n - 1) (nI (w1 + w0))), (upd zhg (n - 1) (nI h0)), (layI zin (256 * (n - 1)) (joA w1 w0 (fun j9 => zin (256 * (n - 1) + j9)) zbk) ((w1 + w0) * h0)), (lowOf (joA w1 w0 (fun j9 => zin (256 * (n - 1) + j9)) zbk) zot ((w1 + w0) * h0)), ?_, ?_⟩
                · have e9 : joinS (s1, p1, w1, h1, c1) (w0, h0, b0) = some (s1, p1, w1 + w0, h0, joA w1 w0 c1 b0) := by unfold joinS; dsimp only; rw [if_pos (by omega), if_pos (by omega)]
                  rw [e9]; rfl
                · exact hR
                · have e9 : joinS (s1, p1, w1, h1, c1) (w0, h0, b0) = some (s1, p1, w1 + w0, h0, joA w1 w0 c1 b0) := by unfold joinS; dsimp only; rw [if_pos (by omega), if_pos (by omega)]
                  intro it2 hi2
                  rw [e9] at hi2
                  cases hi2
                  refine ⟨fun j hj => ⟨upd_n (by omega), upd_n (by omega)⟩, fun j hj => layI_out hj, upd_s (α := Nat), upd_s (α := Nat), fun k hk => ?_⟩
                  have h9 := joA_ok (c := fun j9 => zin (256 * (n - 1) + j9)) hc9 hb9 (by omega) hk
                  exact ⟨(layI_in hk).trans h9.1, h9.2⟩
              · skip
                refine lv_aload_n hx hb dX11_joins_316 rfl (lv_at hl 0 rfl) ?_
                refine gf_X11_41 hB hR.o rfl dX11_joins_317 ?_
                refine lv_iload hx hb dX11_joins_320 (lv_at hl 6 rfl) ?_
                refine lv_iload hx hb dX11_joins_322 (lv_at hl 7 rfl) ?_
                refine mn_iadd hB dX11_joins_324 ?_
                refine lv_aload_n hx hb dX11_joins_325 rfl (lv_at hl 0 rfl) ?_
                refine gf_X11_47 hB hR.o rfl dX11_joins_326 ?_
                refine lv_iload hx hb dX11_joins_329 (lv_at hl 7 rfl) ?_
                refine mn_iald hB hR.a_zot (by omega) (by omega) dX11_joins_331 ?_
                refine mh_top (y := .int ((joA w1 w0 (fun j9 => zin (256 * (n - 1) + j9)) zbk) k8)) (by rw [lowOf_all _ _ (by omega)]) ?_
                refine mn_iast hB hR.a_zin (by first | exact Or.inl rfl | (simp only [ftA]; omega) | (simp [ftA]; omega)) hS (by omega) (by omega) dX11_joins_332 (fun H locs hwr => ?_)
                obtain ⟨hR, hS⟩ := hR.w_zin hwr
                refine lv_iinc (v := nI (k8 + 1)) (lv' := [(7, .int (nI (k8 + 1))), (0, .ref r), (1, .int (nI (n - 1))), (2, .int (nI 1)), (3, .int (nI (w1 + w0))), (4, .int (nI h0)), (5, .int (nI 0)), (6, .int (nI (256 * (n - 1))))]) hx hb dX11_joins_333 hl (k := 7) rfl (nI_1 _) (by decide) rfl (fun ls hl => ?_)
                refine lv_goto (tgt := 307) hx hb dX11_joins_336 (by decide) ?_
                refine ih307 (k8 + 1) _ _ _ ⟨(by omega), (by rw [← layI_up]; exact hR), hS, lv_sub hl [1, 2, 3, 4, 5, 6, 7, 0] rfl⟩ (by dsimp only; omega)
            · skip
              have hW9 : 0 < w1 + w0 := by
                rcases Nat.eq_zero_or_pos (w1 + w0) with z9 | z9
                · have z8 := h_156
                  rw [z9, Nat.zero_mul] at z8
                  omega
                · exact z9
              have hd9 : k9 / (w1 + w0) < h0 := Nat.div_lt_of_lt_mul h_156
              have hm9 := Nat.mod_lt k9 hW9
              have hz9 : 0 ≤ k9 / (w1 + w0) := Nat.zero_le _
              have he9 := Nat.mul_le_mul_right w1 hd9
              have he8 := Nat.mul_le_mul_right w0 hd9
              rw [Nat.succ_mul] at he9 he8
              have hg9 := sz256 hh0 hw1
              have hg8 := sz256 hh0 hw0
              refine lv_iload hx hb dX11_joins_159 (lv_at hl 7 rfl) ?_
              refine lv_iload_n hx hb dX11_joins_161 rfl (lv_at hl 3 rfl) ?_
              refine mn_irem hB dX11_joins_162 (by omega) (by omega) (by omega) ?_
              refine lv_istore (lv' := [(8, .int (nI (k9 % (w1 + w0)))), (0, .ref r), (1, .int (nI (n - 1))), (2, .int (nI 1)), (3, .int (nI (w1 + w0))), (4, .int (nI h0)), (5, .int (nI 0)), (6, .int (nI (256 * (n - 1)))), (7, .int (nI k9))]) hx hb dX11_joins_163 hl (by decide) rfl (fun ls hl => ?_)
              refine lv_iload hx hb dX11_joins_165 (lv_at hl 8 rfl) ?_
              refine lv_iload_n hx hb dX11_joins_167 rfl (lv_at hl 4 rfl) ?_
              refine mn_idiv hB dX11_joins_168 (by omega) (by omega) (by omega) ?_
              refine lv_istore (lv' := [(9, .int (nI (k9 / (w1 + w0)))), (8, .int (nI (k9 % (w1 + w0)))), (0, .ref r), (1, .int (nI (n - 1))), (2, .int (nI 1)), (3, .int (nI (w1 + w0))), (4, .int (nI h0)), (5, .int (nI 0)), (6, .int (nI (256 * (n - 1)))), (7, .int (nI k9))]) hx hb dX11_joins_169 hl (by decide) rfl (fun ls hl => ?_)
              refine lv_iload_n hx hb dX11_joins_171 rfl (lv_at hl 4 rfl) ?_
              refine mn_if_eq (tgt := 194) hB dX11_joins_172 (by decide) (by omega) (fun h => by exfalso; omega) (fun h_172 => ?_)
              refine lv_iload hx hb dX11_joins_175 (lv_at hl 1 rfl) ?_
              refine lv_aload_n hx hb dX11_joins_177 rfl (lv_at hl 2 rfl) ?_
              refine gf_X11_35 hB hR.o rfl dX11_joins_178 ?_
              refine lv_iload_n hx hb dX11_joins_181 rfl (lv_at hl 3 rfl) ?_
              refine mn_iald hB hR.a_zwd (by omega) (by omega) dX11_joins_182 ?_
              refine mh_top (y := .int (nI w1)) (by rw [hw9]) ?_
              refine mn_icmp_ge (tgt := 190) hB dX11_joins_183 (by decide) (by omega) (by omega) (fun h_183 => ?_) (fun h_183 => ?_)
              · skip
                refine lv_iconst (v := nI 0) hx hb dX11_joins_190 (by decide) ?_
                refine lv_goto (tgt := 210) hx hb dX11_joins_191 (by decide) ?_
                refine lv_istore (lv' := [(10, .int (nI 0)), (9, .int (nI (k9 / (w1 + w0)))), (8, .int (nI (k9 % (w1 + w0)))), (0, .ref r), (1, .int (nI (n - 1))), (2, .int (nI 1)), (3, .int (nI (w1 + w0))), (4, .int (nI h0)), (5, .int (nI 0)), (6, .int (nI (256 * (n - 1)))), (7, .int (nI k9))]) hx hb dX11_joins_210 hl (by decide) rfl (fun ls hl => ?_)
                refine lv_aload_n hx hb dX11_joins_212 rfl (lv_at hl 3 rfl) ?_
                refine gf_X11_47 hB hR.o rfl dX11_joins_213 ?_
                refine lv_iload hx hb dX11_joins_216 (lv_at hl 10 rfl) ?_
                refine lv_iload hx hb dX11_joins_218 (lv_at hl 0 rfl) ?_
                refine mn_if_eq (tgt := 246) hB dX11_joins_220 (by decide) (by omega) (fun h_220 => ?_) (fun h => by exfalso; omega)
                refine lv_iload_n hx hb dX11_joins_246 rfl (lv_at hl 5 rfl) ?_
                refine mn_if_eq (tgt := 275) hB dX11_joins_247 (by decide) (by omega) (fun h => by exfalso; omega) (fun h_247 => ?_)
                refine lv_aload_n hx hb dX11_joins_250 rfl (lv_at hl 3 rfl) ?_
                refine gf_X11_44 hB hR.o rfl dX11_joins_251 ?_
                refine lv_iload hx hb dX11_joins_254 (lv_at hl 1 rfl) ?_
                refine lv_aload_n hx hb dX11_joins_256 rfl (lv_at hl 3 rfl) ?_
                refine gf_X11_90 hB hR.o rfl dX11_joins_257 ?_
                refine mn_imul hB dX11_joins_260 ?_
                refine lv_iload hx hb dX11_joins_261 (lv_at hl 2 rfl) ?_
                refine mn_iadd hB dX11_joins_263 ?_
                refine lv_aload_n hx hb dX11_joins_264 rfl (lv_at hl 3 rfl) ?_
                refine gf_X11_35 hB hR.o rfl dX11_joins_265 ?_
                refine lv_iload_n hx hb dX11_joins_268 rfl (lv_at hl 4 rfl) ?_
                refine mn_iald hB hR.a_zwd (by omega) (by omega) dX11_joins_269 ?_
                refine mh_top (y := .int (nI w1)) (by rw [hw9]) ?_
                refine mn_isub hB dX11_joins_270 (by omega) ?_
                refine mn_iald hB hR.a_zbk (by omega) (by omega) dX11_joins_271 ?_
                refine mh_top (y := .int ((joA w1 w0 (fun j9 => zin (256 * (n - 1) + j9)) zbk) k9)) (by unfold joA; rw [if_neg (by omega)]) ?_
                refine lv_goto (tgt := 297) hx hb dX11_joins_272 (by decide) ?_
                refine mn_iast hB hR.a_zot (by first | exact Or.inl rfl | (simp only [ftA]; omega) | (simp [ftA]; omega)) hS (by omega) (by omega) dX11_joins_297 (fun H locs hwr => ?_)
                obtain ⟨hR, hS⟩ := hR.w_zot hwr
                refine lv_iinc (v := nI (k9 + 1)) (lv' := [(7, .int (nI (k9 + 1))), (10, .int (nI 0)), (9, .int (nI (k9 / (w1 + w0)))), (8, .int (nI (k9 % (w1 + w0)))), (0, .ref r), (1, .int (nI (n - 1))), (2, .int (nI 1)), (3, .int (nI (w1 + w0))), (4, .int (nI h0)), (5, .int (nI 0)), (6, .int (nI (256 * (n - 1))))]) hx hb dX11_joins_298 hl (k := 10) rfl (nI_1 _) (by decide) rfl (fun ls hl => ?_)
                refine lv_goto (tgt := 150) hx hb dX11_joins_301 (by decide) ?_
                refine ih150 (k9 + 1) _ _ _ ⟨(by omega), (by rw [← lowOf_up]; exact hR), hS, lv_sub hl [4, 5, 6, 7, 8, 9, 10, 0] rfl⟩ (by dsimp only; omega)
              · skip
                refine lv_iconst (v := nI 1) hx hb dX11_joins_186 (by decide) ?_
                refine lv_goto (tgt := 210) hx hb dX11_joins_187 (by decide) ?_
                refine lv_istore (lv' := [(10, .int (nI 1)), (9, .int (nI (k9 / (w1 + w0)))), (8, .int (nI (k9 % (w1 + w0)))), (0, .ref r), (1, .int (nI (n - 1))), (2, .int (nI 1)), (3, .int (nI (w1 + w0))), (4, .int (nI h0)), (5, .int (nI 0)), (6, .int (nI (256 * (n - 1)))), (7, .int (nI k9))]) hx hb dX11_joins_210 hl (by decide) rfl (fun ls hl => ?_)
                refine lv_aload_n hx hb dX11_joins_212 rfl (lv_at hl 3 rfl) ?_
                refine gf_X11_47 hB hR.o rfl dX11_joins_213 ?_
                refine lv_iload hx hb dX11_joins_216 (lv_at hl 10 rfl) ?_
                refine lv_iload hx hb dX11_joins_218 (lv_at hl 0 rfl) ?_
                refine mn_if_eq (tgt := 246) hB dX11_joins_220 (by decide) (by omega) (fun h => by exfalso; omega) (fun h_220 => ?_)
                refine lv_aload_n hx hb dX11_joins_223 rfl (lv_at hl 3 rfl) ?_
                refine gf_X11_41 hB hR.o rfl dX11_joins_224 ?_
                refine lv_iload hx hb dX11_joins_227 (lv_at hl 9 rfl) ?_
                refine lv_iload hx hb dX11_joins_229 (lv_at hl 1 rfl) ?_
                refine lv_aload_n hx hb dX11_joins_231 rfl (lv_at hl 3 rfl) ?_
                refine gf_X11_35 hB hR.o rfl dX11_joins_232 ?_
                refine lv_iload_n hx hb dX11_joins_235 rfl (lv_at hl 4 rfl) ?_
                refine mn_iald hB hR.a_zwd (by omega) (by omega) dX11_joins_236 ?_
                refine mh_top (y := .int (nI w1)) (by rw [hw9]) ?_
                refine mn_imul hB dX11_joins_237 ?_
                refine mn_iadd hB dX11_joins_238 ?_
                refine lv_iload hx hb dX11_joins_239 (lv_at hl 2 rfl) ?_
                refine mn_iadd hB dX11_joins_241 ?_
                refine mn_iald hB hR.a_zin (by omega) (by omega) dX11_joins_242 ?_
                refine mh_top (y := .int ((joA w1 w0 (fun j9 => zin (256 * (n - 1) + j9)) zbk) k9)) (by unfold joA; rw [if_pos (by omega)]; exact congrArg (fun z => Value.int (zin z)) (Nat.add_assoc _ _ _)) ?_
                refine lv_goto (tgt := 297) hx hb dX11_joins_243 (by decide) ?_
                refine mn_iast hB hR.a_zot (by first | exact Or.inl rfl | (simp only [ftA]; omega) | (simp [ftA]; omega)) hS (by omega) (by omega) dX11_joins_297 (fun H locs hwr => ?_)
                obtain ⟨hR, hS⟩ := hR.w_zot hwr
                refine lv_iinc (v := nI (k9 + 1)) (lv' := [(7, .int (nI (k9 + 1))), (10, .int (nI 1)), (9, .int (nI (k9 / (w1 + w0)))), (8, .int (nI (k9 % (w1 + w0)))), (0, .ref r), (1, .int (nI (n - 1))), (2, .int (nI 1)), (3, .int (nI (w1 + w0))), (4, .int (nI h0)), (5, .int (nI 0)), (6, .int (nI (256 * (n - 1))))]) hx hb dX11_joins_298 hl (k := 10) rfl (nI_1 _) (by decide) rfl (fun ls hl => ?_)
                refine lv_goto (tgt := 150) hx hb dX11_joins_301 (by decide) ?_
                refine ih150 (k9 + 1) _ _ _ ⟨(by omega), (by rw [← lowOf_up]; exact hR), hS, lv_sub hl [4, 5, 6, 7, 8, 9, 10, 0] rfl⟩ (by dsimp only; omega)
          · skip
            refine lv_iconst (v := nI 0) hx hb dX11_joins_138 (by decide) ?_
            refine mh_zret hB ⟨Nat.le_of_ble_eq_true rfl, Nat.le_of_ble_eq_true rfl⟩ hS dX11_joins_139 (by first | rfl | decide | (split <;> rfl)) ⟨?_, zwd, zhg, zin, zot, ?_, ?_⟩
            · have e9 : joinS (s1, p1, w1, h1, c1) (w0, h0, b0) = none := by unfold joinS; dsimp only; first | rw [if_pos (by omega), if_neg (by omega)] | rw [if_neg (by omega), if_neg (by omega)]
              rw [e9]; rfl
            · exact hR
            · have e9 : joinS (s1, p1, w1, h1, c1) (w0, h0, b0) = none := by unfold joinS; dsimp only; first | rw [if_pos (by omega), if_neg (by omega)] | rw [if_neg (by omega), if_neg (by omega)]
              intro it2 hi2
              rw [e9] at hi2
              cases hi2
      · skip
        refine lv_goto (tgt := 113) hx hb dX11_joins_97 (by decide) ?_
        refine lv_iconst (v := nI 1) hx hb dX11_joins_113 (by decide) ?_
        refine lv_goto (tgt := 118) hx hb dX11_joins_114 (by decide) ?_
        refine lv_istore (lv' := [(5, .int (nI 1)), (4, .int (nI h0)), (3, .int (nI (w1 + w0))), (2, .int (nI 1)), (1, .int (nI (n - 1))), (0, .ref r)]) hx hb dX11_joins_118 hl (by decide) rfl (fun ls hl => ?_)
        refine lv_iload hx hb dX11_joins_120 (lv_at hl 0 rfl) ?_
        refine mn_if_ne (tgt := 138) hB dX11_joins_122 (by decide) (by omega) (fun h_122 => ?_) (fun h => by exfalso; omega)
        refine lv_iconst (v := nI 0) hx hb dX11_joins_138 (by decide) ?_
        refine mh_zret hB ⟨Nat.le_of_ble_eq_true rfl, Nat.le_of_ble_eq_true rfl⟩ hS dX11_joins_139 (by first | rfl | decide | (split <;> rfl)) ⟨?_, zwd, zhg, zin, zot, ?_, ?_⟩
        · have e9 : joinS (s1, p1, w1, h1, c1) (w0, h0, b0) = none := by unfold joinS; dsimp only; first | rw [if_pos (by omega), if_neg (by omega)] | rw [if_neg (by omega), if_neg (by omega)]
          rw [e9]; rfl
        · exact hR
        · have e9 : joinS (s1, p1, w1, h1, c1) (w0, h0, b0) = none := by unfold joinS; dsimp only; first | rw [if_pos (by omega), if_neg (by omega)] | rw [if_neg (by omega), if_neg (by omega)]
          intro it2 hi2
          rw [e9] at hi2
          cases hi2
