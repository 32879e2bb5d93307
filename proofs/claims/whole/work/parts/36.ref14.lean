def rm_c_X11_applies_u : Room := { frames := 1, cells := 0, slots := 0, locals := 23 }
set_option maxRecDepth 100000 in
set_option maxHeartbeats 400000 in
theorem c_X11_applies_u (l : Launch) (g : GG) (H0 : Heap) (r : Nat) (zq : Nat → Int32) (zsp : Nat → Int32) (zrm : Nat → Int32) (zst : Int32) (zsl : Nat → Int32) (zsv : Nat → Int32) (ztx : Nat → Int32) (zln : Int32) (zth : Int32) (zsg : Nat → Int32) (zbg : Nat → Int32) (zwd : Nat → Int32) (zhg : Nat → Int32) (zin : Nat → Int32) (zop : Int32) (zbe : Int32) (zbk : Nat → Int32) (zot : Nat → Int32) (zer : Int32) (zen : Int32) (zpo : Nat → Int32) (zpi : Int32) (zgr : Int32) (zsh : Nat → Int32) (zsn : Int32) (w0 : Nat) (h0 : Nat) (cb : Nat → Nat) (sg : Nat) (hR : ModAt g r zq zsp zrm zst zsl zsv ztx zln zth zsg zbg zwd zhg zin zop zbe (nI w0) (nI h0) zbk zot zer zen zpo zpi zgr zsh zsn H0) (hw1 : 0 < w0) (hw2 : w0 ≤ 16) (hh1 : 0 < h0) (hh2 : h0 ≤ 16) (hbk : ∀ k, k < w0 * h0 → zbk k = nI (cb k) ∧ cb k < 6) (hsg : sg = 60 ∨ sg = 94 ∨ (50 ≤ sg ∧ sg ≤ 57)) : Ct l yX11_applies cX11_applies 5 (some .boolean) rm_c_X11_applies_u g [.ref r, .int (nI sg)] H0 (ftA (fun q => r ≤ q ∧ q < r + 16) H0.size) (fun v H1 => v = some (.int (bI ((applS sg (w0, h0, cb)).isSome))) ∧ ∃ (wi2 : Int32), ∃ (hi2 : Int32), ∃ (bk2 : Nat → Int32), ∃ (ot2 : Nat → Int32), ModAt g r zq zsp zrm zst zsl zsv ztx zln zth zsg zbg zwd zhg zin zop zbe wi2 hi2 bk2 ot2 zer zen zpo zpi zgr zsh zsn H1 ∧ (∀ b2, applS sg (w0, h0, cb) = some b2 → wi2 = nI b2.1 ∧ hi2 = nI b2.2.1 ∧ ∀ k, k < b2.1 * b2.2.1 → bk2 k = nI (b2.2.2 k) ∧ b2.2.2 k < 6)) := by
  refine Ct.of (by decide) (fun _ h => Or.inr h) (Nat.le_of_ble_eq_true rfl) ?_
  intro p e s m below meth c ls hB hin hS hH hl
  have hx := hB.x
  have hb := hB.b
  have hl : lv_has ls 5 [(0, .ref r), (1, .int (nI sg))] := hl
  have hwh := sz256 hw2 hh2
  refine lv_iload_n hx hb dX11_applies_0 rfl (lv_at hl 1 rfl) ?_
  refine lv_bipush (v := nI 60) hx hb dX11_applies_1 (by decide) ?_
  refine mn_icmp_ne (tgt := 77) hB dX11_applies_3 (by decide) (by omega) (by omega) (fun h_3 => ?_) (fun h_3 => ?_)
  · skip
    refine lv_iload_n hx hb dX11_applies_77 rfl (lv_at hl 1 rfl) ?_
    refine lv_bipush (v := nI 94) hx hb dX11_applies_78 (by decide) ?_
    refine mn_icmp_ne (tgt := 154) hB dX11_applies_80 (by decide) (by omega) (by omega) (fun h_80 => ?_) (fun h_80 => ?_)
    · skip
      refine lv_iload_n hx hb dX11_applies_154 rfl (lv_at hl 1 rfl) ?_
      refine lv_bipush (v := nI 48) hx hb dX11_applies_155 (by decide) ?_
      refine mn_isub hB dX11_applies_157 (by omega) ?_
      refine lv_istore_n (lv' := [(2, .int (nI (sg - 48))), (0, .ref r), (1, .int (nI sg))]) hx hb dX11_applies_158 rfl hl (by decide) rfl (fun ls hl => ?_)
      have hdm := Nat.mul_le_mul (show sg - 48 ≤ 9 by omega) hw2
      have hdp : 0 < sg - 48 := by omega
      have hdw : 0 < (sg - 48) * w0 := Nat.mul_pos hdp hw1
      refine lv_iload_n hx hb dX11_applies_159 rfl (lv_at hl 0 rfl) ?_
      refine lv_aload_n hx hb dX11_applies_160 rfl (lv_at hl 1 rfl) ?_
      refine gf_X11_90 hB hR.o rfl dX11_applies_161 ?_
      refine mn_imul hB dX11_applies_164 ?_
      refine lv_bipush (v := nI 16) hx hb dX11_applies_165 (by decide) ?_
      refine mn_icmp_le (tgt := 172) hB dX11_applies_167 (by decide) (by omega) (by omega) (fun h_167 => ?_) (fun h_167 => ?_)
      · skip
        have hdh := sz256 (w := (sg - 48) * w0) (h := h0) (by omega) hh2
        refine lv_iload_n hx hb dX11_applies_172 rfl (lv_at hl 0 rfl) ?_
        refine lv_aload_n hx hb dX11_applies_173 rfl (lv_at hl 1 rfl) ?_
        refine gf_X11_90 hB hR.o rfl dX11_applies_174 ?_
        refine mn_imul hB dX11_applies_177 ?_
        refine lv_istore_n (lv' := [(3, .int (nI ((sg - 48) * w0))), (2, .int (nI (sg - 48))), (0, .ref r), (1, .int (nI sg))]) hx hb dX11_applies_178 rfl hl (by decide) rfl (fun ls hl => ?_)
        refine lv_iconst (v := nI 0) hx hb dX11_applies_179 (by decide) ?_
        refine lv_istore (lv' := [(4, .int (nI 0)), (3, .int (nI ((sg - 48) * w0))), (2, .int (nI (sg - 48))), (0, .ref r), (1, .int (nI sg))]) hx hb dX11_applies_180 hl (by decide) rfl (fun ls hl => ?_)
        refine mh_loop (σ := Nat) (fun xx9 H locs ls => match xx9 with | i9 => i9 ≤ (sg - 48) * w0 * h0 ∧ ModAt g r zq zsp zrm zst zsl zsv ztx zln zth zsg zbg zwd zhg zin zop zbe (nI w0) (nI h0) zbk (lowOf (fun j9 => zbk (copI w0 ((sg - 48) * w0) j9)) zot i9) zer zen zpo zpi zgr zsh zsn H ∧ va_S (ftA (fun q => r ≤ q ∧ q < r + 16) H0.size) H0 H locs ∧ lv_has ls 5 [(0, .ref r), (1, .int (nI sg)), (2, .int (nI (sg - 48))), (3, .int (nI ((sg - 48) * w0))), (4, .int (nI i9))]) (fun xx9 => match xx9 with | i9 => (sg - 48) * w0 * h0 - i9) ?_ 0 ⟨(by omega), (by rw [lowOf_0]; exact hR), hS, lv_sub hl [3, 4, 2, 1, 0] rfl⟩
        rintro i9 H locs ls ⟨hi9, hR, hS, hl⟩ ih
        have ih182 := ih
        refine lv_iload hx hb dX11_applies_182 (lv_at hl 4 rfl) ?_
        refine lv_iload_n hx hb dX11_applies_184 rfl (lv_at hl 3 rfl) ?_
        refine lv_aload_n hx hb dX11_applies_185 rfl (lv_at hl 0 rfl) ?_
        refine gf_X11_93 hB hR.o rfl dX11_applies_186 ?_
        refine mn_imul hB dX11_applies_189 ?_
        refine mn_icmp_ge (tgt := 230) hB dX11_applies_190 (by decide) (by omega) (by omega) (fun h_190 => ?_) (fun h_190 => ?_)
        · skip
          have hin9 : i9 = (sg - 48) * w0 * h0 := by omega
          subst hin9
          refine lv_aload_n hx hb dX11_applies_230 rfl (lv_at hl 0 rfl) ?_
          refine lv_iload_n hx hb dX11_applies_231 rfl (lv_at hl 3 rfl) ?_
          refine lv_aload_n hx hb dX11_applies_232 rfl (lv_at hl 0 rfl) ?_
          refine gf_X11_93 hB hR.o rfl dX11_applies_233 ?_
          refine cl_X11_96 (As := [.int (nI ((sg - 48) * w0)), .int (nI h0)]) (rest := []) hB (c_X11_fromOther l g H r zq zsp zrm zst zsl zsv ztx zln zth zsg zbg zwd zhg zin zop zbe (nI w0) (nI h0) zbk (lowOf (fun j9 => zbk (copI w0 ((sg - 48) * w0) j9)) zot ((sg - 48) * w0 * h0)) zer zen zpo zpi zgr zsh zsn ((sg - 48) * w0) h0 hR (by omega)) hR.o rfl hl.1 (Nat.le_of_ble_eq_true rfl) dX11_applies_236 ⟨Nat.le_of_ble_eq_true rfl, Nat.le_of_ble_eq_true rfl⟩ ⟨Nat.le_of_ble_eq_true rfl, Nat.le_of_ble_eq_true rfl⟩ hS (by have hz9 := hS.1; rintro q (h | h) <;> first | exact Or.inr (by omega) | exact h.elim | exact Or.inl h | (simp only [ftA] at h ⊢; omega)) (fun v H1 locs hpo hfr hS => ?_)
          obtain ⟨rfl, hR⟩ := hpo
          generalize H1 = H at hfr hS hR ⊢
          refine W.widen (k := 0) (n := 0) (Nat.le_of_ble_eq_true rfl) (Nat.le_of_ble_eq_true rfl) ?_
          have e9 : applS sg (w0, h0, cb) = some ((sg - 48) * w0, h0, fun k => cb (copI w0 ((sg - 48) * w0) k)) := by unfold applS; rw [if_neg (by omega), if_neg (by omega), if_pos (by dsimp only; omega)]
          refine lv_iconst (v := nI 1) hx hb dX11_applies_239 (by decide) ?_
          refine mh_zret hB ⟨Nat.le_of_ble_eq_true rfl, Nat.le_of_ble_eq_true rfl⟩ hS dX11_applies_240 (by first | rfl | decide | (split <;> rfl)) ⟨?_, (nI ((sg - 48) * w0)), (nI h0), (lowOf (lowOf (fun j9 => zbk (copI w0 ((sg - 48) * w0) j9)) zot ((sg - 48) * w0 * h0)) zbk (((sg - 48) * w0) * h0)), (lowOf (fun j9 => zbk (copI w0 ((sg - 48) * w0) j9)) zot ((sg - 48) * w0 * h0)), ?_, ?_⟩
          · rw [e9]; rfl
          · exact hR
          · intro b2 hb2
            rw [e9] at hb2
            cases hb2
            refine ⟨rfl, rfl, fun k hk => ?_⟩
            have h9 := hbk _ (copI_lt (d := sg - 48) hw1 hdp hk)
            exact ⟨by rw [lowOf_all _ _ hk, lowOf_all _ _ hk]; exact h9.1, h9.2⟩
        · skip
          refine lv_aload_n hx hb dX11_applies_193 rfl (lv_at hl 0 rfl) ?_
          refine gf_X11_47 hB hR.o rfl dX11_applies_194 ?_
          refine lv_iload hx hb dX11_applies_197 (lv_at hl 4 rfl) ?_
          refine lv_aload_n hx hb dX11_applies_199 rfl (lv_at hl 0 rfl) ?_
          refine gf_X11_44 hB hR.o rfl dX11_applies_200 ?_
          refine lv_iload hx hb dX11_applies_203 (lv_at hl 4 rfl) ?_
          refine lv_iload_n hx hb dX11_applies_205 rfl (lv_at hl 3 rfl) ?_
          refine mn_idiv hB dX11_applies_206 (by omega) (by omega) (by omega) ?_
          refine lv_aload_n hx hb dX11_applies_207 rfl (lv_at hl 0 rfl) ?_
          refine gf_X11_90 hB hR.o rfl dX11_applies_208 ?_
          refine mn_imul hB dX11_applies_211 ?_
          refine lv_iload hx hb dX11_applies_212 (lv_at hl 4 rfl) ?_
          refine lv_iload_n hx hb dX11_applies_214 rfl (lv_at hl 3 rfl) ?_
          refine mn_irem hB dX11_applies_215 (by omega) (by omega) (by omega) ?_
          refine lv_aload_n hx hb dX11_applies_216 rfl (lv_at hl 0 rfl) ?_
          refine gf_X11_90 hB hR.o rfl dX11_applies_217 ?_
          refine mn_irem hB dX11_applies_220 (by have := Nat.mod_lt i9 hdw; omega) (by have := Nat.mod_lt i9 hdw; omega) (by have := Nat.mod_lt i9 hdw; omega) ?_
          refine mn_iadd hB dX11_applies_221 ?_
          refine mh_top (y := .int (nI (copI w0 ((sg - 48) * w0) i9))) (rfl) ?_
          refine mn_iald hB hR.a_zbk (by have := copI_lt (w := w0) (h := h0) (d := sg - 48) (k := i9) hw1 hdp (by omega); omega) (by omega) dX11_applies_222 ?_
          refine mn_iast hB hR.a_zot (by first | exact Or.inl rfl | (simp only [ftA]; omega) | (simp [ftA]; omega)) hS (by omega) (by omega) dX11_applies_223 (fun H locs hwr => ?_)
          obtain ⟨hR, hS⟩ := hR.w_zot hwr
          refine lv_iinc (v := nI (i9 + 1)) (lv' := [(4, .int (nI (i9 + 1))), (0, .ref r), (1, .int (nI sg)), (2, .int (nI (sg - 48))), (3, .int (nI ((sg - 48) * w0)))]) hx hb dX11_applies_224 hl (k := 4) rfl (nI_1 _) (by decide) rfl (fun ls hl => ?_)
          refine lv_goto (tgt := 182) hx hb dX11_applies_227 (by decide) ?_
          refine ih182 (i9 + 1) _ _ _ ⟨(by omega), (by rw [← lowOf_up]; exact hR), hS, lv_sub hl [1, 2, 3, 4, 0] rfl⟩ (by dsimp only; omega)
      · skip
        have e9 : applS sg (w0, h0, cb) = none := by unfold applS; rw [if_neg (by omega), if_neg (by omega), if_neg (by dsimp only; omega)]
        refine lv_iconst (v := nI 0) hx hb dX11_applies_170 (by decide) ?_
        refine mh_zret hB ⟨Nat.le_of_ble_eq_true rfl, Nat.le_of_ble_eq_true rfl⟩ hS dX11_applies_171 (by first | rfl | decide | (split <;> rfl)) ⟨?_, (nI w0), (nI h0), zbk, zot, ?_, ?_⟩
        · rw [e9]; rfl
        · exact hR
        · intro b2 hb2
          rw [e9] at hb2
          cases hb2
    · skip
      refine lv_iconst (v := nI 0) hx hb dX11_applies_83 (by decide) ?_
      refine lv_istore_n (lv' := [(2, .int (nI 0)), (0, .ref r), (1, .int (nI sg))]) hx hb dX11_applies_84 rfl hl (by decide) rfl (fun ls hl => ?_)
      refine mh_loop (σ := Nat) (fun xx9 H locs ls => match xx9 with | i9 => i9 ≤ w0 * h0 ∧ ModAt g r zq zsp zrm zst zsl zsv ztx zln zth zsg zbg zwd zhg zin zop zbe (nI w0) (nI h0) zbk (lowOf (fun j9 => zbk (turI w0 h0 j9)) zot i9) zer zen zpo zpi zgr zsh zsn H ∧ va_S (ftA (fun q => r ≤ q ∧ q < r + 16) H0.size) H0 H locs ∧ lv_has ls 5 [(0, .ref r), (1, .int (nI sg)), (2, .int (nI i9))]) (fun xx9 => match xx9 with | i9 => w0 * h0 - i9) ?_ 0 ⟨(by omega), (by rw [lowOf_0]; exact hR), hS, lv_sub hl [1, 2, 0] rfl⟩
      rintro i9 H locs ls ⟨hi9, hR, hS, hl⟩ ih
      have ih85 := ih
      refine lv_iload_n hx hb dX11_applies_85 rfl (lv_at hl 2 rfl) ?_
      refine lv_aload_n hx hb dX11_applies_86 rfl (lv_at hl 0 rfl) ?_
      refine gf_X11_90 hB hR.o rfl dX11_applies_87 ?_
      refine lv_aload_n hx hb dX11_applies_90 rfl (lv_at hl 0 rfl) ?_
      refine gf_X11_93 hB hR.o rfl dX11_applies_91 ?_
      refine mn_imul hB dX11_applies_94 ?_
      refine mn_icmp_ge (tgt := 140) hB dX11_applies_95 (by decide) (by omega) (by omega) (fun h_95 => ?_) (fun h_95 => ?_)
      · skip
        have hin9 : i9 = w0 * h0 := by omega
        subst hin9
        refine lv_aload_n hx hb dX11_applies_140 rfl (lv_at hl 0 rfl) ?_
        refine lv_aload_n hx hb dX11_applies_141 rfl (lv_at hl 0 rfl) ?_
        refine gf_X11_93 hB hR.o rfl dX11_applies_142 ?_
        refine lv_aload_n hx hb dX11_applies_145 rfl (lv_at hl 0 rfl) ?_
        refine gf_X11_90 hB hR.o rfl dX11_applies_146 ?_
        refine cl_X11_96 (As := [.int (nI h0), .int (nI w0)]) (rest := []) hB (c_X11_fromOther l g H r zq zsp zrm zst zsl zsv ztx zln zth zsg zbg zwd zhg zin zop zbe (nI w0) (nI h0) zbk (lowOf (fun j9 => zbk (turI w0 h0 j9)) zot (w0 * h0)) zer zen zpo zpi zgr zsh zsn h0 w0 hR (by rw [Nat.mul_comm]; exact hwh)) hR.o rfl hl.1 (Nat.le_of_ble_eq_true rfl) dX11_applies_149 ⟨Nat.le_of_ble_eq_true rfl, Nat.le_of_ble_eq_true rfl⟩ ⟨Nat.le_of_ble_eq_true rfl, Nat.le_of_ble_eq_true rfl⟩ hS (by have hz9 := hS.1; rintro q (h | h) <;> first | exact Or.inr (by omega) | exact h.elim | exact Or.inl h | (simp only [ftA] at h ⊢; omega)) (fun v H1 locs hpo hfr hS => ?_)
        obtain ⟨rfl, hR⟩ := hpo
        generalize H1 = H at hfr hS hR ⊢
        refine W.widen (k := 0) (n := 0) (Nat.le_of_ble_eq_true rfl) (Nat.le_of_ble_eq_true rfl) ?_
        have e9 : applS sg (w0, h0, cb) = some (h0, w0, fun k => cb (turI w0 h0 k)) := by unfold applS; rw [if_neg (by omega), if_pos (by omega)]
        refine lv_iconst (v := nI 1) hx hb dX11_applies_152 (by decide) ?_
        refine mh_zret hB ⟨Nat.le_of_ble_eq_true rfl, Nat.le_of_ble_eq_true rfl⟩ hS dX11_applies_153 (by first | rfl | decide | (split <;> rfl)) ⟨?_, (nI h0), (nI w0), (lowOf (lowOf (fun j9 => zbk (turI w0 h0 j9)) zot (w0 * h0)) zbk (h0 * w0)), (lowOf (fun j9 => zbk (turI w0 h0 j9)) zot (w0 * h0)), ?_, ?_⟩
        · rw [e9]; rfl
        · exact hR
        · intro b2 hb2
          rw [e9] at hb2
          cases hb2
          refine ⟨rfl, rfl, fun k hk => ?_⟩
          have hk2 : k < w0 * h0 := by rw [Nat.mul_comm]; exact hk
          have h9 := hbk _ (turI_lt hk2)
          exact ⟨by rw [lowOf_all _ _ hk, lowOf_all _ _ hk2]; exact h9.1, h9.2⟩
      · skip
        refine lv_aload_n hx hb dX11_applies_98 rfl (lv_at hl 0 rfl) ?_
        refine gf_X11_47 hB hR.o rfl dX11_applies_99 ?_
        refine lv_iload_n hx hb dX11_applies_102 rfl (lv_at hl 2 rfl) ?_
        refine lv_aload_n hx hb dX11_applies_103 rfl (lv_at hl 0 rfl) ?_
        refine gf_X11_44 hB hR.o rfl dX11_applies_104 ?_
        refine lv_aload_n hx hb dX11_applies_107 rfl (lv_at hl 0 rfl) ?_
        refine gf_X11_93 hB hR.o rfl dX11_applies_108 ?_
        refine lv_iconst (v := nI 1) hx hb dX11_applies_111 (by decide) ?_
        refine mn_isub hB dX11_applies_112 (by omega) ?_
        refine lv_iload_n hx hb dX11_applies_113 rfl (lv_at hl 2 rfl) ?_
        refine lv_aload_n hx hb dX11_applies_114 rfl (lv_at hl 0 rfl) ?_
        refine gf_X11_93 hB hR.o rfl dX11_applies_115 ?_
        refine mn_irem hB dX11_applies_118 (by omega) (by omega) (by omega) ?_
        refine mn_isub hB dX11_applies_119 (by have := Nat.mod_lt i9 hh1; omega) ?_
        refine lv_aload_n hx hb dX11_applies_120 rfl (lv_at hl 0 rfl) ?_
        refine gf_X11_90 hB hR.o rfl dX11_applies_121 ?_
        refine mn_imul hB dX11_applies_124 ?_
        refine lv_iload_n hx hb dX11_applies_125 rfl (lv_at hl 2 rfl) ?_
        refine lv_aload_n hx hb dX11_applies_126 rfl (lv_at hl 0 rfl) ?_
        refine gf_X11_93 hB hR.o rfl dX11_applies_127 ?_
        refine mn_idiv hB dX11_applies_130 (by omega) (by omega) (by omega) ?_
        refine mn_iadd hB dX11_applies_131 ?_
        refine mh_top (y := .int (nI (turI w0 h0 i9))) (rfl) ?_
        refine mn_iald hB hR.a_zbk (by have := turI_lt (w := w0) (h := h0) (k := i9) (by omega); omega) (by omega) dX11_applies_132 ?_
        refine mn_iast hB hR.a_zot (by first | exact Or.inl rfl | (simp only [ftA]; omega) | (simp [ftA]; omega)) hS (by omega) (by omega) dX11_applies_133 (fun H locs hwr => ?_)
        obtain ⟨hR, hS⟩ := hR.w_zot hwr
        refine lv_iinc (v := nI (i9 + 1)) (lv' := [(2, .int (nI (i9 + 1))), (0, .ref r), (1, .int (nI sg))]) hx hb dX11_applies_134 hl (k := 2) rfl (nI_1 _) (by decide) rfl (fun ls hl => ?_)
        refine lv_goto (tgt := 85) hx hb dX11_applies_137 (by decide) ?_
        refine ih85 (i9 + 1) _ _ _ ⟨(by omega), (by rw [← lowOf_up]; exact hR), hS, lv_sub hl [1, 2, 0] rfl⟩ (by dsimp only; omega)
  · skip
    refine lv_iconst (v := nI 0) hx hb dX11_applies_6 (by decide) ?_
    refine lv_istore_n (lv' := [(2, .int (nI 0)), (0, .ref r), (1, .int (nI sg))]) hx hb dX11_applies_7 rfl hl (by decide) rfl (fun ls hl => ?_)
    refine mh_loop (σ := Nat) (fun xx9 H locs ls => match xx9 with | i9 => i9 ≤ w0 * h0 ∧ ModAt g r zq zsp zrm zst zsl zsv ztx zln zth zsg zbg zwd zhg zin zop zbe (nI w0) (nI h0) zbk (lowOf (fun j9 => zbk (mirI w0 j9)) zot i9) zer zen zpo zpi zgr zsh zsn H ∧ va_S (ftA (fun q => r ≤ q ∧ q < r + 16) H0.size) H0 H locs ∧ lv_has ls 5 [(0, .ref r), (1, .int (nI sg)), (2, .int (nI i9))]) (fun xx9 => match xx9 with | i9 => w0 * h0 - i9) ?_ 0 ⟨(by omega), (by rw [lowOf_0]; exact hR), hS, lv_sub hl [1, 2, 0] rfl⟩
    rintro i9 H locs ls ⟨hi9, hR, hS, hl⟩ ih
    have ih8 := ih
    refine lv_iload_n hx hb dX11_applies_8 rfl (lv_at hl 2 rfl) ?_
    refine lv_aload_n hx hb dX11_applies_9 rfl (lv_at hl 0 rfl) ?_
    refine gf_X11_90 hB hR.o rfl dX11_applies_10 ?_
    refine lv_aload_n hx hb dX11_applies_13 rfl (lv_at hl 0 rfl) ?_
    refine gf_X11_93 hB hR.o rfl dX11_applies_14 ?_
    refine mn_imul hB dX11_applies_17 ?_
    refine mn_icmp_ge (tgt := 63) hB dX11_applies_18 (by decide) (by omega) (by omega) (fun h_18 => ?_) (fun h_18 => ?_)
    · skip
      have hin9 : i9 = w0 * h0 := by omega
      subst hin9
      refine lv_aload_n hx hb dX11_applies_63 rfl (lv_at hl 0 rfl) ?_
      refine lv_aload_n hx hb dX11_applies_64 rfl (lv_at hl 0 rfl) ?_
      refine gf_X11_90 hB hR.o rfl dX11_applies_65 ?_
      refine lv_aload_n hx hb dX11_applies_68 rfl (lv_at hl 0 rfl) ?_
      refine gf_X11_93 hB hR.o rfl dX11_applies_69 ?_
      refine cl_X11_96 (As := [.int (nI w0), .int (nI h0)]) (rest := []) hB (c_X11_fromOther l g H r zq zsp zrm zst zsl zsv ztx zln zth zsg zbg zwd zhg zin zop zbe (nI w0) (nI h0) zbk (lowOf (fun j9 => zbk (mirI w0 j9)) zot (w0 * h0)) zer zen zpo zpi zgr zsh zsn w0 h0 hR (by omega)) hR.o rfl hl.1 (Nat.le_of_ble_eq_true rfl) dX11_applies_72 ⟨Nat.le_of_ble_eq_true rfl, Nat.le_of_ble_eq_true rfl⟩ ⟨Nat.le_of_ble_eq_true rfl, Nat.le_of_ble_eq_true rfl⟩ hS (by have hz9 := hS.1; rintro q (h | h) <;> first | exact Or.inr (by omega) | exact h.elim | exact Or.inl h | (simp only [ftA] at h ⊢; omega)) (fun v H1 locs hpo hfr hS => ?_)
      obtain ⟨rfl, hR⟩ := hpo
      generalize H1 = H at hfr hS hR ⊢
      refine W.widen (k := 0) (n := 0) (Nat.le_of_ble_eq_true rfl) (Nat.le_of_ble_eq_true rfl) ?_
      have e9 : applS sg (w0, h0, cb) = some (w0, h0, fun k => cb (mirI w0 k)) := by unfold applS; rw [if_pos (by omega)]
      refine lv_iconst (v := nI 1) hx hb dX11_applies_75 (by decide) ?_
      refine mh_zret hB ⟨Nat.le_of_ble_eq_true rfl, Nat.le_of_ble_eq_true rfl⟩ hS dX11_applies_76 (by first | rfl | decide | (split <;> rfl)) ⟨?_, (nI w0), (nI h0), (lowOf (lowOf (fun j9 => zbk (mirI w0 j9)) zot (w0 * h0)) zbk (w0 * h0)), (lowOf (fun j9 => zbk (mirI w0 j9)) zot (w0 * h0)), ?_, ?_⟩
      · rw [e9]; rfl
      · exact hR
      · intro b2 hb2
        rw [e9] at hb2
        cases hb2
        refine ⟨rfl, rfl, fun k hk => ?_⟩
        have h9 := hbk _ (mirI_lt hk)
        exact ⟨by rw [lowOf_all _ _ hk, lowOf_all _ _ hk]; exact h9.1, h9.2⟩
    · skip
      refine lv_aload_n hx hb dX11_applies_21 rfl (lv_at hl 0 rfl) ?_
      refine gf_X11_47 hB hR.o rfl dX11_applies_22 ?_
      refine lv_iload_n hx hb dX11_applies_25 rfl (lv_at hl 2 rfl) ?_
      refine lv_aload_n hx hb dX11_applies_26 rfl (lv_at hl 0 rfl) ?_
      refine gf_X11_44 hB hR.o rfl dX11_applies_27 ?_
      refine lv_iload_n hx hb dX11_applies_30 rfl (lv_at hl 2 rfl) ?_
      refine lv_aload_n hx hb dX11_applies_31 rfl (lv_at hl 0 rfl) ?_
      refine gf_X11_90 hB hR.o rfl dX11_applies_32 ?_
      refine mn_idiv hB dX11_applies_35 (by omega) (by omega) (by omega) ?_
      refine lv_aload_n hx hb dX11_applies_36 rfl (lv_at hl 0 rfl) ?_
      refine gf_X11_90 hB hR.o rfl dX11_applies_37 ?_
      refine mn_imul hB dX11_applies_40 ?_
      refine lv_aload_n hx hb dX11_applies_41 rfl (lv_at hl 0 rfl) ?_
      refine gf_X11_90 hB hR.o rfl dX11_applies_42 ?_
      refine mn_iadd hB dX11_applies_45 ?_
      refine lv_iconst (v := nI 1) hx hb dX11_applies_46 (by decide) ?_
      refine mn_isub hB dX11_applies_47 (by omega) ?_
      refine lv_iload_n hx hb dX11_applies_48 rfl (lv_at hl 2 rfl) ?_
      refine lv_aload_n hx hb dX11_applies_49 rfl (lv_at hl 0 rfl) ?_
      refine gf_X11_90 hB hR.o rfl dX11_applies_50 ?_
      refine mn_irem hB dX11_applies_53 (by omega) (by omega) (by omega) ?_
      refine mn_isub hB dX11_applies_54 (by have := Nat.mod_lt i9 hw1; omega) ?_
      refine mh_top (y := .int (nI (mirI w0 i9))) (rfl) ?_
      refine mn_iald hB hR.a_zbk (by have := mirI_lt (w := w0) (h := h0) (k := i9) (by omega); omega) (by omega) dX11_applies_55 ?_
      refine mn_iast hB hR.a_zot (by first | exact Or.inl rfl | (simp only [ftA]; omega) | (simp [ftA]; omega)) hS (by omega) (by omega) dX11_applies_56 (fun H locs hwr => ?_)
      obtain ⟨hR, hS⟩ := hR.w_zot hwr
      refine lv_iinc (v := nI (i9 + 1)) (lv' := [(2, .int (nI (i9 + 1))), (0, .ref r), (1, .int (nI sg))]) hx hb dX11_applies_57 hl (k := 2) rfl (nI_1 _) (by decide) rfl (fun ls hl => ?_)
      refine lv_goto (tgt := 8) hx hb dX11_applies_60 (by decide) ?_
      refine ih8 (i9 + 1) _ _ _ ⟨(by omega), (by rw [← lowOf_up]; exact hR), hS, lv_sub hl [1, 2, 0] rfl⟩ (by dsimp only; omega)
