def rm_c_X11_runScript : Room := { frames := 7, cells := 0, slots := 0, locals := 164 }
set_option maxRecDepth 100000 in
set_option maxHeartbeats 400000 in
theorem c_X11_runScript (l : Launch) (g : GG) (H0 : Heap) (r : Nat) (zq : Nat → Int32) (zsp : Nat → Int32) (zrm : Nat → Int32) (zst : Int32) (zsl : Nat → Int32) (zsv : Nat → Int32) (ztx : Nat → Int32) (zln : Int32) (zth : Int32) (zsg : Nat → Int32) (zbg : Nat → Int32) (zwd : Nat → Int32) (zhg : Nat → Int32) (zin : Nat → Int32) (zop : Int32) (zbe : Int32) (zwi : Int32) (zhi : Int32) (zbk : Nat → Int32) (zot : Nat → Int32) (zer : Int32) (zen : Int32) (zpo : Nat → Int32) (zpi : Int32) (zgr : Int32) (zsh : Nat → Int32) (zsn : Int32) (n0 : Nat) (sn : Nat) (hR : ModAt g r zq zsp zrm zst zsl zsv ztx zln zth zsg zbg zwd zhg zin zop zbe zwi zhi zbk zot zer zen zpo zpi zgr zsh zsn H0) (hW : WF zq) (hn1 : 0 < n0) (hn4 : n0 ≤ 4) (hsn : sn < p10k n0) : Ct l yX11_runScript cX11_runScript 8 (some .int) rm_c_X11_runScript g [.ref r, .int (nI n0), .long (lN sn)] H0 (ftA (fun q => r ≤ q ∧ q < r + 16) H0.size) (fun v H1 => v = some (.int (scG sn n0 n0 zq)) ∧ ∃ (zsh2 : Nat → Int32), ModAt g r zq zq zrm zst zsl zsv ztx zln (nI 0) zsg zbg zwd zhg zin zop zbe zwi zhi zbk zot zer zen zpo zpi zgr zsh2 zsn H1) := by
  refine Ct.of (by decide) (fun _ h => Or.inr h) (Nat.le_of_ble_eq_true rfl) ?_
  intro p e s m below meth c ls hB hin hS hH hl
  have hx := hB.x
  have hb := hB.b
  have hl : lv_has ls 8 [(0, .ref r), (1, .int (nI n0)), (2, .long (lN sn))] := hl
  have hun9 := pk_lT (n := p10k n0) (by have := p10k_le hn4; omega)
  have hsn9 := pk_lT (n := sn) (by have := p10k_le hn4; omega)
  have he09 : (0 : Int64).toInt = 0 := by decide
  refine lv_aload_n hx hb dX11_runScript_0 rfl (lv_at hl 0 rfl) ?_
  refine lv_iconst (v := nI 0) hx hb dX11_runScript_1 (by decide) ?_
  refine pf_X11_56 hB hR.o (by first | exact Or.inl rfl | (simp only [ftA]; omega) | (simp [ftA]; omega)) hS rfl rfl (Nat.le_of_ble_eq_true rfl) dX11_runScript_2 (fun H locs hwr => ?_)
  obtain ⟨hR, hS⟩ := hR.w_zth hwr
  refine lv_lconst (v := 1) hx hb dX11_runScript_5 (by decide) ?_
  refine mh_top (y := .long (lN (p10k 0))) (rfl) ?_
  refine lv_lstore (lv' := [(4, .long (lN (p10k 0))), (0, .ref r), (1, .int (nI n0)), (2, .long (lN sn))]) hx hb dX11_runScript_6 hl (by decide) rfl (fun ls hl => ?_)
  refine lv_iconst (v := nI 0) hx hb dX11_runScript_8 (by decide) ?_
  refine lv_istore (lv' := [(6, .int (nI 0)), (4, .long (lN (p10k 0))), (0, .ref r), (1, .int (nI n0)), (2, .long (lN sn))]) hx hb dX11_runScript_9 hl (by decide) rfl (fun ls hl => ?_)
  refine mh_loop (σ := Nat) (fun xx9 H locs ls => match xx9 with | k9 => k9 ≤ n0 ∧ ModAt g r zq zsp zrm zst zsl zsv ztx zln (nI 0) zsg zbg zwd zhg zin zop zbe zwi zhi zbk zot zer zen zpo zpi zgr zsh zsn H ∧ va_S (ftA (fun q => r ≤ q ∧ q < r + 16) H0.size) H0 H locs ∧ lv_has ls 8 [(0, .ref r), (1, .int (nI n0)), (2, .long (lN sn)), (4, .long (lN (p10k k9))), (6, .int (nI k9))]) (fun xx9 => match xx9 with | k9 => n0 - k9) ?_ 0 ⟨(by omega), hR, hS, lv_sub hl [2, 3, 4, 1, 0] rfl⟩
  rintro k9 H locs ls ⟨hk9, hR, hS, hl⟩ ih
  have ih11 := ih
  refine lv_iload hx hb dX11_runScript_11 (lv_at hl 4 rfl) ?_
  refine lv_iload_n hx hb dX11_runScript_13 rfl (lv_at hl 1 rfl) ?_
  refine mn_icmp_ge (tgt := 37) hB dX11_runScript_14 (by decide) (by omega) (by omega) (fun h_14 => ?_) (fun h_14 => ?_)
  · skip
    have hin9 : n0 = k9 := by omega
    subst hin9
    refine lv_iload_n hx hb dX11_runScript_37 rfl (lv_at hl 1 rfl) ?_
    refine lv_i2l (v := (nI n0).toInt64) hx hb dX11_runScript_38 rfl ?_
    refine lv_lconst (v := 1) hx hb dX11_runScript_39 (by decide) ?_
    refine lv_ldc2 (v := (4)) hx hb hB.ow (hB.K.2 _ kw_1144 _) dX11_runScript_40 ?_
    refine cl_X11_63 (As := [.long ((nI n0).toInt64), .long 1, .long (4)]) (rest := []) hB (c_X11_in l g H ((nI n0).toInt64) 1 (4)) rfl hl.1 (Nat.le_of_ble_eq_true rfl) dX11_runScript_43 ⟨Nat.le_of_ble_eq_true rfl, Nat.le_of_ble_eq_true rfl⟩ ⟨Nat.le_of_ble_eq_true rfl, Nat.le_of_ble_eq_true rfl⟩ hS (by have hz9 := hS.1; rintro q (h | h) <;> first | exact Or.inr (by omega) | exact h.elim | exact Or.inl h | (simp only [ftA] at h ⊢; omega)) (fun v H1 locs hpo hfr hS => ?_)
    obtain ⟨rfl, rfl⟩ := hpo
    refine W.widen (k := 0) (n := 0) (Nat.le_of_ble_eq_true rfl) (Nat.le_of_ble_eq_true rfl) ?_
    refine mb_if_eq (tgt := 62) hB dX11_runScript_46 (by decide) (fun h => by rw [inL_14 hn1 hn4] at h; cases h) (fun h_46 => ?_)
    refine lv_lload_n hx hb dX11_runScript_49 rfl (lv_at hl 2 rfl) ?_
    refine lv_lconst (v := 0) hx hb dX11_runScript_50 (by decide) ?_
    refine W.lcmp hx hb dX11_runScript_51 ?_
    refine ml_if_lt (tgt := 62) hB dX11_runScript_52 (by decide) (fun h => by exfalso; omega) (fun h_52 => ?_)
    refine lv_lload_n hx hb dX11_runScript_55 rfl (lv_at hl 2 rfl) ?_
    refine lv_lload hx hb dX11_runScript_56 (lv_at hl 3 rfl) ?_
    refine W.lcmp hx hb dX11_runScript_58 ?_
    refine ml_if_lt (tgt := 68) hB dX11_runScript_59 (by decide) (fun h_59 => ?_) (fun h => by exfalso; omega)
    refine lv_aload_n hx hb dX11_runScript_68 rfl (lv_at hl 0 rfl) ?_
    refine cl_X11_255 (As := []) (rest := []) hB (c_X11_keep l g H r zq zsp zrm zst zsl zsv ztx zln (nI 0) zsg zbg zwd zhg zin zop zbe zwi zhi zbk zot zer zen zpo zpi zgr zsh zsn hR) hR.o rfl hl.1 (Nat.le_of_ble_eq_true rfl) dX11_runScript_69 ⟨Nat.le_of_ble_eq_true rfl, Nat.le_of_ble_eq_true rfl⟩ ⟨Nat.le_of_ble_eq_true rfl, Nat.le_of_ble_eq_true rfl⟩ hS (by have hz9 := hS.1; rintro q (h | h) <;> first | exact Or.inr (by omega) | exact h.elim | exact Or.inl h | (simp only [ftA] at h ⊢; omega)) (fun v H1 locs hpo hfr hS => ?_)
    obtain ⟨rfl, hR⟩ := hpo
    generalize H1 = H at hfr hS hR ⊢
    refine W.widen (k := 0) (n := 0) (Nat.le_of_ble_eq_true rfl) (Nat.le_of_ble_eq_true rfl) ?_
    refine lv_bipush (v := (-9)) hx hb dX11_runScript_72 (by decide) ?_
    refine lv_istore (lv' := [(6, .int (-9)), (0, .ref r), (1, .int (nI n0)), (2, .long (lN sn)), (4, .long (lN (p10k n0)))]) hx hb dX11_runScript_74 hl (by decide) rfl (fun ls hl => ?_)
    refine lv_iconst (v := nI 0) hx hb dX11_runScript_76 (by decide) ?_
    refine lv_istore (lv' := [(7, .int (nI 0)), (6, .int (-9)), (0, .ref r), (1, .int (nI n0)), (2, .long (lN sn)), (4, .long (lN (p10k n0)))]) hx hb dX11_runScript_77 hl (by decide) rfl (fun ls hl => ?_)
    refine mh_loop (σ := Nat × (Nat → Int32) × (Nat → Int32)) (fun xx9 H locs ls => match xx9 with | (k8, qi, shi) => k8 ≤ n0 ∧ WF qi ∧ scG sn n0 (n0 - k8) qi = scG sn n0 n0 zq ∧ ModAt g r qi zq zrm zst zsl zsv ztx zln (nI 0) zsg zbg zwd zhg zin zop zbe zwi zhi zbk zot zer zen zpo zpi zgr shi zsn H ∧ va_S (ftA (fun q => r ≤ q ∧ q < r + 16) H0.size) H0 H locs ∧ lv_has ls 8 [(0, .ref r), (1, .int (nI n0)), (2, .long (lN sn)), (4, .long (lN (p10k (n0 - k8)))), (6, .int (-9)), (7, .int (nI k8))]) (fun xx9 => match xx9 with | (k8, qi, shi) => n0 - k8) ?_ (0, zq, zsh) ⟨(by omega), (hW), (rfl), hR, hS, lv_sub hl [2, 3, 4, 5, 1, 0] rfl⟩
    rintro ⟨k8, qi, shi⟩ H locs ls ⟨hk8, hWi, hsg, hR, hS, hl⟩ ih
    have ih79 := ih
    refine lv_iload hx hb dX11_runScript_79 (lv_at hl 5 rfl) ?_
    refine lv_iload_n hx hb dX11_runScript_81 rfl (lv_at hl 1 rfl) ?_
    refine mn_icmp_ge (tgt := 129) hB dX11_runScript_82 (by decide) (by omega) (by omega) (fun h_82 => ?_) (fun h_82 => ?_)
    · skip
      refine lv_aload_n hx hb dX11_runScript_129 rfl (lv_at hl 0 rfl) ?_
      refine cl_X11_261 (As := []) (rest := []) hB (c_X11_bringBack l g H r qi zq zrm zst zsl zsv ztx zln (nI 0) zsg zbg zwd zhg zin zop zbe zwi zhi zbk zot zer zen zpo zpi zgr shi zsn hR) hR.o rfl hl.1 (Nat.le_of_ble_eq_true rfl) dX11_runScript_130 ⟨Nat.le_of_ble_eq_true rfl, Nat.le_of_ble_eq_true rfl⟩ ⟨Nat.le_of_ble_eq_true rfl, Nat.le_of_ble_eq_true rfl⟩ hS (by have hz9 := hS.1; rintro q (h | h) <;> first | exact Or.inr (by omega) | exact h.elim | exact Or.inl h | (simp only [ftA] at h ⊢; omega)) (fun v H1 locs hpo hfr hS => ?_)
      obtain ⟨rfl, hR⟩ := hpo
      generalize H1 = H at hfr hS hR ⊢
      refine W.widen (k := 0) (n := 0) (Nat.le_of_ble_eq_true rfl) (Nat.le_of_ble_eq_true rfl) ?_
      refine lv_iload hx hb dX11_runScript_133 (lv_at hl 4 rfl) ?_
      refine mh_iret hB ⟨Nat.le_of_ble_eq_true rfl, Nat.le_of_ble_eq_true rfl⟩ hS dX11_runScript_135 ⟨?_, shi, ?_⟩
      · first
        | (have z9 : n0 - k8 = 0 := by omega
           rw [z9] at hsg; exact congrArg (fun y9 => some (Value.int y9)) hsg)
        | (rw [scG_f h_111 (by omega)] at hsg; exact congrArg (fun y9 => some (Value.int y9)) hsg)
      · exact hR
    · skip
      refine lv_iload hx hb dX11_runScript_85 (lv_at hl 4 rfl) ?_
      refine lv_if_ge (tgt := 129) hx hb dX11_runScript_87 (by decide) (fun h => absurd h (by decide)) (fun h_87 => ?_)
      refine lv_lload hx hb dX11_runScript_90 (lv_at hl 3 rfl) ?_
      refine lv_ldc2 (v := (10000)) hx hb hB.ow (hB.K.2 _ kw_1321 _) dX11_runScript_92 ?_
      refine lv_ldiv hx hb dX11_runScript_95 (by decide) ?_
      refine mh_top (y := .long (lN (p10k (n0 - (k8 + 1))))) (by rw [show (10000 : Int64) = lN 10000 from rfl, pk_lDiv (by have := p10k_le (n := n0 - k8) (by omega); omega) (by omega) (by omega), p10k_div (by omega)]) ?_
      refine lv_lstore (lv' := [(4, .long (lN (p10k (n0 - (k8 + 1))))), (0, .ref r), (1, .int (nI n0)), (2, .long (lN sn)), (6, .int (-9)), (7, .int (nI k8))]) hx hb dX11_runScript_96 hl (by decide) rfl (fun ls hl => ?_)
      refine lv_aload_n hx hb dX11_runScript_98 rfl (lv_at hl 1 rfl) ?_
      refine lv_lload_n hx hb dX11_runScript_99 rfl (lv_at hl 3 rfl) ?_
      refine lv_lload hx hb dX11_runScript_100 (lv_at hl 0 rfl) ?_
      refine lv_ldiv hx hb dX11_runScript_102 (lN_ne0 (p10k_pos _) (by have := p10k_le (n := n0 - (k8 + 1)) (by omega); omega)) ?_
      refine mh_top (y := .long (lN (sn / p10k (n0 - (k8 + 1))))) (by rw [pk_lDiv (by have := p10k_le (n := n0) (by omega); omega) (p10k_pos _) (by have := p10k_le (n := n0 - (k8 + 1)) (by omega); omega)]) ?_
      refine lv_ldc2 (v := (10000)) hx hb hB.ow (hB.K.2 _ kw_1321 _) dX11_runScript_103 ?_
      refine lv_lrem hx hb dX11_runScript_106 (by decide) ?_
      refine mh_top (y := .long (lN (sn / p10k (n0 - (k8 + 1)) % 10000))) (congrArg Value.long (pk_lRem (a := sn / p10k (n0 - (k8 + 1))) (b := 10000) (by have := p10k_le (n := n0) (by omega); have := Nat.div_le_self sn (p10k (n0 - (k8 + 1))); omega) (by omega) (by omega))) ?_
      refine lv_l2i (v := (lN (sn / p10k (n0 - (k8 + 1)) % 10000)).toInt32) hx hb dX11_runScript_107 rfl ?_
      refine mh_top (y := .int (nI (sn / p10k (n0 - (k8 + 1)) % 10000))) (by rw [lN_i]) ?_
      refine cl_X11_258 (As := [.int (nI (sn / p10k (n0 - (k8 + 1)) % 10000))]) (rest := []) hB (c_X11_succeeds l g H r qi zq zrm zst zsl zsv ztx zln (nI 0) zsg zbg zwd zhg zin zop zbe zwi zhi zbk zot zer zen zpo zpi zgr shi zsn (sn / p10k (n0 - (k8 + 1)) % 10000) hR (by omega) (Nat.mod_lt _ (by omega))) hR.o rfl hl.1 (Nat.le_of_ble_eq_true rfl) dX11_runScript_108 ⟨Nat.le_of_ble_eq_true rfl, Nat.le_of_ble_eq_true rfl⟩ ⟨Nat.le_of_ble_eq_true rfl, Nat.le_of_ble_eq_true rfl⟩ hS (by have hz9 := hS.1; rintro q (h | h) <;> first | exact Or.inr (by omega) | exact h.elim | exact Or.inl h | (simp only [ftA] at h ⊢; omega)) (fun v H1 locs hpo hfr hS => ?_)
      obtain ⟨rfl, zsh2_1, hR⟩ := hpo
      generalize H1 = H at hfr hS hR ⊢
      refine W.widen (k := 0) (n := 0) (Nat.le_of_ble_eq_true rfl) (Nat.le_of_ble_eq_true rfl) ?_
      refine mb_if_eq (tgt := 119) hB dX11_runScript_111 (by decide) (fun h_111 => ?_) (fun h_111 => ?_)
      · skip
        refine lv_iload hx hb dX11_runScript_119 (lv_at hl 5 rfl) ?_
        refine lv_istore (lv' := [(6, .int (nI k8)), (4, .long (lN (p10k (n0 - (k8 + 1))))), (0, .ref r), (1, .int (nI n0)), (2, .long (lN sn)), (7, .int (nI k8))]) hx hb dX11_runScript_121 hl (by decide) rfl (fun ls hl => ?_)
        refine lv_iinc (v := nI (k8 + 1)) (lv' := [(7, .int (nI (k8 + 1))), (6, .int (nI k8)), (4, .long (lN (p10k (n0 - (k8 + 1))))), (0, .ref r), (1, .int (nI n0)), (2, .long (lN sn))]) hx hb dX11_runScript_123 hl (k := 5) rfl (nI_1 _) (by decide) rfl (fun ls hl => ?_)
        refine lv_goto (tgt := 79) hx hb dX11_runScript_126 (by decide) ?_
        refine lv_iload hx hb dX11_runScript_79 (lv_at hl 0 rfl) ?_
        refine lv_iload_n hx hb dX11_runScript_81 rfl (lv_at hl 4 rfl) ?_
        refine mn_icmp_ge (tgt := 129) hB dX11_runScript_82 (by decide) (by omega) (by omega) (fun h_82 => ?_) (fun h_82 => ?_)
        · skip
          refine lv_aload_n hx hb dX11_runScript_129 rfl (lv_at hl 3 rfl) ?_
          refine cl_X11_261 (As := []) (rest := []) hB (c_X11_bringBack l g H r (cmdQ qi (sn / p10k (n0 - (k8 + 1)) % 10000)) zq zrm zst zsl zsv ztx zln (nI 0) zsg zbg zwd zhg zin zop zbe zwi zhi zbk zot zer zen zpo zpi zgr zsh2_1 zsn hR) hR.o rfl hl.1 (Nat.le_of_ble_eq_true rfl) dX11_runScript_130 ⟨Nat.le_of_ble_eq_true rfl, Nat.le_of_ble_eq_true rfl⟩ ⟨Nat.le_of_ble_eq_true rfl, Nat.le_of_ble_eq_true rfl⟩ hS (by have hz9 := hS.1; rintro q (h | h) <;> first | exact Or.inr (by omega) | exact h.elim | exact Or.inl h | (simp only [ftA] at h ⊢; omega)) (fun v H1 locs hpo hfr hS => ?_)
          obtain ⟨rfl, hR⟩ := hpo
          generalize H1 = H at hfr hS hR ⊢
          refine W.widen (k := 0) (n := 0) (Nat.le_of_ble_eq_true rfl) (Nat.le_of_ble_eq_true rfl) ?_
          refine lv_iload hx hb dX11_runScript_133 (lv_at hl 1 rfl) ?_
          refine mh_iret hB ⟨Nat.le_of_ble_eq_true rfl, Nat.le_of_ble_eq_true rfl⟩ hS dX11_runScript_135 ⟨?_, zsh2_1, ?_⟩
          · first
            | (have z9 : n0 - k8 = 0 := by omega
               rw [z9] at hsg; exact congrArg (fun y9 => some (Value.int y9)) hsg)
            | (rw [scG_f h_111 (by omega)] at hsg; exact congrArg (fun y9 => some (Value.int y9)) hsg)
          · exact hR
        · skip
          refine lv_iload hx hb dX11_runScript_85 (lv_at hl 1 rfl) ?_
          refine mn_if_ge (tgt := 129) hB dX11_runScript_87 (by decide) (by omega) (fun h_87 => ?_) (fun h => by exfalso; omega)
          refine lv_aload_n hx hb dX11_runScript_129 rfl (lv_at hl 3 rfl) ?_
          refine cl_X11_261 (As := []) (rest := []) hB (c_X11_bringBack l g H r (cmdQ qi (sn / p10k (n0 - (k8 + 1)) % 10000)) zq zrm zst zsl zsv ztx zln (nI 0) zsg zbg zwd zhg zin zop zbe zwi zhi zbk zot zer zen zpo zpi zgr zsh2_1 zsn hR) hR.o rfl hl.1 (Nat.le_of_ble_eq_true rfl) dX11_runScript_130 ⟨Nat.le_of_ble_eq_true rfl, Nat.le_of_ble_eq_true rfl⟩ ⟨Nat.le_of_ble_eq_true rfl, Nat.le_of_ble_eq_true rfl⟩ hS (by have hz9 := hS.1; rintro q (h | h) <;> first | exact Or.inr (by omega) | exact h.elim | exact Or.inl h | (simp only [ftA] at h ⊢; omega)) (fun v H1 locs hpo hfr hS => ?_)
          obtain ⟨rfl, hR⟩ := hpo
          generalize H1 = H at hfr hS hR ⊢
          refine W.widen (k := 0) (n := 0) (Nat.le_of_ble_eq_true rfl) (Nat.le_of_ble_eq_true rfl) ?_
          refine lv_iload hx hb dX11_runScript_133 (lv_at hl 1 rfl) ?_
          refine mh_iret hB ⟨Nat.le_of_ble_eq_true rfl, Nat.le_of_ble_eq_true rfl⟩ hS dX11_runScript_135 ⟨?_, zsh2_1, ?_⟩
          · first
            | (have z9 : n0 - k8 = 0 := by omega
               rw [z9] at hsg; exact congrArg (fun y9 => some (Value.int y9)) hsg)
            | (rw [scG_f h_111 (by omega)] at hsg; exact congrArg (fun y9 => some (Value.int y9)) hsg)
          · exact hR
      · skip
        refine lv_iload hx hb dX11_runScript_114 (lv_at hl 4 rfl) ?_
        refine lv_goto (tgt := 121) hx hb dX11_runScript_116 (by decide) ?_
        refine lv_istore (lv' := [(6, .int (-9)), (4, .long (lN (p10k (n0 - (k8 + 1))))), (0, .ref r), (1, .int (nI n0)), (2, .long (lN sn)), (7, .int (nI k8))]) hx hb dX11_runScript_121 hl (by decide) rfl (fun ls hl => ?_)
        refine lv_iinc (v := nI (k8 + 1)) (lv' := [(7, .int (nI (k8 + 1))), (6, .int (-9)), (4, .long (lN (p10k (n0 - (k8 + 1))))), (0, .ref r), (1, .int (nI n0)), (2, .long (lN sn))]) hx hb dX11_runScript_123 hl (k := 5) rfl (nI_1 _) (by decide) rfl (fun ls hl => ?_)
        refine lv_goto (tgt := 79) hx hb dX11_runScript_126 (by decide) ?_
        refine ih79 (k8 + 1, cmdQ qi (sn / p10k (n0 - (k8 + 1)) % 10000), zsh2_1) _ _ _ ⟨(by omega), (cmdQ_WF hWi), ((scG_t h_111 (by omega)).symm.trans hsg), hR, hS, lv_sub hl [3, 4, 5, 2, 1, 0] rfl⟩ (by dsimp only; omega)
  · skip
    refine lv_iload hx hb dX11_runScript_17 (lv_at hl 4 rfl) ?_
    refine lv_iconst (v := nI 4) hx hb dX11_runScript_19 (by decide) ?_
    refine mn_icmp_ge (tgt := 37) hB dX11_runScript_20 (by decide) (by omega) (by omega) (fun h => by exfalso; omega) (fun h_20 => ?_)
    refine lv_lload hx hb dX11_runScript_23 (lv_at hl 3 rfl) ?_
    refine lv_ldc2 (v := (10000)) hx hb hB.ow (hB.K.2 _ kw_1321 _) dX11_runScript_25 ?_
    refine lv_lmul hx hb dX11_runScript_28 ?_
    refine mh_top (y := .long (lN (p10k (k9 + 1)))) (by rw [show (10000 : Int64) = lN 10000 from rfl, lN_mul, ← p10k_s]) ?_
    refine lv_lstore (lv' := [(4, .long (lN (p10k (k9 + 1)))), (0, .ref r), (1, .int (nI n0)), (2, .long (lN sn)), (6, .int (nI k9))]) hx hb dX11_runScript_29 hl (by decide) rfl (fun ls hl => ?_)
    refine lv_iinc (v := nI (k9 + 1)) (lv' := [(6, .int (nI (k9 + 1))), (4, .long (lN (p10k (k9 + 1)))), (0, .ref r), (1, .int (nI n0)), (2, .long (lN sn))]) hx hb dX11_runScript_31 hl (k := 4) rfl (nI_1 _) (by decide) rfl (fun ls hl => ?_)
    refine lv_goto (tgt := 11) hx hb dX11_runScript_34 (by decide) ?_
    refine ih11 (k9 + 1) _ _ _ ⟨(by omega), hR, hS, lv_sub hl [2, 3, 4, 1, 0] rfl⟩ (by dsimp only; omega)

def rm_c_X11_runScript_t1 : Room := { frames := 1, cells := 0, slots := 0, locals := 25 }
set_option maxRecDepth 100000 in
set_option maxHeartbeats 400000 in
theorem c_X11_runScript_t1 (l : Launch) (g : GG) (H0 : Heap) (r : Nat) (zq : Nat → Int32) (zsp : Nat → Int32) (zrm : Nat → Int32) (zst : Int32) (zsl : Nat → Int32) (zsv : Nat → Int32) (ztx : Nat → Int32) (zln : Int32) (zth : Int32) (zsg : Nat → Int32) (zbg : Nat → Int32) (zwd : Nat → Int32) (zhg : Nat → Int32) (zin : Nat → Int32) (zop : Int32) (zbe : Int32) (zwi : Int32) (zhi : Int32) (zbk : Nat → Int32) (zot : Nat → Int32) (zer : Int32) (zen : Int32) (zpo : Nat → Int32) (zpi : Int32) (zgr : Int32) (zsh : Nat → Int32) (zsn : Int32) (x : Int32) (y : Int64) (hR : ModAt g r zq zsp zrm zst zsl zsv ztx zln zth zsg zbg zwd zhg zin zop zbe zwi zhi zbk zot zer zen zpo zpi zgr zsh zsn H0) (hx1 : inL x.toInt64 1 4 = false) : Ct l yX11_runScript cX11_runScript 8 (some .int) rm_c_X11_runScript_t1 g [.ref r, .int x, .long y] H0 (ftA (fun q => r ≤ q ∧ q < r + 16) H0.size) (fun v H1 => v = some (.int (nI 0)) ∧ ModAt g r zq zsp zrm zst zsl zsv ztx zln (nI 1) zsg zbg zwd zhg zin zop zbe zwi zhi zbk zot zer zen zpo zpi zgr zsh zsn H1) := by
  refine Ct.of (by decide) (fun _ h => Or.inr h) (Nat.le_of_ble_eq_true rfl) ?_
  intro p e s m below meth c ls hB hin hS hH hl
  have hx := hB.x
  have hb := hB.b
  have hl : lv_has ls 8 [(0, .ref r), (1, .int x), (2, .long y)] := hl
  refine lv_aload_n hx hb dX11_runScript_0 rfl (lv_at hl 0 rfl) ?_
  refine lv_iconst (v := nI 0) hx hb dX11_runScript_1 (by decide) ?_
  refine pf_X11_56 hB hR.o (by first | exact Or.inl rfl | (simp only [ftA]; omega) | (simp [ftA]; omega)) hS rfl rfl (Nat.le_of_ble_eq_true rfl) dX11_runScript_2 (fun H locs hwr => ?_)
  obtain ⟨hR, hS⟩ := hR.w_zth hwr
  refine lv_lconst (v := 1) hx hb dX11_runScript_5 (by decide) ?_
  refine lv_lstore (lv' := [(4, .long 1), (0, .ref r), (1, .int x), (2, .long y)]) hx hb dX11_runScript_6 hl (by decide) rfl (fun ls hl => ?_)
  refine lv_iconst (v := nI 0) hx hb dX11_runScript_8 (by decide) ?_
  refine lv_istore (lv' := [(6, .int (nI 0)), (4, .long 1), (0, .ref r), (1, .int x), (2, .long y)]) hx hb dX11_runScript_9 hl (by decide) rfl (fun ls hl => ?_)
  refine mh_loop (σ := Nat × Int64) (fun xx9 H locs ls => match xx9 with | (k9, u9) => k9 ≤ 4 ∧ ModAt g r zq zsp zrm zst zsl zsv ztx zln (nI 0) zsg zbg zwd zhg zin zop zbe zwi zhi zbk zot zer zen zpo zpi zgr zsh zsn H ∧ va_S (ftA (fun q => r ≤ q ∧ q < r + 16) H0.size) H0 H locs ∧ lv_has ls 8 [(0, .ref r), (1, .int x), (2, .long y), (4, .long u9), (6, .int (nI k9))]) (fun xx9 => match xx9 with | (k9, u9) => 4 - k9) ?_ (0, 1) ⟨(by omega), hR, hS, lv_sub hl [2, 3, 4, 1, 0] rfl⟩
  rintro ⟨k9, u9⟩ H locs ls ⟨hk9, hR, hS, hl⟩ ih
  have ih11 := ih
  refine lv_iload hx hb dX11_runScript_11 (lv_at hl 4 rfl) ?_
  refine lv_iload_n hx hb dX11_runScript_13 rfl (lv_at hl 1 rfl) ?_
  refine lv_icmp_ge (tgt := 37) hx hb dX11_runScript_14 (by decide) (fun h_14 => ?_) (fun h_14 => ?_)
  · skip
    refine lv_iload_n hx hb dX11_runScript_37 rfl (lv_at hl 1 rfl) ?_
    refine lv_i2l (v := (x).toInt64) hx hb dX11_runScript_38 rfl ?_
    refine lv_lconst (v := 1) hx hb dX11_runScript_39 (by decide) ?_
    refine lv_ldc2 (v := (4)) hx hb hB.ow (hB.K.2 _ kw_1144 _) dX11_runScript_40 ?_
    refine cl_X11_63 (As := [.long ((x).toInt64), .long 1, .long (4)]) (rest := []) hB (c_X11_in l g H ((x).toInt64) 1 (4)) rfl hl.1 (Nat.le_of_ble_eq_true rfl) dX11_runScript_43 ⟨Nat.le_of_ble_eq_true rfl, Nat.le_of_ble_eq_true rfl⟩ ⟨Nat.le_of_ble_eq_true rfl, Nat.le_of_ble_eq_true rfl⟩ hS (by have hz9 := hS.1; rintro q (h | h) <;> first | exact Or.inr (by omega) | exact h.elim | exact Or.inl h | (simp only [ftA] at h ⊢; omega)) (fun v H1 locs hpo hfr hS => ?_)
    obtain ⟨rfl, rfl⟩ := hpo
    refine W.widen (k := 0) (n := 0) (Nat.le_of_ble_eq_true rfl) (Nat.le_of_ble_eq_true rfl) ?_
    refine mb_if_eq (tgt := 62) hB dX11_runScript_46 (by decide) (fun h_46 => ?_) (fun h => by rw [hx1] at h; cases h)
    refine lv_aload_n hx hb dX11_runScript_62 rfl (lv_at hl 0 rfl) ?_
    refine lv_iconst (v := nI 1) hx hb dX11_runScript_63 (by decide) ?_
    refine cl_X11_81 (As := [.int (nI 1)]) (rest := []) hB (c_X11_fails l g H r zq zsp zrm zst zsl zsv ztx zln (nI 0) zsg zbg zwd zhg zin zop zbe zwi zhi zbk zot zer zen zpo zpi zgr zsh zsn (nI 1) hR) hR.o rfl hl.1 (Nat.le_of_ble_eq_true rfl) dX11_runScript_64 ⟨Nat.le_of_ble_eq_true rfl, Nat.le_of_ble_eq_true rfl⟩ ⟨Nat.le_of_ble_eq_true rfl, Nat.le_of_ble_eq_true rfl⟩ hS (by have hz9 := hS.1; rintro q (h | h) <;> first | exact Or.inr (by omega) | exact h.elim | exact Or.inl h | (simp only [ftA] at h ⊢; omega)) (fun v H1 locs hpo hfr hS => ?_)
    obtain ⟨rfl, hR⟩ := hpo
    generalize H1 = H at hfr hS hR ⊢
    refine W.widen (k := 0) (n := 0) (Nat.le_of_ble_eq_true rfl) (Nat.le_of_ble_eq_true rfl) ?_
    refine mh_iret hB ⟨Nat.le_of_ble_eq_true rfl, Nat.le_of_ble_eq_true rfl⟩ hS dX11_runScript_67 ⟨?_, ?_⟩
    · rfl
    · exact hR
  · skip
    refine lv_iload hx hb dX11_runScript_17 (lv_at hl 4 rfl) ?_
    refine lv_iconst (v := nI 4) hx hb dX11_runScript_19 (by decide) ?_
    refine mn_icmp_ge (tgt := 37) hB dX11_runScript_20 (by decide) (by omega) (by omega) (fun h_20 => ?_) (fun h_20 => ?_)
    · skip
      refine lv_iload_n hx hb dX11_runScript_37 rfl (lv_at hl 1 rfl) ?_
      refine lv_i2l (v := (x).toInt64) hx hb dX11_runScript_38 rfl ?_
      refine lv_lconst (v := 1) hx hb dX11_runScript_39 (by decide) ?_
      refine lv_ldc2 (v := (4)) hx hb hB.ow (hB.K.2 _ kw_1144 _) dX11_runScript_40 ?_
      refine cl_X11_63 (As := [.long ((x).toInt64), .long 1, .long (4)]) (rest := []) hB (c_X11_in l g H ((x).toInt64) 1 (4)) rfl hl.1 (Nat.le_of_ble_eq_true rfl) dX11_runScript_43 ⟨Nat.le_of_ble_eq_true rfl, Nat.le_of_ble_eq_true rfl⟩ ⟨Nat.le_of_ble_eq_true rfl, Nat.le_of_ble_eq_true rfl⟩ hS (by have hz9 := hS.1; rintro q (h | h) <;> first | exact Or.inr (by omega) | exact h.elim | exact Or.inl h | (simp only [ftA] at h ⊢; omega)) (fun v H1 locs hpo hfr hS => ?_)
      obtain ⟨rfl, rfl⟩ := hpo
      refine W.widen (k := 0) (n := 0) (Nat.le_of_ble_eq_true rfl) (Nat.le_of_ble_eq_true rfl) ?_
      refine mb_if_eq (tgt := 62) hB dX11_runScript_46 (by decide) (fun h_46 => ?_) (fun h => by rw [hx1] at h; cases h)
      refine lv_aload_n hx hb dX11_runScript_62 rfl (lv_at hl 0 rfl) ?_
      refine lv_iconst (v := nI 1) hx hb dX11_runScript_63 (by decide) ?_
      refine cl_X11_81 (As := [.int (nI 1)]) (rest := []) hB (c_X11_fails l g H r zq zsp zrm zst zsl zsv ztx zln (nI 0) zsg zbg zwd zhg zin zop zbe zwi zhi zbk zot zer zen zpo zpi zgr zsh zsn (nI 1) hR) hR.o rfl hl.1 (Nat.le_of_ble_eq_true rfl) dX11_runScript_64 ⟨Nat.le_of_ble_eq_true rfl, Nat.le_of_ble_eq_true rfl⟩ ⟨Nat.le_of_ble_eq_true rfl, Nat.le_of_ble_eq_true rfl⟩ hS (by have hz9 := hS.1; rintro q (h | h) <;> first | exact Or.inr (by omega) | exact h.elim | exact Or.inl h | (simp only [ftA] at h ⊢; omega)) (fun v H1 locs hpo hfr hS => ?_)
      obtain ⟨rfl, hR⟩ := hpo
      generalize H1 = H at hfr hS hR ⊢
      refine W.widen (k := 0) (n := 0) (Nat.le_of_ble_eq_true rfl) (Nat.le_of_ble_eq_true rfl) ?_
      refine mh_iret hB ⟨Nat.le_of_ble_eq_true rfl, Nat.le_of_ble_eq_true rfl⟩ hS dX11_runScript_67 ⟨?_, ?_⟩
      · rfl
      · exact hR
    · skip
      refine lv_lload hx hb dX11_runScript_23 (lv_at hl 3 rfl) ?_
      refine lv_ldc2 (v := (10000)) hx hb hB.ow (hB.K.2 _ kw_1321 _) dX11_runScript_25 ?_
      refine lv_lmul hx hb dX11_runScript_28 ?_
      refine lv_lstore (lv' := [(4, .long (u9 * (10000))), (0, .ref r), (1, .int x), (2, .long y), (6, .int (nI k9))]) hx hb dX11_runScript_29 hl (by decide) rfl (fun ls hl => ?_)
      refine lv_iinc (v := nI (k9 + 1)) (lv' := [(6, .int (nI (k9 + 1))), (4, .long (u9 * (10000))), (0, .ref r), (1, .int x), (2, .long y)]) hx hb dX11_runScript_31 hl (k := 4) rfl (nI_1 _) (by decide) rfl (fun ls hl => ?_)
      refine lv_goto (tgt := 11) hx hb dX11_runScript_34 (by decide) ?_
      refine ih11 (k9 + 1, u9 * 10000) _ _ _ ⟨(by omega), hR, hS, lv_sub hl [2, 3, 4, 1, 0] rfl⟩ (by dsimp only; omega)

def rm_c_X11_runScript_t1b : Room := { frames := 1, cells := 0, slots := 0, locals := 25 }
set_option maxRecDepth 100000 in
set_option maxHeartbeats 400000 in
theorem c_X11_runScript_t1b (l : Launch) (g : GG) (H0 : Heap) (r : Nat) (zq : Nat → Int32) (zsp : Nat → Int32) (zrm : Nat → Int32) (zst : Int32) (zsl : Nat → Int32) (zsv : Nat → Int32) (ztx : Nat → Int32) (zln : Int32) (zth : Int32) (zsg : Nat → Int32) (zbg : Nat → Int32) (zwd : Nat → Int32) (zhg : Nat → Int32) (zin : Nat → Int32) (zop : Int32) (zbe : Int32) (zwi : Int32) (zhi : Int32) (zbk : Nat → Int32) (zot : Nat → Int32) (zer : Int32) (zen : Int32) (zpo : Nat → Int32) (zpi : Int32) (zgr : Int32) (zsh : Nat → Int32) (zsn : Int32) (n0 : Nat) (y : Int64) (hR : ModAt g r zq zsp zrm zst zsl zsv ztx zln zth zsg zbg zwd zhg zin zop zbe zwi zhi zbk zot zer zen zpo zpi zgr zsh zsn H0) (hn1 : 0 < n0) (hn4 : n0 ≤ 4) (hy1 : y.toInt < 0 ∨ (p10k n0 : Int) ≤ y.toInt) : Ct l yX11_runScript cX11_runScript 8 (some .int) rm_c_X11_runScript_t1b g [.ref r, .int (nI n0), .long y] H0 (ftA (fun q => r ≤ q ∧ q < r + 16) H0.size) (fun v H1 => v = some (.int (nI 0)) ∧ ModAt g r zq zsp zrm zst zsl zsv ztx zln (nI 1) zsg zbg zwd zhg zin zop zbe zwi zhi zbk zot zer zen zpo zpi zgr zsh zsn H1) := by
  refine Ct.of (by decide) (fun _ h => Or.inr h) (Nat.le_of_ble_eq_true rfl) ?_
  intro p e s m below meth c ls hB hin hS hH hl
  have hx := hB.x
  have hb := hB.b
  have hl : lv_has ls 8 [(0, .ref r), (1, .int (nI n0)), (2, .long y)] := hl
  have hun9 := pk_lT (n := p10k n0) (by have := p10k_le hn4; omega)
  have he09 : (0 : Int64).toInt = 0 := by decide
  refine lv_aload_n hx hb dX11_runScript_0 rfl (lv_at hl 0 rfl) ?_
  refine lv_iconst (v := nI 0) hx hb dX11_runScript_1 (by decide) ?_
  refine pf_X11_56 hB hR.o (by first | exact Or.inl rfl | (simp only [ftA]; omega) | (simp [ftA]; omega)) hS rfl rfl (Nat.le_of_ble_eq_true rfl) dX11_runScript_2 (fun H locs hwr => ?_)
  obtain ⟨hR, hS⟩ := hR.w_zth hwr
  refine lv_lconst (v := 1) hx hb dX11_runScript_5 (by decide) ?_
  refine mh_top (y := .long (lN (p10k 0))) (rfl) ?_
  refine lv_lstore (lv' := [(4, .long (lN (p10k 0))), (0, .ref r), (1, .int (nI n0)), (2, .long y)]) hx hb dX11_runScript_6 hl (by decide) rfl (fun ls hl => ?_)
  refine lv_iconst (v := nI 0) hx hb dX11_runScript_8 (by decide) ?_
  refine lv_istore (lv' := [(6, .int (nI 0)), (4, .long (lN (p10k 0))), (0, .ref r), (1, .int (nI n0)), (2, .long y)]) hx hb dX11_runScript_9 hl (by decide) rfl (fun ls hl => ?_)
  refine mh_loop (σ := Nat) (fun xx9 H locs ls => match xx9 with | k9 => k9 ≤ n0 ∧ ModAt g r zq zsp zrm zst zsl zsv ztx zln (nI 0) zsg zbg zwd zhg zin zop zbe zwi zhi zbk zot zer zen zpo zpi zgr zsh zsn H ∧ va_S (ftA (fun q => r ≤ q ∧ q < r + 16) H0.size) H0 H locs ∧ lv_has ls 8 [(0, .ref r), (1, .int (nI n0)), (2, .long y), (4, .long (lN (p10k k9))), (6, .int (nI k9))]) (fun xx9 => match xx9 with | k9 => n0 - k9) ?_ 0 ⟨(by omega), hR, hS, lv_sub hl [2, 3, 4, 1, 0] rfl⟩
  rintro k9 H locs ls ⟨hk9, hR, hS, hl⟩ ih
  have ih11 := ih
  refine lv_iload hx hb dX11_runScript_11 (lv_at hl 4 rfl) ?_
  refine lv_iload_n hx hb dX11_runScript_13 rfl (lv_at hl 1 rfl) ?_
  refine mn_icmp_ge (tgt := 37) hB dX11_runScript_14 (by decide) (by omega) (by omega) (fun h_14 => ?_) (fun h_14 => ?_)
  · skip
    have hin9 : n0 = k9 := by omega
    subst hin9
    refine lv_iload_n hx hb dX11_runScript_37 rfl (lv_at hl 1 rfl) ?_
    refine lv_i2l (v := (nI n0).toInt64) hx hb dX11_runScript_38 rfl ?_
    refine lv_lconst (v := 1) hx hb dX11_runScript_39 (by decide) ?_
    refine lv_ldc2 (v := (4)) hx hb hB.ow (hB.K.2 _ kw_1144 _) dX11_runScript_40 ?_
    refine cl_X11_63 (As := [.long ((nI n0).toInt64), .long 1, .long (4)]) (rest := []) hB (c_X11_in l g H ((nI n0).toInt64) 1 (4)) rfl hl.1 (Nat.le_of_ble_eq_true rfl) dX11_runScript_43 ⟨Nat.le_of_ble_eq_true rfl, Nat.le_of_ble_eq_true rfl⟩ ⟨Nat.le_of_ble_eq_true rfl, Nat.le_of_ble_eq_true rfl⟩ hS (by have hz9 := hS.1; rintro q (h | h) <;> first | exact Or.inr (by omega) | exact h.elim | exact Or.inl h | (simp only [ftA] at h ⊢; omega)) (fun v H1 locs hpo hfr hS => ?_)
    obtain ⟨rfl, rfl⟩ := hpo
    refine W.widen (k := 0) (n := 0) (Nat.le_of_ble_eq_true rfl) (Nat.le_of_ble_eq_true rfl) ?_
    refine mb_if_eq (tgt := 62) hB dX11_runScript_46 (by decide) (fun h => by rw [inL_14 hn1 hn4] at h; cases h) (fun h_46 => ?_)
    refine lv_lload_n hx hb dX11_runScript_49 rfl (lv_at hl 2 rfl) ?_
    refine lv_lconst (v := 0) hx hb dX11_runScript_50 (by decide) ?_
    refine W.lcmp hx hb dX11_runScript_51 ?_
    refine ml_if_lt (tgt := 62) hB dX11_runScript_52 (by decide) (fun h_52 => ?_) (fun h_52 => ?_)
    · skip
      refine lv_aload_n hx hb dX11_runScript_62 rfl (lv_at hl 0 rfl) ?_
      refine lv_iconst (v := nI 1) hx hb dX11_runScript_63 (by decide) ?_
      refine cl_X11_81 (As := [.int (nI 1)]) (rest := []) hB (c_X11_fails l g H r zq zsp zrm zst zsl zsv ztx zln (nI 0) zsg zbg zwd zhg zin zop zbe zwi zhi zbk zot zer zen zpo zpi zgr zsh zsn (nI 1) hR) hR.o rfl hl.1 (Nat.le_of_ble_eq_true rfl) dX11_runScript_64 ⟨Nat.le_of_ble_eq_true rfl, Nat.le_of_ble_eq_true rfl⟩ ⟨Nat.le_of_ble_eq_true rfl, Nat.le_of_ble_eq_true rfl⟩ hS (by have hz9 := hS.1; rintro q (h | h) <;> first | exact Or.inr (by omega) | exact h.elim | exact Or.inl h | (simp only [ftA] at h ⊢; omega)) (fun v H1 locs hpo hfr hS => ?_)
      obtain ⟨rfl, hR⟩ := hpo
      generalize H1 = H at hfr hS hR ⊢
      refine W.widen (k := 0) (n := 0) (Nat.le_of_ble_eq_true rfl) (Nat.le_of_ble_eq_true rfl) ?_
      refine mh_iret hB ⟨Nat.le_of_ble_eq_true rfl, Nat.le_of_ble_eq_true rfl⟩ hS dX11_runScript_67 ⟨?_, ?_⟩
      · rfl
      · exact hR
    · skip
      refine lv_lload_n hx hb dX11_runScript_55 rfl (lv_at hl 2 rfl) ?_
      refine lv_lload hx hb dX11_runScript_56 (lv_at hl 3 rfl) ?_
      refine W.lcmp hx hb dX11_runScript_58 ?_
      refine ml_if_lt (tgt := 68) hB dX11_runScript_59 (by decide) (fun h => by exfalso; omega) (fun h_59 => ?_)
      refine lv_aload_n hx hb dX11_runScript_62 rfl (lv_at hl 0 rfl) ?_
      refine lv_iconst (v := nI 1) hx hb dX11_runScript_63 (by decide) ?_
      refine cl_X11_81 (As := [.int (nI 1)]) (rest := []) hB (c_X11_fails l g H r zq zsp zrm zst zsl zsv ztx zln (nI 0) zsg zbg zwd zhg zin zop zbe zwi zhi zbk zot zer zen zpo zpi zgr zsh zsn (nI 1) hR) hR.o rfl hl.1 (Nat.le_of_ble_eq_true rfl) dX11_runScript_64 ⟨Nat.le_of_ble_eq_true rfl, Nat.le_of_ble_eq_true rfl⟩ ⟨Nat.le_of_ble_eq_true rfl, Nat.le_of_ble_eq_true rfl⟩ hS (by have hz9 := hS.1; rintro q (h | h) <;> first | exact Or.inr (by omega) | exact h.elim | exact Or.inl h | (simp only [ftA] at h ⊢; omega)) (fun v H1 locs hpo hfr hS => ?_)
      obtain ⟨rfl, hR⟩ := hpo
      generalize H1 = H at hfr hS hR ⊢
      refine W.widen (k := 0) (n := 0) (Nat.le_of_ble_eq_true rfl) (Nat.le_of_ble_eq_true rfl) ?_
      refine mh_iret hB ⟨Nat.le_of_ble_eq_true rfl, Nat.le_of_ble_eq_true rfl⟩ hS dX11_runScript_67 ⟨?_, ?_⟩
      · rfl
      · exact hR
  · skip
    refine lv_iload hx hb dX11_runScript_17 (lv_at hl 4 rfl) ?_
    refine lv_iconst (v := nI 4) hx hb dX11_runScript_19 (by decide) ?_
    refine mn_icmp_ge (tgt := 37) hB dX11_runScript_20 (by decide) (by omega) (by omega) (fun h => by exfalso; omega) (fun h_20 => ?_)
    refine lv_lload hx hb dX11_runScript_23 (lv_at hl 3 rfl) ?_
    refine lv_ldc2 (v := (10000)) hx hb hB.ow (hB.K.2 _ kw_1321 _) dX11_runScript_25 ?_
    refine lv_lmul hx hb dX11_runScript_28 ?_
    refine mh_top (y := .long (lN (p10k (k9 + 1)))) (by rw [show (10000 : Int64) = lN 10000 from rfl, lN_mul, ← p10k_s]) ?_
    refine lv_lstore (lv' := [(4, .long (lN (p10k (k9 + 1)))), (0, .ref r), (1, .int (nI n0)), (2, .long y), (6, .int (nI k9))]) hx hb dX11_runScript_29 hl (by decide) rfl (fun ls hl => ?_)
    refine lv_iinc (v := nI (k9 + 1)) (lv' := [(6, .int (nI (k9 + 1))), (4, .long (lN (p10k (k9 + 1)))), (0, .ref r), (1, .int (nI n0)), (2, .long y)]) hx hb dX11_runScript_31 hl (k := 4) rfl (nI_1 _) (by decide) rfl (fun ls hl => ?_)
    refine lv_goto (tgt := 11) hx hb dX11_runScript_34 (by decide) ?_
    refine ih11 (k9 + 1) _ _ _ ⟨(by omega), hR, hS, lv_sub hl [2, 3, 4, 1, 0] rfl⟩ (by dsimp only; omega)

def rm_c_X11_simulate : Room := { frames := 6, cells := 0, slots := 0, locals := 137 }
set_option maxRecDepth 100000 in
set_option maxHeartbeats 400000 in
theorem c_X11_simulate (l : Launch) (g : GG) (H0 : Heap) (r : Nat) (zq : Nat → Int32) (zsp : Nat → Int32) (zrm : Nat → Int32) (zst : Int32) (zsl : Nat → Int32) (zsv : Nat → Int32) (ztx : Nat → Int32) (zln : Int32) (zth : Int32) (zsg : Nat → Int32) (zbg : Nat → Int32) (zwd : Nat → Int32) (zhg : Nat → Int32) (zin : Nat → Int32) (zop : Int32) (zbe : Int32) (zwi : Int32) (zhi : Int32) (zbk : Nat → Int32) (zot : Nat → Int32) (zer : Int32) (zen : Int32) (zpo : Nat → Int32) (zpi : Int32) (zgr : Int32) (zsh : Nat → Int32) (zsn : Int32) (y : Int64) (n0 : Nat) (hR : ModAt g r zq zsp zrm zst zsl zsv ztx zln zth zsg zbg zwd zhg zin zop zbe zwi zhi zbk zot zer zen zpo zpi zgr zsh zsn H0) (hW : WF zq) (hn1 : 0 < n0) (hn2 : n0 < 100) : Ct l yX11_simulate cX11_simulate 8 (some .int) rm_c_X11_simulate g [.ref r, .long y, .int (nI n0)] H0 (ftA (fun q => r ≤ q ∧ q < r + 16) H0.size) (fun v H1 => v = some (.int (nI (simV zq y n0))) ∧ ∃ (zsh2 : Nat → Int32), ModAt g r zq zq zrm zst zsl zsv ztx zln (nI 0) zsg zbg zwd zhg zin zop zbe zwi zhi zbk zot zer zen zpo zpi zgr zsh2 (nI (smS zq y n0)) H1) := by
  refine Ct.of (by decide) (fun _ h => Or.inr h) (Nat.le_of_ble_eq_true rfl) ?_
  intro p e s m below meth c ls hB hin hS hH hl
  have hx := hB.x
  have hb := hB.b
  have hl : lv_has ls 8 [(0, .ref r), (1, .long y), (3, .int (nI n0))] := hl
  refine lv_aload_n hx hb dX11_simulate_0 rfl (lv_at hl 0 rfl) ?_
  refine lv_iconst (v := nI 0) hx hb dX11_simulate_1 (by decide) ?_
  refine pf_X11_56 hB hR.o (by first | exact Or.inl rfl | (simp only [ftA]; omega) | (simp [ftA]; omega)) hS rfl rfl (Nat.le_of_ble_eq_true rfl) dX11_simulate_2 (fun H locs hwr => ?_)
  obtain ⟨hR, hS⟩ := hR.w_zth hwr
  refine lv_iload_n hx hb dX11_simulate_5 rfl (lv_at hl 2 rfl) ?_
  refine lv_i2l (v := (nI n0).toInt64) hx hb dX11_simulate_6 rfl ?_
  refine lv_lconst (v := 1) hx hb dX11_simulate_7 (by decide) ?_
  refine lv_ldc2 (v := (99)) hx hb hB.ow (hB.K.2 _ kw_1218 _) dX11_simulate_8 ?_
  refine cl_X11_63 (As := [.long ((nI n0).toInt64), .long 1, .long (99)]) (rest := []) hB (c_X11_in l g H ((nI n0).toInt64) 1 (99)) rfl hl.1 (Nat.le_of_ble_eq_true rfl) dX11_simulate_11 ⟨Nat.le_of_ble_eq_true rfl, Nat.le_of_ble_eq_true rfl⟩ ⟨Nat.le_of_ble_eq_true rfl, Nat.le_of_ble_eq_true rfl⟩ hS (by have hz9 := hS.1; rintro q (h | h) <;> first | exact Or.inr (by omega) | exact h.elim | exact Or.inl h | (simp only [ftA] at h ⊢; omega)) (fun v H1 locs hpo hfr hS => ?_)
  obtain ⟨rfl, rfl⟩ := hpo
  refine W.widen (k := 0) (n := 0) (Nat.le_of_ble_eq_true rfl) (Nat.le_of_ble_eq_true rfl) ?_
  refine mb_if_ne (tgt := 23) hB dX11_simulate_14 (by decide) (fun h_14 => ?_) (fun h => by rw [isRg_of hn1 hn2] at h; cases h)
  refine lv_aload_n hx hb dX11_simulate_23 rfl (lv_at hl 0 rfl) ?_
  refine cl_X11_255 (As := []) (rest := []) hB (c_X11_keep l g H r zq zsp zrm zst zsl zsv ztx zln (nI 0) zsg zbg zwd zhg zin zop zbe zwi zhi zbk zot zer zen zpo zpi zgr zsh zsn hR) hR.o rfl hl.1 (Nat.le_of_ble_eq_true rfl) dX11_simulate_24 ⟨Nat.le_of_ble_eq_true rfl, Nat.le_of_ble_eq_true rfl⟩ ⟨Nat.le_of_ble_eq_true rfl, Nat.le_of_ble_eq_true rfl⟩ hS (by have hz9 := hS.1; rintro q (h | h) <;> first | exact Or.inr (by omega) | exact h.elim | exact Or.inl h | (simp only [ftA] at h ⊢; omega)) (fun v H1 locs hpo hfr hS => ?_)
  obtain ⟨rfl, hR⟩ := hpo
  generalize H1 = H at hfr hS hR ⊢
  refine W.widen (k := 0) (n := 0) (Nat.le_of_ble_eq_true rfl) (Nat.le_of_ble_eq_true rfl) ?_
  refine lv_lload_n hx hb dX11_simulate_27 rfl (lv_at hl 1 rfl) ?_
  refine lv_lstore (lv' := [(4, .long y), (0, .ref r), (1, .long y), (3, .int (nI n0))]) hx hb dX11_simulate_28 hl (by decide) rfl (fun ls hl => ?_)
  refine lv_iconst (v := nI 0) hx hb dX11_simulate_30 (by decide) ?_
  refine lv_istore (lv' := [(6, .int (nI 0)), (4, .long y), (0, .ref r), (1, .long y), (3, .int (nI n0))]) hx hb dX11_simulate_31 hl (by decide) rfl (fun ls hl => ?_)
  refine lv_aload_n hx hb dX11_simulate_33 rfl (lv_at hl 2 rfl) ?_
  refine lv_iconst (v := nI 0) hx hb dX11_simulate_34 (by decide) ?_
  refine pf_X11_264 hB hR.o (by first | exact Or.inl rfl | (simp only [ftA]; omega) | (simp [ftA]; omega)) hS rfl rfl (Nat.le_of_ble_eq_true rfl) dX11_simulate_35 (fun H locs hwr => ?_)
  obtain ⟨hR, hS⟩ := hR.w_zsn hwr
  refine lv_iconst (v := nI 0) hx hb dX11_simulate_38 (by decide) ?_
  refine lv_istore (lv' := [(7, .int (nI 0)), (6, .int (nI 0)), (4, .long y), (0, .ref r), (1, .long y), (3, .int (nI n0))]) hx hb dX11_simulate_39 hl (by decide) rfl (fun ls hl => ?_)
  refine mh_loop (σ := Nat × (Nat → Int32)) (fun xx9 H locs ls => match xx9 with | (k8, shi) => k8 ≤ n0 ∧ ModAt g r (smQ zq y k8) zq zrm zst zsl zsv ztx zln (nI 0) zsg zbg zwd zhg zin zop zbe zwi zhi zbk zot zer zen zpo zpi zgr shi (nI (smS zq y k8)) H ∧ va_S (ftA (fun q => r ≤ q ∧ q < r + 16) H0.size) H0 H locs ∧ lv_has ls 8 [(0, .ref r), (1, .long y), (3, .int (nI n0)), (4, .long (smX y k8)), (6, .int (nI (smA zq y k8))), (7, .int (nI k8))]) (fun xx9 => match xx9 with | (k8, shi) => n0 - k8) ?_ (0, zsh) ⟨(by omega), hR, hS, lv_sub hl [3, 4, 5, 2, 1, 0] rfl⟩
  rintro ⟨k8, shi⟩ H locs ls ⟨hk8, hR, hS, hl⟩ ih
  have ih41 := ih
  refine lv_iload hx hb dX11_simulate_41 (lv_at hl 5 rfl) ?_
  refine lv_iload_n hx hb dX11_simulate_43 rfl (lv_at hl 2 rfl) ?_
  refine mn_icmp_ge (tgt := 80) hB dX11_simulate_44 (by decide) (by omega) (by omega) (fun h_44 => ?_) (fun h_44 => ?_)
  · skip
    have hin9 : n0 = k8 := by omega
    subst hin9
    refine lv_aload_n hx hb dX11_simulate_80 rfl (lv_at hl 0 rfl) ?_
    refine cl_X11_261 (As := []) (rest := []) hB (c_X11_bringBack l g H r (smQ zq y n0) zq zrm zst zsl zsv ztx zln (nI 0) zsg zbg zwd zhg zin zop zbe zwi zhi zbk zot zer zen zpo zpi zgr shi (nI (smS zq y n0)) hR) hR.o rfl hl.1 (Nat.le_of_ble_eq_true rfl) dX11_simulate_81 ⟨Nat.le_of_ble_eq_true rfl, Nat.le_of_ble_eq_true rfl⟩ ⟨Nat.le_of_ble_eq_true rfl, Nat.le_of_ble_eq_true rfl⟩ hS (by have hz9 := hS.1; rintro q (h | h) <;> first | exact Or.inr (by omega) | exact h.elim | exact Or.inl h | (simp only [ftA] at h ⊢; omega)) (fun v H1 locs hpo hfr hS => ?_)
    obtain ⟨rfl, hR⟩ := hpo
    generalize H1 = H at hfr hS hR ⊢
    refine W.widen (k := 0) (n := 0) (Nat.le_of_ble_eq_true rfl) (Nat.le_of_ble_eq_true rfl) ?_
    refine lv_sipush (v := nI 1000) hx hb dX11_simulate_84 (by decide +kernel) ?_
    refine lv_iload hx hb dX11_simulate_87 (lv_at hl 4 rfl) ?_
    refine mn_imul hB dX11_simulate_89 ?_
    refine lv_aload_n hx hb dX11_simulate_90 rfl (lv_at hl 0 rfl) ?_
    refine gf_X11_264 hB hR.o rfl dX11_simulate_91 ?_
    refine lv_sipush (v := nI 999) hx hb dX11_simulate_94 (by decide +kernel) ?_
    refine mn_icmp_le (tgt := 106) hB dX11_simulate_97 (by decide) (by have := smS_le zq y n0; omega) (by omega) (fun h_97 => ?_) (fun h_97 => ?_)
    · skip
      refine lv_aload_n hx hb dX11_simulate_106 rfl (lv_at hl 0 rfl) ?_
      refine gf_X11_264 hB hR.o rfl dX11_simulate_107 ?_
      refine mn_iadd hB dX11_simulate_110 ?_
      refine mh_iret hB ⟨Nat.le_of_ble_eq_true rfl, Nat.le_of_ble_eq_true rfl⟩ hS dX11_simulate_111 ⟨?_, shi, ?_⟩
      · unfold simV
        (repeat' split) <;> first | rfl | (exfalso; omega)
      · exact hR
    · skip
      refine lv_sipush (v := nI 999) hx hb dX11_simulate_100 (by decide +kernel) ?_
      refine lv_goto (tgt := 110) hx hb dX11_simulate_103 (by decide) ?_
      refine mn_iadd hB dX11_simulate_110 ?_
      refine mh_iret hB ⟨Nat.le_of_ble_eq_true rfl, Nat.le_of_ble_eq_true rfl⟩ hS dX11_simulate_111 ⟨?_, shi, ?_⟩
      · unfold simV
        (repeat' split) <;> first | rfl | (exfalso; omega)
      · exact hR
  · skip
    refine lv_lload hx hb dX11_simulate_47 (lv_at hl 3 rfl) ?_
    refine lv_ldc2 (v := (6364136223846793005)) hx hb hB.ow (hB.K.2 _ kw_1342 _) dX11_simulate_49 ?_
    refine lv_lmul hx hb dX11_simulate_52 ?_
    refine lv_ldc2 (v := (1442695040888963407)) hx hb hB.ow (hB.K.2 _ kw_1343 _) dX11_simulate_53 ?_
    refine lv_ladd hx hb dX11_simulate_56 ?_
    refine mh_top (y := .long (smX y (k8 + 1))) (rfl) ?_
    refine lv_lstore (lv' := [(4, .long (smX y (k8 + 1))), (0, .ref r), (1, .long y), (3, .int (nI n0)), (6, .int (nI (smA zq y k8))), (7, .int (nI k8))]) hx hb dX11_simulate_57 hl (by decide) rfl (fun ls hl => ?_)
    refine lv_iload hx hb dX11_simulate_59 (lv_at hl 4 rfl) ?_
    refine lv_aload_n hx hb dX11_simulate_61 rfl (lv_at hl 1 rfl) ?_
    refine lv_lload hx hb dX11_simulate_62 (lv_at hl 0 rfl) ?_
    refine lv_bipush (v := nI 33) hx hb dX11_simulate_64 (by decide) ?_
    refine lv_lushr (v := ((smX y (k8 + 1)).toUInt64 >>> ((nI 33).toInt64.toUInt64 &&& Int64.toUInt64 63)).toInt64) hx hb dX11_simulate_66 rfl ?_
    refine lv_l2i (v := (((smX y (k8 + 1)).toUInt64 >>> ((nI 33).toInt64.toUInt64 &&& Int64.toUInt64 63)).toInt64).toInt32) hx hb dX11_simulate_67 rfl ?_
    refine mh_top (y := .int (nI (smR y k8))) (by rw [sm_r]; rfl) ?_
    refine cl_X11_271 (As := [.int (nI (smR y k8))]) (rest := [.int (nI (smA zq y k8))]) hB (c_X11_evening l g H r (smQ zq y k8) zq zrm zst zsl zsv ztx zln (nI 0) zsg zbg zwd zhg zin zop zbe zwi zhi zbk zot zer zen zpo zpi zgr shi (smS zq y k8) (smR y k8) hR (smQ_WF hW k8) (smR_lt y k8)) hR.o rfl hl.1 (Nat.le_of_ble_eq_true rfl) dX11_simulate_68 ⟨Nat.le_of_ble_eq_true rfl, Nat.le_of_ble_eq_true rfl⟩ ⟨Nat.le_of_ble_eq_true rfl, Nat.le_of_ble_eq_true rfl⟩ hS (by have hz9 := hS.1; rintro q (h | h) <;> first | exact Or.inr (by omega) | exact h.elim | exact Or.inl h | (simp only [ftA] at h ⊢; omega)) (fun v H1 locs hpo hfr hS => ?_)
    obtain ⟨rfl, zsh2_1, hR⟩ := hpo
    generalize H1 = H at hfr hS hR ⊢
    refine W.widen (k := 0) (n := 0) (Nat.le_of_ble_eq_true rfl) (Nat.le_of_ble_eq_true rfl) ?_
    refine mn_iadd hB dX11_simulate_71 ?_
    refine lv_istore (lv' := [(6, .int (nI ((smA zq y k8) + (evA (smQ zq y k8) (smR y k8))))), (4, .long (smX y (k8 + 1))), (0, .ref r), (1, .long y), (3, .int (nI n0)), (7, .int (nI k8))]) hx hb dX11_simulate_72 hl (by decide) rfl (fun ls hl => ?_)
    refine lv_iinc (v := nI (k8 + 1)) (lv' := [(7, .int (nI (k8 + 1))), (6, .int (nI ((smA zq y k8) + (evA (smQ zq y k8) (smR y k8))))), (4, .long (smX y (k8 + 1))), (0, .ref r), (1, .long y), (3, .int (nI n0))]) hx hb dX11_simulate_74 hl (k := 5) rfl (nI_1 _) (by decide) rfl (fun ls hl => ?_)
    refine lv_goto (tgt := 41) hx hb dX11_simulate_77 (by decide) ?_
    refine ih41 (k8 + 1, zsh2_1) _ _ _ ⟨(by omega), hR, hS, lv_sub hl [3, 4, 5, 2, 1, 0] rfl⟩ (by dsimp only; omega)

def rm_c_X11_simulate_t1 : Room := { frames := 1, cells := 0, slots := 0, locals := 25 }
set_option maxRecDepth 100000 in
set_option maxHeartbeats 400000 in
theorem c_X11_simulate_t1 (l : Launch) (g : GG) (H0 : Heap) (r : Nat) (zq : Nat → Int32) (zsp : Nat → Int32) (zrm : Nat → Int32) (zst : Int32) (zsl : Nat → Int32) (zsv : Nat → Int32) (ztx : Nat → Int32) (zln : Int32) (zth : Int32) (zsg : Nat → Int32) (zbg : Nat → Int32) (zwd : Nat → Int32) (zhg : Nat → Int32) (zin : Nat → Int32) (zop : Int32) (zbe : Int32) (zwi : Int32) (zhi : Int32) (zbk : Nat → Int32) (zot : Nat → Int32) (zer : Int32) (zen : Int32) (zpo : Nat → Int32) (zpi : Int32) (zgr : Int32) (zsh : Nat → Int32) (zsn : Int32) (y : Int64) (x : Int32) (hR : ModAt g r zq zsp zrm zst zsl zsv ztx zln zth zsg zbg zwd zhg zin zop zbe zwi zhi zbk zot zer zen zpo zpi zgr zsh zsn H0) (hx1 : inL x.toInt64 1 99 = false) : Ct l yX11_simulate cX11_simulate 8 (some .int) rm_c_X11_simulate_t1 g [.ref r, .long y, .int x] H0 (ftA (fun q => r ≤ q ∧ q < r + 16) H0.size) (fun v H1 => v = some (.int (nI 0)) ∧ ModAt g r zq zsp zrm zst zsl zsv ztx zln (nI 1) zsg zbg zwd zhg zin zop zbe zwi zhi zbk zot zer zen zpo zpi zgr zsh zsn H1) := by
  refine Ct.of (by decide) (fun _ h => Or.inr h) (Nat.le_of_ble_eq_true rfl) ?_
  intro p e s m below meth c ls hB hin hS hH hl
  have hx := hB.x
  have hb := hB.b
  have hl : lv_has ls 8 [(0, .ref r), (1, .long y), (3, .int x)] := hl
  refine lv_aload_n hx hb dX11_simulate_0 rfl (lv_at hl 0 rfl) ?_
  refine lv_iconst (v := nI 0) hx hb dX11_simulate_1 (by decide) ?_
  refine pf_X11_56 hB hR.o (by first | exact Or.inl rfl | (simp only [ftA]; omega) | (simp [ftA]; omega)) hS rfl rfl (Nat.le_of_ble_eq_true rfl) dX11_simulate_2 (fun H locs hwr => ?_)
  obtain ⟨hR, hS⟩ := hR.w_zth hwr
  refine lv_iload_n hx hb dX11_simulate_5 rfl (lv_at hl 2 rfl) ?_
  refine lv_i2l (v := (x).toInt64) hx hb dX11_simulate_6 rfl ?_
  refine lv_lconst (v := 1) hx hb dX11_simulate_7 (by decide) ?_
  refine lv_ldc2 (v := (99)) hx hb hB.ow (hB.K.2 _ kw_1218 _) dX11_simulate_8 ?_
  refine cl_X11_63 (As := [.long ((x).toInt64), .long 1, .long (99)]) (rest := []) hB (c_X11_in l g H ((x).toInt64) 1 (99)) rfl hl.1 (Nat.le_of_ble_eq_true rfl) dX11_simulate_11 ⟨Nat.le_of_ble_eq_true rfl, Nat.le_of_ble_eq_true rfl⟩ ⟨Nat.le_of_ble_eq_true rfl, Nat.le_of_ble_eq_true rfl⟩ hS (by have hz9 := hS.1; rintro q (h | h) <;> first | exact Or.inr (by omega) | exact h.elim | exact Or.inl h | (simp only [ftA] at h ⊢; omega)) (fun v H1 locs hpo hfr hS => ?_)
  obtain ⟨rfl, rfl⟩ := hpo
  refine W.widen (k := 0) (n := 0) (Nat.le_of_ble_eq_true rfl) (Nat.le_of_ble_eq_true rfl) ?_
  refine mb_if_ne (tgt := 23) hB dX11_simulate_14 (by decide) (fun h => by rw [hx1] at h; cases h) (fun h_14 => ?_)
  refine lv_aload_n hx hb dX11_simulate_17 rfl (lv_at hl 0 rfl) ?_
  refine lv_iconst (v := nI 1) hx hb dX11_simulate_18 (by decide) ?_
  refine cl_X11_81 (As := [.int (nI 1)]) (rest := []) hB (c_X11_fails l g H r zq zsp zrm zst zsl zsv ztx zln (nI 0) zsg zbg zwd zhg zin zop zbe zwi zhi zbk zot zer zen zpo zpi zgr zsh zsn (nI 1) hR) hR.o rfl hl.1 (Nat.le_of_ble_eq_true rfl) dX11_simulate_19 ⟨Nat.le_of_ble_eq_true rfl, Nat.le_of_ble_eq_true rfl⟩ ⟨Nat.le_of_ble_eq_true rfl, Nat.le_of_ble_eq_true rfl⟩ hS (by have hz9 := hS.1; rintro q (h | h) <;> first | exact Or.inr (by omega) | exact h.elim | exact Or.inl h | (simp only [ftA] at h ⊢; omega)) (fun v H1 locs hpo hfr hS => ?_)
  obtain ⟨rfl, hR⟩ := hpo
  generalize H1 = H at hfr hS hR ⊢
  refine W.widen (k := 0) (n := 0) (Nat.le_of_ble_eq_true rfl) (Nat.le_of_ble_eq_true rfl) ?_
  refine mh_iret hB ⟨Nat.le_of_ble_eq_true rfl, Nat.le_of_ble_eq_true rfl⟩ hS dX11_simulate_22 ⟨?_, ?_⟩
  · rfl
  · exact hR
