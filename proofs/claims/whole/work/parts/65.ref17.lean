def rm_c_X11_reads : Room := { frames := 3, cells := 0, slots := 0, locals := 67 }
set_option maxRecDepth 100000 in
set_option maxHeartbeats 400000 in
theorem c_X11_reads (l : Launch) (g : GG) (H0 : Heap) (r : Nat) (zq : Nat → Int32) (zsp : Nat → Int32) (zrm : Nat → Int32) (zst : Int32) (zsl : Nat → Int32) (zsv : Nat → Int32) (ztx : Nat → Int32) (zth : Int32) (zsg : Nat → Int32) (zbg : Nat → Int32) (zwd : Nat → Int32) (zhg : Nat → Int32) (zin : Nat → Int32) (zop : Int32) (zbe : Int32) (zwi : Int32) (zhi : Int32) (zbk : Nat → Int32) (zot : Nat → Int32) (zer : Int32) (zen : Int32) (zpo : Nat → Int32) (zpi : Int32) (zgr : Int32) (zsh : Nat → Int32) (zsn : Int32) (tc : Nat → Nat) (len : Nat) (hR : ModAt g r zq zsp zrm zst zsl zsv ztx (nI len) zth zsg zbg zwd zhg zin zop zbe zwi zhi zbk zot zer zen zpo zpi zgr zsh zsn H0) (hlen : len ≤ 60) (htc : ∀ j, j < len → ztx j = nI (tc j) ∧ tc j < 256) : Ct l yX11_reads cX11_reads 4 (some .int) rm_c_X11_reads g [.ref r] H0 (ftA (fun q => r ≤ q ∧ q < r + 16) H0.size) (fun v H1 => v = some (.int (rdV (wholeS tc len))) ∧ ∃ (op2 : Int32), ∃ (be2 : Int32), ∃ (wi2 : Int32), ∃ (hi2 : Int32), ∃ (bk2 : Nat → Int32), ∃ (ot2 : Nat → Int32), ∃ (wd2 : Nat → Int32), ∃ (hg2 : Nat → Int32), ∃ (in2 : Nat → Int32), ∃ (er2 : Int32), ∃ (en2 : Int32), ∃ (sg2 : Nat → Int32), ∃ (bg2 : Nat → Int32), ModAt g r zq zsp zrm zst zsl zsv ztx (nI len) zth sg2 bg2 wd2 hg2 in2 op2 be2 wi2 hi2 bk2 ot2 er2 en2 zpo zpi zgr zsh zsn H1 ∧ (∀ b8, wholeS tc len = .inr b8 → wi2 = nI b8.1 ∧ hi2 = nI b8.2.1 ∧ (∀ k, k < b8.1 * b8.2.1 → bk2 k = nI (b8.2.2 k) ∧ b8.2.2 k < 6) ∧ b8.ok)) := by
  refine Ct.of (by decide) (fun _ h => Or.inr h) (Nat.le_of_ble_eq_true rfl) ?_
  intro p e s m below meth c ls hB hin hS hH hl
  have hx := hB.x
  have hb := hB.b
  have hl : lv_has ls 4 [(0, .ref r)] := hl
  refine lv_aload_n hx hb dX11_reads_0 rfl (lv_at hl 0 rfl) ?_
  refine lv_iconst (v := nI 0) hx hb dX11_reads_1 (by decide) ?_
  refine pf_X11_87 hB hR.o (by first | exact Or.inl rfl | (simp only [ftA]; omega) | (simp [ftA]; omega)) hS rfl rfl (Nat.le_of_ble_eq_true rfl) dX11_reads_2 (fun H locs hwr => ?_)
  obtain ⟨hR, hS⟩ := hR.w_zop hwr
  refine lv_aload_n hx hb dX11_reads_5 rfl (lv_at hl 0 rfl) ?_
  refine lv_iconst (v := (-1)) hx hb dX11_reads_6 (by decide) ?_
  refine pf_X11_104 hB hR.o (by first | exact Or.inl rfl | (simp only [ftA]; omega) | (simp [ftA]; omega)) hS rfl rfl (Nat.le_of_ble_eq_true rfl) dX11_reads_7 (fun H locs hwr => ?_)
  obtain ⟨hR, hS⟩ := hR.w_zer hwr
  refine lv_aload_n hx hb dX11_reads_10 rfl (lv_at hl 0 rfl) ?_
  refine lv_iconst (v := nI 0) hx hb dX11_reads_11 (by decide) ?_
  refine pf_X11_113 hB hR.o (by first | exact Or.inl rfl | (simp only [ftA]; omega) | (simp [ftA]; omega)) hS rfl rfl (Nat.le_of_ble_eq_true rfl) dX11_reads_12 (fun H locs hwr => ?_)
  obtain ⟨hR, hS⟩ := hR.w_zen hwr
  refine lv_iconst (v := nI 0) hx hb dX11_reads_15 (by decide) ?_
  refine lv_istore_n (lv' := [(1, .int (nI 0)), (0, .ref r)]) hx hb dX11_reads_16 rfl hl (by decide) rfl (fun ls hl => ?_)
  refine mh_loop (σ := List PIt × Nat × (Nat → Int32) × (Nat → Int32) × (Nat → Int32) × (Nat → Int32) × (Nat → Int32) × (Nat → Int32) × (Nat → Int32) × Int32 × Int32 × Int32) (fun xx9 H locs ls => match xx9 with | (Li, i9, sgi, bgi, wdi, hgi, ini, bki, oti, bei, wii, hii) => i9 ≤ len ∧ RelSt sgi bgi wdi hgi ini Li ∧ ItsOk Li ∧ Li.length ≤ i9 ∧ runS tc (len - i9) i9 Li = wholeS tc len ∧ ModAt g r zq zsp zrm zst zsl zsv ztx (nI len) zth sgi bgi wdi hgi ini (nI Li.length) bei wii hii bki oti (-1) (nI 0) zpo zpi zgr zsh zsn H ∧ va_S (ftA (fun q => r ≤ q ∧ q < r + 16) H0.size) H0 H locs ∧ lv_has ls 4 [(0, .ref r), (1, .int (nI i9))]) (fun xx9 => match xx9 with | (Li, i9, sgi, bgi, wdi, hgi, ini, bki, oti, bei, wii, hii) => len - i9) ?_ ([], 0, zsg, zbg, zwd, zhg, zin, zbk, zot, zbe, zwi, zhi) ⟨(by omega), (trivial), (trivial), (Nat.le_refl _), (rfl), hR, hS, lv_sub hl [1, 0] rfl⟩
  rintro ⟨Li, i9, sgi, bgi, wdi, hgi, ini, bki, oti, bei, wii, hii⟩ H locs ls ⟨hi9, hLi, hIi, hli, hRu, hR, hS, hl⟩ ih
  have ih17 := ih
  refine lv_aload_n hx hb dX11_reads_17 rfl (lv_at hl 0 rfl) ?_
  refine gf_X11_104 hB hR.o rfl dX11_reads_18 ?_
  refine lv_if_ge (tgt := 256) hx hb dX11_reads_21 (by decide) (fun h => absurd h (by decide)) (fun h_21 => ?_)
  refine lv_aload_n hx hb dX11_reads_24 rfl (lv_at hl 0 rfl) ?_
  refine gf_X11_113 hB hR.o rfl dX11_reads_25 ?_
  refine mn_if_ne (tgt := 256) hB dX11_reads_28 (by decide) (by omega) (fun h => by exfalso; omega) (fun h_28 => ?_)
  refine lv_iload_n hx hb dX11_reads_31 rfl (lv_at hl 1 rfl) ?_
  refine lv_aload_n hx hb dX11_reads_32 rfl (lv_at hl 0 rfl) ?_
  refine gf_X11_84 hB hR.o rfl dX11_reads_33 ?_
  refine mn_icmp_ge (tgt := 256) hB dX11_reads_36 (by decide) (by omega) (by omega) (fun h_36 => ?_) (fun h_36 => ?_)
  · skip
    have hin9 : i9 = len := by omega
    have hfin : wholeS tc len = .inl i9 := hRu.symm.trans (runS_end (by omega))
    refine lv_aload_n hx hb dX11_reads_256 rfl (lv_at hl 0 rfl) ?_
    refine gf_X11_104 hB hR.o rfl dX11_reads_257 ?_
    refine lv_if_ge (tgt := 283) hx hb dX11_reads_260 (by decide) (fun h => absurd h (by decide)) (fun h_260 => ?_)
    refine lv_aload_n hx hb dX11_reads_263 rfl (lv_at hl 0 rfl) ?_
    refine gf_X11_113 hB hR.o rfl dX11_reads_264 ?_
    refine mn_if_eq (tgt := 278) hB dX11_reads_267 (by decide) (by omega) (fun h_267 => ?_) (fun h => by exfalso; omega)
    refine lv_aload_n hx hb dX11_reads_278 rfl (lv_at hl 0 rfl) ?_
    refine lv_iload_n hx hb dX11_reads_279 rfl (lv_at hl 1 rfl) ?_
    refine pf_X11_104 hB hR.o (by first | exact Or.inl rfl | (simp only [ftA]; omega) | (simp [ftA]; omega)) hS rfl rfl (Nat.le_of_ble_eq_true rfl) dX11_reads_280 (fun H locs hwr => ?_)
    obtain ⟨hR, hS⟩ := hR.w_zer hwr
    refine lv_aload_n hx hb dX11_reads_283 rfl (lv_at hl 0 rfl) ?_
    refine gf_X11_104 hB hR.o rfl dX11_reads_284 ?_
    refine mh_iret hB ⟨Nat.le_of_ble_eq_true rfl, Nat.le_of_ble_eq_true rfl⟩ hS dX11_reads_287 ⟨?_, (nI Li.length), bei, wii, hii, bki, oti, wdi, hgi, ini, (nI i9), (nI 0), sgi, bgi, ?_, ?_⟩
    · rw [hfin]; rfl
    · exact hR
    · intro b8 hb8
      rw [hfin] at hb8
      cases hb8
  · skip
    refine lv_aload_n hx hb dX11_reads_39 rfl (lv_at hl 0 rfl) ?_
    refine gf_X11_26 hB hR.o rfl dX11_reads_40 ?_
    refine lv_iload_n hx hb dX11_reads_43 rfl (lv_at hl 1 rfl) ?_
    refine mn_iald hB hR.a_ztx (by omega) (by omega) dX11_reads_44 ?_
    refine mh_top (y := .int (nI (tc i9))) (by rw [(htc i9 (by omega)).1]) ?_
    have hc256 := (htc i9 (by omega)).2
    refine lv_istore_n (lv' := [(2, .int (nI (tc i9))), (0, .ref r), (1, .int (nI i9))]) hx hb dX11_reads_45 rfl hl (by decide) rfl (fun ls hl => ?_)
    refine lv_iload_n hx hb dX11_reads_46 rfl (lv_at hl 0 rfl) ?_
    refine lv_i2l (v := (nI (tc i9)).toInt64) hx hb dX11_reads_47 rfl ?_
    refine lv_ldc2 (v := (97)) hx hb hB.ow (hB.K.2 _ kw_1081 _) dX11_reads_48 ?_
    refine lv_ldc2 (v := (102)) hx hb hB.ow (hB.K.2 _ kw_1082 _) dX11_reads_51 ?_
    refine cl_X11_63 (As := [.long ((nI (tc i9)).toInt64), .long (97), .long (102)]) (rest := []) hB (c_X11_in l g H ((nI (tc i9)).toInt64) (97) (102)) rfl hl.1 (Nat.le_of_ble_eq_true rfl) dX11_reads_54 ⟨Nat.le_of_ble_eq_true rfl, Nat.le_of_ble_eq_true rfl⟩ ⟨Nat.le_of_ble_eq_true rfl, Nat.le_of_ble_eq_true rfl⟩ hS (by have hz9 := hS.1; rintro q (h | h) <;> first | exact Or.inr (by omega) | exact h.elim | exact Or.inl h | (simp only [ftA] at h ⊢; omega)) (fun v H1 locs hpo hfr hS => ?_)
    obtain ⟨rfl, rfl⟩ := hpo
    refine W.widen (k := 0) (n := 0) (Nat.le_of_ble_eq_true rfl) (Nat.le_of_ble_eq_true rfl) ?_
    refine mb_if_eq (tgt := 92) hB dX11_reads_57 (by decide) (fun h_57 => ?_) (fun h_57 => ?_)
    · skip
      have h57 : ¬ (97 ≤ tc i9 ∧ tc i9 ≤ 102) := by
        rw [inL_nI (by omega) 97 102 97 102 (by decide) (by decide)] at h_57
        have := of_decide_eq_false h_57
        omega
      refine lv_iload_n hx hb dX11_reads_92 rfl (lv_at hl 0 rfl) ?_
      refine lv_bipush (v := nI 40) hx hb dX11_reads_93 (by decide) ?_
      refine mn_icmp_eq (tgt := 130) hB dX11_reads_95 (by decide) (by omega) (by omega) (fun h_95 => ?_) (fun h_95 => ?_)
      · skip
        have hop : opnS (tc i9) = true := decide_eq_true (by omega)
        refine lv_aload_n hx hb dX11_reads_130 rfl (lv_at hl 1 rfl) ?_
        refine lv_iload_n hx hb dX11_reads_131 rfl (lv_at hl 0 rfl) ?_
        refine lv_iload_n hx hb dX11_reads_132 rfl (lv_at hl 2 rfl) ?_
        refine cl_X11_132 (As := [.int (nI (tc i9)), .int (nI i9)]) (rest := []) hB (c_X11_opens l g H r zq zsp zrm zst zsl zsv ztx (nI len) zth sgi bgi wdi hgi ini bei wii hii bki oti (-1) (nI 0) zpo zpi zgr zsh zsn Li.length (tc i9) i9 hR (by omega)) hR.o rfl hl.1 (Nat.le_of_ble_eq_true rfl) dX11_reads_133 ⟨Nat.le_of_ble_eq_true rfl, Nat.le_of_ble_eq_true rfl⟩ ⟨Nat.le_of_ble_eq_true rfl, Nat.le_of_ble_eq_true rfl⟩ hS (by have hz9 := hS.1; rintro q (h | h) <;> first | exact Or.inr (by omega) | exact h.elim | exact Or.inl h | (simp only [ftA] at h ⊢; omega)) (fun v H1 locs hpo hfr hS => ?_)
        obtain ⟨rfl, hR⟩ := hpo
        generalize H1 = H at hfr hS hR ⊢
        refine W.widen (k := 0) (n := 0) (Nat.le_of_ble_eq_true rfl) (Nat.le_of_ble_eq_true rfl) ?_
        have hLn := hLi.push hc256 (show i9 < 60 by omega)
        have hIn : ItsOk ((tc i9, i9, 0, 0, fun _ => 0) :: Li) := ⟨opn_it hop (by omega), hIi⟩
        have hln : ((tc i9, i9, 0, 0, fun _ => 0) :: Li : List PIt).length ≤ i9 + 1 := Nat.succ_le_succ hli
        have hnx : runS tc (len - (i9 + 1)) (i9 + 1) ((tc i9, i9, 0, 0, fun _ => 0) :: Li) = wholeS tc len := (runS_go (by omega) (stepS_opn h57 hop)).symm.trans hRu
        refine lv_goto (tgt := 250) hx hb dX11_reads_136 (by decide) ?_
        refine lv_iinc (v := nI (i9 + 1)) (lv' := [(1, .int (nI (i9 + 1))), (2, .int (nI (tc i9))), (0, .ref r)]) hx hb dX11_reads_250 hl (k := 2) rfl (nI_1 _) (by decide) rfl (fun ls hl => ?_)
        refine lv_goto (tgt := 17) hx hb dX11_reads_253 (by decide) ?_
        refine ih17 (((tc i9, i9, 0, 0, fun _ => 0) :: Li), i9 + 1, (upd sgi Li.length (nI (tc i9))), (upd bgi Li.length (nI i9)), (upd wdi Li.length (nI 0)), (upd hgi Li.length (nI 0)), ini, bki, oti, bei, wii, hii) _ _ _ ⟨(by omega), (hLn), (hIn), (hln), (hnx), hR, hS, lv_sub hl [2, 0] rfl⟩ (by dsimp only; omega)
      · skip
        refine lv_iload_n hx hb dX11_reads_98 rfl (lv_at hl 0 rfl) ?_
        refine lv_bipush (v := nI 91) hx hb dX11_reads_99 (by decide) ?_
        refine mn_icmp_eq (tgt := 130) hB dX11_reads_101 (by decide) (by omega) (by omega) (fun h_101 => ?_) (fun h_101 => ?_)
        · skip
          have hop : opnS (tc i9) = true := decide_eq_true (by omega)
          refine lv_aload_n hx hb dX11_reads_130 rfl (lv_at hl 1 rfl) ?_
          refine lv_iload_n hx hb dX11_reads_131 rfl (lv_at hl 0 rfl) ?_
          refine lv_iload_n hx hb dX11_reads_132 rfl (lv_at hl 2 rfl) ?_
          refine cl_X11_132 (As := [.int (nI (tc i9)), .int (nI i9)]) (rest := []) hB (c_X11_opens l g H r zq zsp zrm zst zsl zsv ztx (nI len) zth sgi bgi wdi hgi ini bei wii hii bki oti (-1) (nI 0) zpo zpi zgr zsh zsn Li.length (tc i9) i9 hR (by omega)) hR.o rfl hl.1 (Nat.le_of_ble_eq_true rfl) dX11_reads_133 ⟨Nat.le_of_ble_eq_true rfl, Nat.le_of_ble_eq_true rfl⟩ ⟨Nat.le_of_ble_eq_true rfl, Nat.le_of_ble_eq_true rfl⟩ hS (by have hz9 := hS.1; rintro q (h | h) <;> first | exact Or.inr (by omega) | exact h.elim | exact Or.inl h | (simp only [ftA] at h ⊢; omega)) (fun v H1 locs hpo hfr hS => ?_)
          obtain ⟨rfl, hR⟩ := hpo
          generalize H1 = H at hfr hS hR ⊢
          refine W.widen (k := 0) (n := 0) (Nat.le_of_ble_eq_true rfl) (Nat.le_of_ble_eq_true rfl) ?_
          have hLn := hLi.push hc256 (show i9 < 60 by omega)
          have hIn : ItsOk ((tc i9, i9, 0, 0, fun _ => 0) :: Li) := ⟨opn_it hop (by omega), hIi⟩
          have hln : ((tc i9, i9, 0, 0, fun _ => 0) :: Li : List PIt).length ≤ i9 + 1 := Nat.succ_le_succ hli
          have hnx : runS tc (len - (i9 + 1)) (i9 + 1) ((tc i9, i9, 0, 0, fun _ => 0) :: Li) = wholeS tc len := (runS_go (by omega) (stepS_opn h57 hop)).symm.trans hRu
          refine lv_goto (tgt := 250) hx hb dX11_reads_136 (by decide) ?_
          refine lv_iinc (v := nI (i9 + 1)) (lv' := [(1, .int (nI (i9 + 1))), (2, .int (nI (tc i9))), (0, .ref r)]) hx hb dX11_reads_250 hl (k := 2) rfl (nI_1 _) (by decide) rfl (fun ls hl => ?_)
          refine lv_goto (tgt := 17) hx hb dX11_reads_253 (by decide) ?_
          refine ih17 (((tc i9, i9, 0, 0, fun _ => 0) :: Li), i9 + 1, (upd sgi Li.length (nI (tc i9))), (upd bgi Li.length (nI i9)), (upd wdi Li.length (nI 0)), (upd hgi Li.length (nI 0)), ini, bki, oti, bei, wii, hii) _ _ _ ⟨(by omega), (hLn), (hIn), (hln), (hnx), hR, hS, lv_sub hl [2, 0] rfl⟩ (by dsimp only; omega)
        · skip
          refine lv_iload_n hx hb dX11_reads_104 rfl (lv_at hl 0 rfl) ?_
          refine lv_bipush (v := nI 60) hx hb dX11_reads_105 (by decide) ?_
          refine mn_icmp_eq (tgt := 130) hB dX11_reads_107 (by decide) (by omega) (by omega) (fun h_107 => ?_) (fun h_107 => ?_)
          · skip
            have hop : opnS (tc i9) = true := decide_eq_true (by omega)
            refine lv_aload_n hx hb dX11_reads_130 rfl (lv_at hl 1 rfl) ?_
            refine lv_iload_n hx hb dX11_reads_131 rfl (lv_at hl 0 rfl) ?_
            refine lv_iload_n hx hb dX11_reads_132 rfl (lv_at hl 2 rfl) ?_
            refine cl_X11_132 (As := [.int (nI (tc i9)), .int (nI i9)]) (rest := []) hB (c_X11_opens l g H r zq zsp zrm zst zsl zsv ztx (nI len) zth sgi bgi wdi hgi ini bei wii hii bki oti (-1) (nI 0) zpo zpi zgr zsh zsn Li.length (tc i9) i9 hR (by omega)) hR.o rfl hl.1 (Nat.le_of_ble_eq_true rfl) dX11_reads_133 ⟨Nat.le_of_ble_eq_true rfl, Nat.le_of_ble_eq_true rfl⟩ ⟨Nat.le_of_ble_eq_true rfl, Nat.le_of_ble_eq_true rfl⟩ hS (by have hz9 := hS.1; rintro q (h | h) <;> first | exact Or.inr (by omega) | exact h.elim | exact Or.inl h | (simp only [ftA] at h ⊢; omega)) (fun v H1 locs hpo hfr hS => ?_)
            obtain ⟨rfl, hR⟩ := hpo
            generalize H1 = H at hfr hS hR ⊢
            refine W.widen (k := 0) (n := 0) (Nat.le_of_ble_eq_true rfl) (Nat.le_of_ble_eq_true rfl) ?_
            have hLn := hLi.push hc256 (show i9 < 60 by omega)
            have hIn : ItsOk ((tc i9, i9, 0, 0, fun _ => 0) :: Li) := ⟨opn_it hop (by omega), hIi⟩
            have hln : ((tc i9, i9, 0, 0, fun _ => 0) :: Li : List PIt).length ≤ i9 + 1 := Nat.succ_le_succ hli
            have hnx : runS tc (len - (i9 + 1)) (i9 + 1) ((tc i9, i9, 0, 0, fun _ => 0) :: Li) = wholeS tc len := (runS_go (by omega) (stepS_opn h57 hop)).symm.trans hRu
            refine lv_goto (tgt := 250) hx hb dX11_reads_136 (by decide) ?_
            refine lv_iinc (v := nI (i9 + 1)) (lv' := [(1, .int (nI (i9 + 1))), (2, .int (nI (tc i9))), (0, .ref r)]) hx hb dX11_reads_250 hl (k := 2) rfl (nI_1 _) (by decide) rfl (fun ls hl => ?_)
            refine lv_goto (tgt := 17) hx hb dX11_reads_253 (by decide) ?_
            refine ih17 (((tc i9, i9, 0, 0, fun _ => 0) :: Li), i9 + 1, (upd sgi Li.length (nI (tc i9))), (upd bgi Li.length (nI i9)), (upd wdi Li.length (nI 0)), (upd hgi Li.length (nI 0)), ini, bki, oti, bei, wii, hii) _ _ _ ⟨(by omega), (hLn), (hIn), (hln), (hnx), hR, hS, lv_sub hl [2, 0] rfl⟩ (by dsimp only; omega)
          · skip
            refine lv_iload_n hx hb dX11_reads_110 rfl (lv_at hl 0 rfl) ?_
            refine lv_bipush (v := nI 94) hx hb dX11_reads_111 (by decide) ?_
            refine mn_icmp_eq (tgt := 130) hB dX11_reads_113 (by decide) (by omega) (by omega) (fun h_113 => ?_) (fun h_113 => ?_)
            · skip
              have hop : opnS (tc i9) = true := decide_eq_true (by omega)
              refine lv_aload_n hx hb dX11_reads_130 rfl (lv_at hl 1 rfl) ?_
              refine lv_iload_n hx hb dX11_reads_131 rfl (lv_at hl 0 rfl) ?_
              refine lv_iload_n hx hb dX11_reads_132 rfl (lv_at hl 2 rfl) ?_
              refine cl_X11_132 (As := [.int (nI (tc i9)), .int (nI i9)]) (rest := []) hB (c_X11_opens l g H r zq zsp zrm zst zsl zsv ztx (nI len) zth sgi bgi wdi hgi ini bei wii hii bki oti (-1) (nI 0) zpo zpi zgr zsh zsn Li.length (tc i9) i9 hR (by omega)) hR.o rfl hl.1 (Nat.le_of_ble_eq_true rfl) dX11_reads_133 ⟨Nat.le_of_ble_eq_true rfl, Nat.le_of_ble_eq_true rfl⟩ ⟨Nat.le_of_ble_eq_true rfl, Nat.le_of_ble_eq_true rfl⟩ hS (by have hz9 := hS.1; rintro q (h | h) <;> first | exact Or.inr (by omega) | exact h.elim | exact Or.inl h | (simp only [ftA] at h ⊢; omega)) (fun v H1 locs hpo hfr hS => ?_)
              obtain ⟨rfl, hR⟩ := hpo
              generalize H1 = H at hfr hS hR ⊢
              refine W.widen (k := 0) (n := 0) (Nat.le_of_ble_eq_true rfl) (Nat.le_of_ble_eq_true rfl) ?_
              have hLn := hLi.push hc256 (show i9 < 60 by omega)
              have hIn : ItsOk ((tc i9, i9, 0, 0, fun _ => 0) :: Li) := ⟨opn_it hop (by omega), hIi⟩
              have hln : ((tc i9, i9, 0, 0, fun _ => 0) :: Li : List PIt).length ≤ i9 + 1 := Nat.succ_le_succ hli
              have hnx : runS tc (len - (i9 + 1)) (i9 + 1) ((tc i9, i9, 0, 0, fun _ => 0) :: Li) = wholeS tc len := (runS_go (by omega) (stepS_opn h57 hop)).symm.trans hRu
              refine lv_goto (tgt := 250) hx hb dX11_reads_136 (by decide) ?_
              refine lv_iinc (v := nI (i9 + 1)) (lv' := [(1, .int (nI (i9 + 1))), (2, .int (nI (tc i9))), (0, .ref r)]) hx hb dX11_reads_250 hl (k := 2) rfl (nI_1 _) (by decide) rfl (fun ls hl => ?_)
              refine lv_goto (tgt := 17) hx hb dX11_reads_253 (by decide) ?_
              refine ih17 (((tc i9, i9, 0, 0, fun _ => 0) :: Li), i9 + 1, (upd sgi Li.length (nI (tc i9))), (upd bgi Li.length (nI i9)), (upd wdi Li.length (nI 0)), (upd hgi Li.length (nI 0)), ini, bki, oti, bei, wii, hii) _ _ _ ⟨(by omega), (hLn), (hIn), (hln), (hnx), hR, hS, lv_sub hl [2, 0] rfl⟩ (by dsimp only; omega)
            · skip
              refine lv_iload_n hx hb dX11_reads_116 rfl (lv_at hl 0 rfl) ?_
              refine lv_i2l (v := (nI (tc i9)).toInt64) hx hb dX11_reads_117 rfl ?_
              refine lv_ldc2 (v := (50)) hx hb hB.ow (hB.K.2 _ kw_1102 _) dX11_reads_118 ?_
              refine lv_ldc2 (v := (57)) hx hb hB.ow (hB.K.2 _ kw_1103 _) dX11_reads_121 ?_
              refine cl_X11_63 (As := [.long ((nI (tc i9)).toInt64), .long (50), .long (57)]) (rest := []) hB (c_X11_in l g H ((nI (tc i9)).toInt64) (50) (57)) rfl hl.1 (Nat.le_of_ble_eq_true rfl) dX11_reads_124 ⟨Nat.le_of_ble_eq_true rfl, Nat.le_of_ble_eq_true rfl⟩ ⟨Nat.le_of_ble_eq_true rfl, Nat.le_of_ble_eq_true rfl⟩ hS (by have hz9 := hS.1; rintro q (h | h) <;> first | exact Or.inr (by omega) | exact h.elim | exact Or.inl h | (simp only [ftA] at h ⊢; omega)) (fun v H1 locs hpo hfr hS => ?_)
              obtain ⟨rfl, rfl⟩ := hpo
              refine W.widen (k := 0) (n := 0) (Nat.le_of_ble_eq_true rfl) (Nat.le_of_ble_eq_true rfl) ?_
              refine mb_if_eq (tgt := 139) hB dX11_reads_127 (by decide) (fun h_127 => ?_) (fun h_127 => ?_)
              · skip
                have h50 : ¬ (50 ≤ tc i9 ∧ tc i9 ≤ 57) := by
                  rw [inL_nI (by omega) 50 57 50 57 (by decide) (by decide)] at h_127
                  have := of_decide_eq_false h_127
                  omega
                have hop9 : opnS (tc i9) = false := decide_eq_false (by omega)
                rcases Li with _ | ⟨⟨s1, p1, w1, h1, c1⟩, rest⟩
                · skip
                  have hR : ModAt g r zq zsp zrm zst zsl zsv ztx (nI len) zth sgi bgi wdi hgi ini (nI 0) bei wii hii bki oti (-1) (nI 0) zpo zpi zgr zsh zsn H := hR
                  refine lv_aload_n hx hb dX11_reads_139 rfl (lv_at hl 1 rfl) ?_
                  refine lv_iload_n hx hb dX11_reads_140 rfl (lv_at hl 0 rfl) ?_
                  refine cl_X11_135 (As := [.int (nI (tc i9))]) (rest := []) hB (c_X11_closes l g H r zq zsp zrm zst zsl zsv ztx (nI len) zth sgi bgi wdi hgi ini bei wii hii bki oti (-1) (nI 0) zpo zpi zgr zsh zsn 0 (tc i9) 0 0 hR (by omega) (hc256) (fun y => absurd y (by decide)) (by omega) (by omega)) hR.o rfl hl.1 (Nat.le_of_ble_eq_true rfl) dX11_reads_141 ⟨Nat.le_of_ble_eq_true rfl, Nat.le_of_ble_eq_true rfl⟩ ⟨Nat.le_of_ble_eq_true rfl, Nat.le_of_ble_eq_true rfl⟩ hS (by have hz9 := hS.1; rintro q (h | h) <;> first | exact Or.inr (by omega) | exact h.elim | exact Or.inl h | (simp only [ftA] at h ⊢; omega)) (fun v H1 locs hpo hfr hS => ?_)
                  obtain ⟨rfl, rfl⟩ := hpo
                  refine W.widen (k := 0) (n := 0) (Nat.le_of_ble_eq_true rfl) (Nat.le_of_ble_eq_true rfl) ?_
                  refine mh_top (y := .int (bI false)) (rfl) ?_
                  refine mb_if_eq (tgt := 245) hB dX11_reads_144 (by decide) (fun h_144 => ?_) (fun h => by cases h)
                  have hfin : wholeS tc len = .inl i9 := hRu.symm.trans (runS_err (by omega) (stepS_nil h57 hop9))
                  refine lv_aload_n hx hb dX11_reads_245 rfl (lv_at hl 1 rfl) ?_
                  refine lv_iload_n hx hb dX11_reads_246 rfl (lv_at hl 2 rfl) ?_
                  refine pf_X11_104 hB hR.o (by first | exact Or.inl rfl | (simp only [ftA]; omega) | (simp [ftA]; omega)) hS rfl rfl (Nat.le_of_ble_eq_true rfl) dX11_reads_247 (fun H locs hwr => ?_)
                  obtain ⟨hR, hS⟩ := hR.w_zer hwr
                  refine lv_iinc (v := nI (i9 + 1)) (lv' := [(1, .int (nI (i9 + 1))), (2, .int (nI (tc i9))), (0, .ref r)]) hx hb dX11_reads_250 hl (k := 2) rfl (nI_1 _) (by decide) rfl (fun ls hl => ?_)
                  refine lv_goto (tgt := 17) hx hb dX11_reads_253 (by decide) ?_
                  refine lv_aload_n hx hb dX11_reads_17 rfl (lv_at hl 2 rfl) ?_
                  refine gf_X11_104 hB hR.o rfl dX11_reads_18 ?_
                  refine mn_if_ge (tgt := 256) hB dX11_reads_21 (by decide) (by omega) (fun h_21 => ?_) (fun h => by exfalso; omega)
                  refine lv_aload_n hx hb dX11_reads_256 rfl (lv_at hl 2 rfl) ?_
                  refine gf_X11_104 hB hR.o rfl dX11_reads_257 ?_
                  refine mn_if_ge (tgt := 283) hB dX11_reads_260 (by decide) (by omega) (fun h_260 => ?_) (fun h => by exfalso; omega)
                  refine lv_aload_n hx hb dX11_reads_283 rfl (lv_at hl 2 rfl) ?_
                  refine gf_X11_104 hB hR.o rfl dX11_reads_284 ?_
                  refine mh_iret hB ⟨Nat.le_of_ble_eq_true rfl, Nat.le_of_ble_eq_true rfl⟩ hS dX11_reads_287 ⟨?_, (nI 0), bei, wii, hii, bki, oti, wdi, hgi, ini, (nI i9), (nI 0), sgi, bgi, ?_, ?_⟩
                  · rw [hfin]; rfl
                  · exact hR
                  · intro b8 hb8
                    rw [hfin] at hb8
                    cases hb8
                · skip
                  have hR : ModAt g r zq zsp zrm zst zsl zsv ztx (nI len) zth sgi bgi wdi hgi ini (nI (rest.length + 1)) bei wii hii bki oti (-1) (nI 0) zpo zpi zgr zsh zsn H := hR
                  obtain ⟨⟨a1, a2, a3, a4, a5, a6, a7, a8, a9⟩, hLr⟩ := hLi
                  dsimp only at a1 a2 a3 a4 a5 a6 a7 a8 a9
                  have hIt := hIi.1
                  have hrl : rest.length + 1 ≤ i9 := hli
                  have hz9 := sz256 a7 a8
                  refine lv_aload_n hx hb dX11_reads_139 rfl (lv_at hl 1 rfl) ?_
                  refine lv_iload_n hx hb dX11_reads_140 rfl (lv_at hl 0 rfl) ?_
                  refine cl_X11_135 (As := [.int (nI (tc i9))]) (rest := []) hB (c_X11_closes l g H r zq zsp zrm zst zsl zsv ztx (nI len) zth sgi bgi wdi hgi ini bei wii hii bki oti (-1) (nI 0) zpo zpi zgr zsh zsn (rest.length + 1) (tc i9) w1 s1 hR (by omega) (hc256) (fun _ => by rw [Nat.add_sub_cancel]; exact ⟨a3, a1⟩) (a7) (a5)) hR.o rfl hl.1 (Nat.le_of_ble_eq_true rfl) dX11_reads_141 ⟨Nat.le_of_ble_eq_true rfl, Nat.le_of_ble_eq_true rfl⟩ ⟨Nat.le_of_ble_eq_true rfl, Nat.le_of_ble_eq_true rfl⟩ hS (by have hz9 := hS.1; rintro q (h | h) <;> first | exact Or.inr (by omega) | exact h.elim | exact Or.inl h | (simp only [ftA] at h ⊢; omega)) (fun v H1 locs hpo hfr hS => ?_)
                  obtain ⟨rfl, rfl⟩ := hpo
                  refine W.widen (k := 0) (n := 0) (Nat.le_of_ble_eq_true rfl) (Nat.le_of_ble_eq_true rfl) ?_
                  refine mb_if_eq (tgt := 245) hB dX11_reads_144 (by decide) (fun h_144 => ?_) (fun h_144 => ?_)
                  · skip
                    have hcl : clsS (tc i9) (s1, p1, w1, h1, c1) = false := decide_eq_false (fun y => absurd ⟨Nat.succ_pos _, y⟩ (of_decide_eq_false h_144))
                    have hfin : wholeS tc len = .inl i9 := hRu.symm.trans (runS_err (by omega) (stepS_non h57 hop9 hcl))
                    refine lv_aload_n hx hb dX11_reads_245 rfl (lv_at hl 1 rfl) ?_
                    refine lv_iload_n hx hb dX11_reads_246 rfl (lv_at hl 2 rfl) ?_
                    refine pf_X11_104 hB hR.o (by first | exact Or.inl rfl | (simp only [ftA]; omega) | (simp [ftA]; omega)) hS rfl rfl (Nat.le_of_ble_eq_true rfl) dX11_reads_247 (fun H locs hwr => ?_)
                    obtain ⟨hR, hS⟩ := hR.w_zer hwr
                    refine lv_iinc (v := nI (i9 + 1)) (lv' := [(1, .int (nI (i9 + 1))), (2, .int (nI (tc i9))), (0, .ref r)]) hx hb dX11_reads_250 hl (k := 2) rfl (nI_1 _) (by decide) rfl (fun ls hl => ?_)
                    refine lv_goto (tgt := 17) hx hb dX11_reads_253 (by decide) ?_
                    refine lv_aload_n hx hb dX11_reads_17 rfl (lv_at hl 2 rfl) ?_
                    refine gf_X11_104 hB hR.o rfl dX11_reads_18 ?_
                    refine mn_if_ge (tgt := 256) hB dX11_reads_21 (by decide) (by omega) (fun h_21 => ?_) (fun h => by exfalso; omega)
                    refine lv_aload_n hx hb dX11_reads_256 rfl (lv_at hl 2 rfl) ?_
                    refine gf_X11_104 hB hR.o rfl dX11_reads_257 ?_
                    refine mn_if_ge (tgt := 283) hB dX11_reads_260 (by decide) (by omega) (fun h_260 => ?_) (fun h => by exfalso; omega)
                    refine lv_aload_n hx hb dX11_reads_283 rfl (lv_at hl 2 rfl) ?_
                    refine gf_X11_104 hB hR.o rfl dX11_reads_284 ?_
                    refine mh_iret hB ⟨Nat.le_of_ble_eq_true rfl, Nat.le_of_ble_eq_true rfl⟩ hS dX11_reads_287 ⟨?_, (nI (rest.length + 1)), bei, wii, hii, bki, oti, wdi, hgi, ini, (nI i9), (nI 0), sgi, bgi, ?_, ?_⟩
                    · rw [hfin]; rfl
                    · exact hR
                    · intro b8 hb8
                      rw [hfin] at hb8
                      cases hb8
                  · skip
                    have hcl : clsS (tc i9) (s1, p1, w1, h1, c1) = true := decide_eq_true (of_decide_eq_true h_144).2
                    have hst : stepS (tc i9) i9 ((s1, p1, w1, h1, c1) :: rest) = endS rest (w1, h1, c1) p1 := stepS_cls h57 hop9 hcl
                    have hcl0 := (of_decide_eq_true hcl).1
                    dsimp only at hcl0
                    have hok0 : PBl.ok (w1, h1, c1) := ⟨hcl0, a7, hIt.2.2.2.2.2.1 hcl0, a8, fun k hk => (a9 k hk).2⟩
                    refine lv_aload_n hx hb dX11_reads_147 rfl (lv_at hl 1 rfl) ?_
                    refine lv_dup hx hb dX11_reads_148 rfl ?_
                    refine gf_X11_87 hB hR.o rfl dX11_reads_149 ?_
                    refine lv_iconst (v := nI 1) hx hb dX11_reads_152 (by decide) ?_
                    refine mn_isub hB dX11_reads_153 (by omega) ?_
                    refine mh_top (y := .int (nI rest.length)) (by rw [Nat.add_sub_cancel]) ?_
                    refine pf_X11_87 hB hR.o (by first | exact Or.inl rfl | (simp only [ftA]; omega) | (simp [ftA]; omega)) hS rfl rfl (Nat.le_of_ble_eq_true rfl) dX11_reads_154 (fun H locs hwr => ?_)
                    obtain ⟨hR, hS⟩ := hR.w_zop hwr
                    refine lv_aload_n hx hb dX11_reads_157 rfl (lv_at hl 1 rfl) ?_
                    refine lv_aload_n hx hb dX11_reads_158 rfl (lv_at hl 1 rfl) ?_
                    refine gf_X11_32 hB hR.o rfl dX11_reads_159 ?_
                    refine lv_aload_n hx hb dX11_reads_162 rfl (lv_at hl 1 rfl) ?_
                    refine gf_X11_87 hB hR.o rfl dX11_reads_163 ?_
                    refine mn_iald hB hR.a_zbg (by omega) (by omega) dX11_reads_166 ?_
                    refine mh_top (y := .int (nI p1)) (by rw [a2]) ?_
                    refine pf_X11_107 hB hR.o (by first | exact Or.inl rfl | (simp only [ftA]; omega) | (simp [ftA]; omega)) hS rfl rfl (Nat.le_of_ble_eq_true rfl) dX11_reads_167 (fun H locs hwr => ?_)
                    obtain ⟨hR, hS⟩ := hR.w_zbe hwr
                    refine lv_aload_n hx hb dX11_reads_170 rfl (lv_at hl 1 rfl) ?_
                    refine lv_aload_n hx hb dX11_reads_171 rfl (lv_at hl 1 rfl) ?_
                    refine gf_X11_35 hB hR.o rfl dX11_reads_172 ?_
                    refine lv_aload_n hx hb dX11_reads_175 rfl (lv_at hl 1 rfl) ?_
                    refine gf_X11_87 hB hR.o rfl dX11_reads_176 ?_
                    refine mn_iald hB hR.a_zwd (by omega) (by omega) dX11_reads_179 ?_
                    refine mh_top (y := .int (nI w1)) (by rw [a3]) ?_
                    refine pf_X11_90 hB hR.o (by first | exact Or.inl rfl | (simp only [ftA]; omega) | (simp [ftA]; omega)) hS rfl rfl (Nat.le_of_ble_eq_true rfl) dX11_reads_180 (fun H locs hwr => ?_)
                    obtain ⟨hR, hS⟩ := hR.w_zwi hwr
                    refine lv_aload_n hx hb dX11_reads_183 rfl (lv_at hl 1 rfl) ?_
                    refine lv_aload_n hx hb dX11_reads_184 rfl (lv_at hl 1 rfl) ?_
                    refine gf_X11_38 hB hR.o rfl dX11_reads_185 ?_
                    refine lv_aload_n hx hb dX11_reads_188 rfl (lv_at hl 1 rfl) ?_
                    refine gf_X11_87 hB hR.o rfl dX11_reads_189 ?_
                    refine mn_iald hB hR.a_zhg (by omega) (by omega) dX11_reads_192 ?_
                    refine mh_top (y := .int (nI h1)) (by rw [a4]) ?_
                    refine pf_X11_93 hB hR.o (by first | exact Or.inl rfl | (simp only [ftA]; omega) | (simp [ftA]; omega)) hS rfl rfl (Nat.le_of_ble_eq_true rfl) dX11_reads_193 (fun H locs hwr => ?_)
                    obtain ⟨hR, hS⟩ := hR.w_zhi hwr
                    refine lv_iconst (v := nI 0) hx hb dX11_reads_196 (by decide) ?_
                    refine lv_istore_n (lv' := [(3, .int (nI 0)), (2, .int (nI (tc i9))), (0, .ref r), (1, .int (nI i9))]) hx hb dX11_reads_197 rfl hl (by decide) rfl (fun ls hl => ?_)
                    refine mh_loop (σ := Nat) (fun xx9 H locs ls => match xx9 with | k9 => k9 ≤ w1 * h1 ∧ ModAt g r zq zsp zrm zst zsl zsv ztx (nI len) zth sgi bgi wdi hgi ini (nI rest.length) (nI p1) (nI w1) (nI h1) (lowOf (fun j9 => ini (256 * rest.length + j9)) bki k9) oti (-1) (nI 0) zpo zpi zgr zsh zsn H ∧ va_S (ftA (fun q => r ≤ q ∧ q < r + 16) H0.size) H0 H locs ∧ lv_has ls 4 [(0, .ref r), (1, .int (nI i9)), (3, .int (nI k9))]) (fun xx9 => match xx9 with | k9 => w1 * h1 - k9) ?_ 0 ⟨(by omega), (by rw [lowOf_0]; exact hR), hS, lv_sub hl [2, 3, 0] rfl⟩
                    rintro k9 H locs ls ⟨hk9, hR, hS, hl⟩ ih
                    have ih198 := ih
                    refine lv_iload_n hx hb dX11_reads_198 rfl (lv_at hl 2 rfl) ?_
                    refine lv_aload_n hx hb dX11_reads_199 rfl (lv_at hl 0 rfl) ?_
                    refine gf_X11_90 hB hR.o rfl dX11_reads_200 ?_
                    refine lv_aload_n hx hb dX11_reads_203 rfl (lv_at hl 0 rfl) ?_
                    refine gf_X11_93 hB hR.o rfl dX11_reads_204 ?_
                    refine mn_imul hB dX11_reads_207 ?_
                    refine mn_icmp_ge (tgt := 238) hB dX11_reads_208 (by decide) (by omega) (by omega) (fun h_208 => ?_) (fun h_208 => ?_)
                    · skip
                      have hin9 : k9 = w1 * h1 := by omega
                      subst hin9
                      refine lv_aload_n hx hb dX11_reads_238 rfl (lv_at hl 0 rfl) ?_
                      refine cl_X11_125 (As := []) (rest := []) hB (c_X11_ends l g H r zq zsp zrm zst zsl zsv ztx (nI len) zth sgi bgi wdi hgi ini (lowOf (fun j9 => ini (256 * rest.length + j9)) bki (w1 * h1)) oti zpo zpi zgr zsh zsn rest p1 w1 h1 c1 hR (hLr) (hIi.2) (by omega) (hok0) (fun k hk => by rw [lowOf_all _ _ hk]; exact a9 k hk) (a6)) hR.o rfl hl.1 (Nat.le_of_ble_eq_true rfl) dX11_reads_239 ⟨Nat.le_of_ble_eq_true rfl, Nat.le_of_ble_eq_true rfl⟩ ⟨Nat.le_of_ble_eq_true rfl, Nat.le_of_ble_eq_true rfl⟩ hS (by have hz9 := hS.1; rintro q (h | h) <;> first | exact Or.inr (by omega) | exact h.elim | exact Or.inl h | (simp only [ftA] at h ⊢; omega)) (fun v H1 locs hpo hfr hS => ?_)
                      obtain ⟨rfl, op2_1, be2_2, wi2_3, hi2_4, bk2_5, ot2_6, wd2_7, hg2_8, in2_9, er2_10, en2_11, hR, hEn⟩ := hpo
                      generalize H1 = H at hfr hS hR hEn ⊢
                      refine W.widen (k := 0) (n := 0) (Nat.le_of_ble_eq_true rfl) (Nat.le_of_ble_eq_true rfl) ?_
                      rcases hq9 : endS rest (w1, h1, c1) p1 with e9 | b9 | L9
                      · skip
                        have hok9 := endS_ok rest (w1, h1, c1) p1 hIi.2 hok0 (by omega)
                        rw [hq9] at hEn hok9
                        have h91 : er2_10 = nI e9 := hEn
                        have hok8 : e9 < 60 := hok9
                        subst h91
                        have hfin : wholeS tc len = .inl e9 := hRu.symm.trans (runS_err (by omega) (hst.trans hq9))
                        refine lv_goto (tgt := 250) hx hb dX11_reads_242 (by decide) ?_
                        refine lv_iinc (v := nI (i9 + 1)) (lv' := [(1, .int (nI (i9 + 1))), (0, .ref r), (3, .int (nI (w1 * h1)))]) hx hb dX11_reads_250 hl (k := 1) rfl (nI_1 _) (by decide) rfl (fun ls hl => ?_)
                        refine lv_goto (tgt := 17) hx hb dX11_reads_253 (by decide) ?_
                        refine lv_aload_n hx hb dX11_reads_17 rfl (lv_at hl 1 rfl) ?_
                        refine gf_X11_104 hB hR.o rfl dX11_reads_18 ?_
                        refine mn_if_ge (tgt := 256) hB dX11_reads_21 (by decide) (by omega) (fun h_21 => ?_) (fun h => by exfalso; omega)
                        refine lv_aload_n hx hb dX11_reads_256 rfl (lv_at hl 1 rfl) ?_
                        refine gf_X11_104 hB hR.o rfl dX11_reads_257 ?_
                        refine mn_if_ge (tgt := 283) hB dX11_reads_260 (by decide) (by omega) (fun h_260 => ?_) (fun h => by exfalso; omega)
                        refine lv_aload_n hx hb dX11_reads_283 rfl (lv_at hl 1 rfl) ?_
                        refine gf_X11_104 hB hR.o rfl dX11_reads_284 ?_
                        refine mh_iret hB ⟨Nat.le_of_ble_eq_true rfl, Nat.le_of_ble_eq_true rfl⟩ hS dX11_reads_287 ⟨?_, op2_1, be2_2, wi2_3, hi2_4, bk2_5, ot2_6, wd2_7, hg2_8, in2_9, (nI e9), en2_11, sgi, bgi, ?_, ?_⟩
                        · rw [hfin]; rfl
                        · exact hR
                        · intro b8 hb8
                          rw [hfin] at hb8
                          cases hb8
                      · skip
                        have hok9 := endS_ok rest (w1, h1, c1) p1 hIi.2 hok0 (by omega)
                        rw [hq9] at hEn hok9
                        obtain ⟨h91, h92, h93, h94, hbk9⟩ := hEn
                        subst h91
                        subst h92
                        subst h93
                        subst h94
                        have hok8 : b9.ok := hok9
                        refine lv_goto (tgt := 250) hx hb dX11_reads_242 (by decide) ?_
                        refine lv_iinc (v := nI (i9 + 1)) (lv' := [(1, .int (nI (i9 + 1))), (0, .ref r), (3, .int (nI (w1 * h1)))]) hx hb dX11_reads_250 hl (k := 1) rfl (nI_1 _) (by decide) rfl (fun ls hl => ?_)
                        refine lv_goto (tgt := 17) hx hb dX11_reads_253 (by decide) ?_
                        refine lv_aload_n hx hb dX11_reads_17 rfl (lv_at hl 1 rfl) ?_
                        refine gf_X11_104 hB hR.o rfl dX11_reads_18 ?_
                        refine lv_if_ge (tgt := 256) hx hb dX11_reads_21 (by decide) (fun h => absurd h (by decide)) (fun h_21 => ?_)
                        refine lv_aload_n hx hb dX11_reads_24 rfl (lv_at hl 1 rfl) ?_
                        refine gf_X11_113 hB hR.o rfl dX11_reads_25 ?_
                        refine mn_if_ne (tgt := 256) hB dX11_reads_28 (by decide) (by omega) (fun h_28 => ?_) (fun h => by exfalso; omega)
                        refine lv_aload_n hx hb dX11_reads_256 rfl (lv_at hl 1 rfl) ?_
                        refine gf_X11_104 hB hR.o rfl dX11_reads_257 ?_
                        refine lv_if_ge (tgt := 283) hx hb dX11_reads_260 (by decide) (fun h => absurd h (by decide)) (fun h_260 => ?_)
                        refine lv_aload_n hx hb dX11_reads_263 rfl (lv_at hl 1 rfl) ?_
                        refine gf_X11_113 hB hR.o rfl dX11_reads_264 ?_
                        refine mn_if_eq (tgt := 278) hB dX11_reads_267 (by decide) (by omega) (fun h => by exfalso; omega) (fun h_267 => ?_)
                        refine lv_iload_n hx hb dX11_reads_270 rfl (lv_at hl 0 rfl) ?_
                        refine lv_aload_n hx hb dX11_reads_271 rfl (lv_at hl 1 rfl) ?_
                        refine gf_X11_84 hB hR.o rfl dX11_reads_272 ?_
                        refine mn_icmp_ge (tgt := 283) hB dX11_reads_275 (by decide) (by omega) (by omega) (fun h_275 => ?_) (fun h_275 => ?_)
                        · skip
                          have hfin : wholeS tc len = .inr b9 := hRu.symm.trans (runS_don (by omega) (hst.trans hq9) (by omega))
                          refine lv_aload_n hx hb dX11_reads_283 rfl (lv_at hl 1 rfl) ?_
                          refine gf_X11_104 hB hR.o rfl dX11_reads_284 ?_
                          refine mh_iret hB ⟨Nat.le_of_ble_eq_true rfl, Nat.le_of_ble_eq_true rfl⟩ hS dX11_reads_287 ⟨?_, op2_1, be2_2, (nI b9.1), (nI b9.2.1), bk2_5, ot2_6, wd2_7, hg2_8, in2_9, (-1), (nI 1), sgi, bgi, ?_, ?_⟩
                          · rw [hfin]; rfl
                          · exact hR
                          · intro b8 hb8
                            rw [hfin] at hb8
                            cases hb8
                            exact ⟨rfl, rfl, hbk9, hok8⟩
                        · skip
                          have hfin : wholeS tc len = .inl (i9 + 1) := hRu.symm.trans (runS_mor (by omega) (hst.trans hq9) (by omega))
                          refine lv_aload_n hx hb dX11_reads_278 rfl (lv_at hl 1 rfl) ?_
                          refine lv_iload_n hx hb dX11_reads_279 rfl (lv_at hl 0 rfl) ?_
                          refine pf_X11_104 hB hR.o (by first | exact Or.inl rfl | (simp only [ftA]; omega) | (simp [ftA]; omega)) hS rfl rfl (Nat.le_of_ble_eq_true rfl) dX11_reads_280 (fun H locs hwr => ?_)
                          obtain ⟨hR, hS⟩ := hR.w_zer hwr
                          refine lv_aload_n hx hb dX11_reads_283 rfl (lv_at hl 1 rfl) ?_
                          refine gf_X11_104 hB hR.o rfl dX11_reads_284 ?_
                          refine mh_iret hB ⟨Nat.le_of_ble_eq_true rfl, Nat.le_of_ble_eq_true rfl⟩ hS dX11_reads_287 ⟨?_, op2_1, be2_2, (nI b9.1), (nI b9.2.1), bk2_5, ot2_6, wd2_7, hg2_8, in2_9, (nI (i9 + 1)), (nI 1), sgi, bgi, ?_, ?_⟩
                          · rw [hfin]; rfl
                          · exact hR
                          · intro b8 hb8
                            rw [hfin] at hb8
                            cases hb8
                      · skip
                        have hok9 := endS_ok rest (w1, h1, c1) p1 hIi.2 hok0 (by omega)
                        rw [hq9] at hEn hok9
                        obtain ⟨h91, h92, h93, hLn⟩ := hEn
                        subst h91
                        subst h92
                        subst h93
                        obtain ⟨hIn, hln0⟩ := hok9
                        have hln : L9.length ≤ i9 + 1 := by omega
                        have hnx : runS tc (len - (i9 + 1)) (i9 + 1) L9 = wholeS tc len := (runS_go (by omega) (hst.trans hq9)).symm.trans hRu
                        refine lv_goto (tgt := 250) hx hb dX11_reads_242 (by decide) ?_
                        refine lv_iinc (v := nI (i9 + 1)) (lv' := [(1, .int (nI (i9 + 1))), (0, .ref r), (3, .int (nI (w1 * h1)))]) hx hb dX11_reads_250 hl (k := 1) rfl (nI_1 _) (by decide) rfl (fun ls hl => ?_)
                        refine lv_goto (tgt := 17) hx hb dX11_reads_253 (by decide) ?_
                        refine ih17 (L9, i9 + 1, sgi, bgi, wd2_7, hg2_8, in2_9, bk2_5, ot2_6, be2_2, wi2_3, hi2_4) _ _ _ ⟨(by omega), (hLn), (hIn), (hln), (hnx), hR, hS, lv_sub hl [1, 0] rfl⟩ (by dsimp only; omega)
                    · skip
                      refine lv_aload_n hx hb dX11_reads_211 rfl (lv_at hl 0 rfl) ?_
                      refine gf_X11_44 hB hR.o rfl dX11_reads_212 ?_
                      refine lv_iload_n hx hb dX11_reads_215 rfl (lv_at hl 2 rfl) ?_
                      refine lv_aload_n hx hb dX11_reads_216 rfl (lv_at hl 0 rfl) ?_
                      refine gf_X11_41 hB hR.o rfl dX11_reads_217 ?_
                      refine lv_sipush (v := nI 256) hx hb dX11_reads_220 (by decide +kernel) ?_
                      refine lv_aload_n hx hb dX11_reads_223 rfl (lv_at hl 0 rfl) ?_
                      refine gf_X11_87 hB hR.o rfl dX11_reads_224 ?_
                      refine mn_imul hB dX11_reads_227 ?_
                      refine lv_iload_n hx hb dX11_reads_228 rfl (lv_at hl 2 rfl) ?_
                      refine mn_iadd hB dX11_reads_229 ?_
                      refine mn_iald hB hR.a_zin (by omega) (by omega) dX11_reads_230 ?_
                      refine mn_iast hB hR.a_zbk (by first | exact Or.inl rfl | (simp only [ftA]; omega) | (simp [ftA]; omega)) hS (by omega) (by omega) dX11_reads_231 (fun H locs hwr => ?_)
                      obtain ⟨hR, hS⟩ := hR.w_zbk hwr
                      refine lv_iinc (v := nI (k9 + 1)) (lv' := [(3, .int (nI (k9 + 1))), (0, .ref r), (1, .int (nI i9))]) hx hb dX11_reads_232 hl (k := 2) rfl (nI_1 _) (by decide) rfl (fun ls hl => ?_)
                      refine lv_goto (tgt := 198) hx hb dX11_reads_235 (by decide) ?_
                      refine ih198 (k9 + 1) _ _ _ ⟨(by omega), (by rw [← lowOf_up]; exact hR), hS, lv_sub hl [1, 2, 0] rfl⟩ (by dsimp only; omega)
              · skip
                have h50 : 50 ≤ tc i9 ∧ tc i9 ≤ 57 := by
                  rw [inL_nI (by omega) 50 57 50 57 (by decide) (by decide)] at h_127
                  have := of_decide_eq_true h_127
                  omega
                have hop : opnS (tc i9) = true := decide_eq_true (by omega)
                refine lv_aload_n hx hb dX11_reads_130 rfl (lv_at hl 1 rfl) ?_
                refine lv_iload_n hx hb dX11_reads_131 rfl (lv_at hl 0 rfl) ?_
                refine lv_iload_n hx hb dX11_reads_132 rfl (lv_at hl 2 rfl) ?_
                refine cl_X11_132 (As := [.int (nI (tc i9)), .int (nI i9)]) (rest := []) hB (c_X11_opens l g H r zq zsp zrm zst zsl zsv ztx (nI len) zth sgi bgi wdi hgi ini bei wii hii bki oti (-1) (nI 0) zpo zpi zgr zsh zsn Li.length (tc i9) i9 hR (by omega)) hR.o rfl hl.1 (Nat.le_of_ble_eq_true rfl) dX11_reads_133 ⟨Nat.le_of_ble_eq_true rfl, Nat.le_of_ble_eq_true rfl⟩ ⟨Nat.le_of_ble_eq_true rfl, Nat.le_of_ble_eq_true rfl⟩ hS (by have hz9 := hS.1; rintro q (h | h) <;> first | exact Or.inr (by omega) | exact h.elim | exact Or.inl h | (simp only [ftA] at h ⊢; omega)) (fun v H1 locs hpo hfr hS => ?_)
                obtain ⟨rfl, hR⟩ := hpo
                generalize H1 = H at hfr hS hR ⊢
                refine W.widen (k := 0) (n := 0) (Nat.le_of_ble_eq_true rfl) (Nat.le_of_ble_eq_true rfl) ?_
                have hLn := hLi.push hc256 (show i9 < 60 by omega)
                have hIn : ItsOk ((tc i9, i9, 0, 0, fun _ => 0) :: Li) := ⟨opn_it hop (by omega), hIi⟩
                have hln : ((tc i9, i9, 0, 0, fun _ => 0) :: Li : List PIt).length ≤ i9 + 1 := Nat.succ_le_succ hli
                have hnx : runS tc (len - (i9 + 1)) (i9 + 1) ((tc i9, i9, 0, 0, fun _ => 0) :: Li) = wholeS tc len := (runS_go (by omega) (stepS_opn h57 hop)).symm.trans hRu
                refine lv_goto (tgt := 250) hx hb dX11_reads_136 (by decide) ?_
                refine lv_iinc (v := nI (i9 + 1)) (lv' := [(1, .int (nI (i9 + 1))), (2, .int (nI (tc i9))), (0, .ref r)]) hx hb dX11_reads_250 hl (k := 2) rfl (nI_1 _) (by decide) rfl (fun ls hl => ?_)
                refine lv_goto (tgt := 17) hx hb dX11_reads_253 (by decide) ?_
                refine ih17 (((tc i9, i9, 0, 0, fun _ => 0) :: Li), i9 + 1, (upd sgi Li.length (nI (tc i9))), (upd bgi Li.length (nI i9)), (upd wdi Li.length (nI 0)), (upd hgi Li.length (nI 0)), ini, bki, oti, bei, wii, hii) _ _ _ ⟨(by omega), (hLn), (hIn), (hln), (hnx), hR, hS, lv_sub hl [2, 0] rfl⟩ (by dsimp only; omega)
    · skip
      have h57 : 97 ≤ tc i9 ∧ tc i9 ≤ 102 := by
        rw [inL_nI (by omega) 97 102 97 102 (by decide) (by decide)] at h_57
        have := of_decide_eq_true h_57
        omega
      refine lv_aload_n hx hb dX11_reads_60 rfl (lv_at hl 1 rfl) ?_
      refine lv_iload_n hx hb dX11_reads_61 rfl (lv_at hl 2 rfl) ?_
      refine pf_X11_107 hB hR.o (by first | exact Or.inl rfl | (simp only [ftA]; omega) | (simp [ftA]; omega)) hS rfl rfl (Nat.le_of_ble_eq_true rfl) dX11_reads_62 (fun H locs hwr => ?_)
      obtain ⟨hR, hS⟩ := hR.w_zbe hwr
      refine lv_aload_n hx hb dX11_reads_65 rfl (lv_at hl 1 rfl) ?_
      refine lv_iconst (v := nI 1) hx hb dX11_reads_66 (by decide) ?_
      refine pf_X11_90 hB hR.o (by first | exact Or.inl rfl | (simp only [ftA]; omega) | (simp [ftA]; omega)) hS rfl rfl (Nat.le_of_ble_eq_true rfl) dX11_reads_67 (fun H locs hwr => ?_)
      obtain ⟨hR, hS⟩ := hR.w_zwi hwr
      refine lv_aload_n hx hb dX11_reads_70 rfl (lv_at hl 1 rfl) ?_
      refine lv_iconst (v := nI 1) hx hb dX11_reads_71 (by decide) ?_
      refine pf_X11_93 hB hR.o (by first | exact Or.inl rfl | (simp only [ftA]; omega) | (simp [ftA]; omega)) hS rfl rfl (Nat.le_of_ble_eq_true rfl) dX11_reads_72 (fun H locs hwr => ?_)
      obtain ⟨hR, hS⟩ := hR.w_zhi hwr
      refine lv_aload_n hx hb dX11_reads_75 rfl (lv_at hl 1 rfl) ?_
      refine gf_X11_44 hB hR.o rfl dX11_reads_76 ?_
      refine lv_iconst (v := nI 0) hx hb dX11_reads_79 (by decide) ?_
      refine lv_iload_n hx hb dX11_reads_80 rfl (lv_at hl 0 rfl) ?_
      refine lv_bipush (v := nI 97) hx hb dX11_reads_81 (by decide) ?_
      refine mn_isub hB dX11_reads_83 (by omega) ?_
      refine mn_iast hB hR.a_zbk (by first | exact Or.inl rfl | (simp only [ftA]; omega) | (simp [ftA]; omega)) hS (by omega) (by omega) dX11_reads_84 (fun H locs hwr => ?_)
      obtain ⟨hR, hS⟩ := hR.w_zbk hwr
      refine lv_aload_n hx hb dX11_reads_85 rfl (lv_at hl 1 rfl) ?_
      refine cl_X11_125 (As := []) (rest := []) hB (c_X11_ends l g H r zq zsp zrm zst zsl zsv ztx (nI len) zth sgi bgi wdi hgi ini (upd bki 0 (nI ((tc i9) - 97))) oti zpo zpi zgr zsh zsn Li i9 1 1 (fun _ => tc i9 - 97) hR (hLi) (hIi) (by omega) (let_ok h57) (let_bk h57) (by omega)) hR.o rfl hl.1 (Nat.le_of_ble_eq_true rfl) dX11_reads_86 ⟨Nat.le_of_ble_eq_true rfl, Nat.le_of_ble_eq_true rfl⟩ ⟨Nat.le_of_ble_eq_true rfl, Nat.le_of_ble_eq_true rfl⟩ hS (by have hz9 := hS.1; rintro q (h | h) <;> first | exact Or.inr (by omega) | exact h.elim | exact Or.inl h | (simp only [ftA] at h ⊢; omega)) (fun v H1 locs hpo hfr hS => ?_)
      obtain ⟨rfl, op2_12, be2_13, wi2_14, hi2_15, bk2_16, ot2_17, wd2_18, hg2_19, in2_20, er2_21, en2_22, hR, hEn⟩ := hpo
      generalize H1 = H at hfr hS hR hEn ⊢
      refine W.widen (k := 0) (n := 0) (Nat.le_of_ble_eq_true rfl) (Nat.le_of_ble_eq_true rfl) ?_
      have hst : stepS (tc i9) i9 Li = endS Li (1, 1, fun _ => tc i9 - 97) i9 := stepS_let h57
      rcases hq9 : endS Li (1, 1, fun _ => tc i9 - 97) i9 with e9 | b9 | L9
      · skip
        have hok9 := endS_ok Li (1, 1, fun _ => tc i9 - 97) i9 hIi (let_ok h57) (by omega)
        rw [hq9] at hEn hok9
        have h91 : er2_21 = nI e9 := hEn
        have hok8 : e9 < 60 := hok9
        subst h91
        have hfin : wholeS tc len = .inl e9 := hRu.symm.trans (runS_err (by omega) (hst.trans hq9))
        refine lv_goto (tgt := 250) hx hb dX11_reads_89 (by decide) ?_
        refine lv_iinc (v := nI (i9 + 1)) (lv' := [(1, .int (nI (i9 + 1))), (2, .int (nI (tc i9))), (0, .ref r)]) hx hb dX11_reads_250 hl (k := 2) rfl (nI_1 _) (by decide) rfl (fun ls hl => ?_)
        refine lv_goto (tgt := 17) hx hb dX11_reads_253 (by decide) ?_
        refine lv_aload_n hx hb dX11_reads_17 rfl (lv_at hl 2 rfl) ?_
        refine gf_X11_104 hB hR.o rfl dX11_reads_18 ?_
        refine mn_if_ge (tgt := 256) hB dX11_reads_21 (by decide) (by omega) (fun h_21 => ?_) (fun h => by exfalso; omega)
        refine lv_aload_n hx hb dX11_reads_256 rfl (lv_at hl 2 rfl) ?_
        refine gf_X11_104 hB hR.o rfl dX11_reads_257 ?_
        refine mn_if_ge (tgt := 283) hB dX11_reads_260 (by decide) (by omega) (fun h_260 => ?_) (fun h => by exfalso; omega)
        refine lv_aload_n hx hb dX11_reads_283 rfl (lv_at hl 2 rfl) ?_
        refine gf_X11_104 hB hR.o rfl dX11_reads_284 ?_
        refine mh_iret hB ⟨Nat.le_of_ble_eq_true rfl, Nat.le_of_ble_eq_true rfl⟩ hS dX11_reads_287 ⟨?_, op2_12, be2_13, wi2_14, hi2_15, bk2_16, ot2_17, wd2_18, hg2_19, in2_20, (nI e9), en2_22, sgi, bgi, ?_, ?_⟩
        · rw [hfin]; rfl
        · exact hR
        · intro b8 hb8
          rw [hfin] at hb8
          cases hb8
      · skip
        have hok9 := endS_ok Li (1, 1, fun _ => tc i9 - 97) i9 hIi (let_ok h57) (by omega)
        rw [hq9] at hEn hok9
        obtain ⟨h91, h92, h93, h94, hbk9⟩ := hEn
        subst h91
        subst h92
        subst h93
        subst h94
        have hok8 : b9.ok := hok9
        refine lv_goto (tgt := 250) hx hb dX11_reads_89 (by decide) ?_
        refine lv_iinc (v := nI (i9 + 1)) (lv' := [(1, .int (nI (i9 + 1))), (2, .int (nI (tc i9))), (0, .ref r)]) hx hb dX11_reads_250 hl (k := 2) rfl (nI_1 _) (by decide) rfl (fun ls hl => ?_)
        refine lv_goto (tgt := 17) hx hb dX11_reads_253 (by decide) ?_
        refine lv_aload_n hx hb dX11_reads_17 rfl (lv_at hl 2 rfl) ?_
        refine gf_X11_104 hB hR.o rfl dX11_reads_18 ?_
        refine lv_if_ge (tgt := 256) hx hb dX11_reads_21 (by decide) (fun h => absurd h (by decide)) (fun h_21 => ?_)
        refine lv_aload_n hx hb dX11_reads_24 rfl (lv_at hl 2 rfl) ?_
        refine gf_X11_113 hB hR.o rfl dX11_reads_25 ?_
        refine mn_if_ne (tgt := 256) hB dX11_reads_28 (by decide) (by omega) (fun h_28 => ?_) (fun h => by exfalso; omega)
        refine lv_aload_n hx hb dX11_reads_256 rfl (lv_at hl 2 rfl) ?_
        refine gf_X11_104 hB hR.o rfl dX11_reads_257 ?_
        refine lv_if_ge (tgt := 283) hx hb dX11_reads_260 (by decide) (fun h => absurd h (by decide)) (fun h_260 => ?_)
        refine lv_aload_n hx hb dX11_reads_263 rfl (lv_at hl 2 rfl) ?_
        refine gf_X11_113 hB hR.o rfl dX11_reads_264 ?_
        refine mn_if_eq (tgt := 278) hB dX11_reads_267 (by decide) (by omega) (fun h => by exfalso; omega) (fun h_267 => ?_)
        refine lv_iload_n hx hb dX11_reads_270 rfl (lv_at hl 0 rfl) ?_
        refine lv_aload_n hx hb dX11_reads_271 rfl (lv_at hl 2 rfl) ?_
        refine gf_X11_84 hB hR.o rfl dX11_reads_272 ?_
        refine mn_icmp_ge (tgt := 283) hB dX11_reads_275 (by decide) (by omega) (by omega) (fun h_275 => ?_) (fun h_275 => ?_)
        · skip
          have hfin : wholeS tc len = .inr b9 := hRu.symm.trans (runS_don (by omega) (hst.trans hq9) (by omega))
          refine lv_aload_n hx hb dX11_reads_283 rfl (lv_at hl 2 rfl) ?_
          refine gf_X11_104 hB hR.o rfl dX11_reads_284 ?_
          refine mh_iret hB ⟨Nat.le_of_ble_eq_true rfl, Nat.le_of_ble_eq_true rfl⟩ hS dX11_reads_287 ⟨?_, op2_12, be2_13, (nI b9.1), (nI b9.2.1), bk2_16, ot2_17, wd2_18, hg2_19, in2_20, (-1), (nI 1), sgi, bgi, ?_, ?_⟩
          · rw [hfin]; rfl
          · exact hR
          · intro b8 hb8
            rw [hfin] at hb8
            cases hb8
            exact ⟨rfl, rfl, hbk9, hok8⟩
        · skip
          have hfin : wholeS tc len = .inl (i9 + 1) := hRu.symm.trans (runS_mor (by omega) (hst.trans hq9) (by omega))
          refine lv_aload_n hx hb dX11_reads_278 rfl (lv_at hl 2 rfl) ?_
          refine lv_iload_n hx hb dX11_reads_279 rfl (lv_at hl 0 rfl) ?_
          refine pf_X11_104 hB hR.o (by first | exact Or.inl rfl | (simp only [ftA]; omega) | (simp [ftA]; omega)) hS rfl rfl (Nat.le_of_ble_eq_true rfl) dX11_reads_280 (fun H locs hwr => ?_)
          obtain ⟨hR, hS⟩ := hR.w_zer hwr
          refine lv_aload_n hx hb dX11_reads_283 rfl (lv_at hl 2 rfl) ?_
          refine gf_X11_104 hB hR.o rfl dX11_reads_284 ?_
          refine mh_iret hB ⟨Nat.le_of_ble_eq_true rfl, Nat.le_of_ble_eq_true rfl⟩ hS dX11_reads_287 ⟨?_, op2_12, be2_13, (nI b9.1), (nI b9.2.1), bk2_16, ot2_17, wd2_18, hg2_19, in2_20, (nI (i9 + 1)), (nI 1), sgi, bgi, ?_, ?_⟩
          · rw [hfin]; rfl
          · exact hR
          · intro b8 hb8
            rw [hfin] at hb8
            cases hb8
      · skip
        have hok9 := endS_ok Li (1, 1, fun _ => tc i9 - 97) i9 hIi (let_ok h57) (by omega)
        rw [hq9] at hEn hok9
        obtain ⟨h91, h92, h93, hLn⟩ := hEn
        subst h91
        subst h92
        subst h93
        obtain ⟨hIn, hln0⟩ := hok9
        have hln : L9.length ≤ i9 + 1 := by omega
        have hnx : runS tc (len - (i9 + 1)) (i9 + 1) L9 = wholeS tc len := (runS_go (by omega) (hst.trans hq9)).symm.trans hRu
        refine lv_goto (tgt := 250) hx hb dX11_reads_89 (by decide) ?_
        refine lv_iinc (v := nI (i9 + 1)) (lv' := [(1, .int (nI (i9 + 1))), (2, .int (nI (tc i9))), (0, .ref r)]) hx hb dX11_reads_250 hl (k := 2) rfl (nI_1 _) (by decide) rfl (fun ls hl => ?_)
        refine lv_goto (tgt := 17) hx hb dX11_reads_253 (by decide) ?_
        refine ih17 (L9, i9 + 1, sgi, bgi, wd2_18, hg2_19, in2_20, bk2_16, ot2_17, be2_13, wi2_14, hi2_15) _ _ _ ⟨(by omega), (hLn), (hIn), (hln), (hnx), hR, hS, lv_sub hl [2, 0] rfl⟩ (by dsimp only; omega)
