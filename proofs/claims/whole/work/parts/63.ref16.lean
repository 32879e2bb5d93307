def rm_c_X11_ends : Room := { frames := 2, cells := 0, slots := 0, locals := 47 }
set_option maxRecDepth 100000 in
set_option maxHeartbeats 400000 in
theorem c_X11_ends (l : Launch) (g : GG) (H0 : Heap) (r : Nat) (zq : Nat → Int32) (zsp : Nat → Int32) (zrm : Nat → Int32) (zst : Int32) (zsl : Nat → Int32) (zsv : Nat → Int32) (ztx : Nat → Int32) (zln : Int32) (zth : Int32) (zsg : Nat → Int32) (zbg : Nat → Int32) (zwd : Nat → Int32) (zhg : Nat → Int32) (zin : Nat → Int32) (zbk : Nat → Int32) (zot : Nat → Int32) (zpo : Nat → Int32) (zpi : Int32) (zgr : Int32) (zsh : Nat → Int32) (zsn : Int32) (L0 : List PIt) (pl0 : Nat) (w0 : Nat) (h0 : Nat) (c0 : Nat → Nat) (hR : ModAt g r zq zsp zrm zst zsl zsv ztx zln zth zsg zbg zwd zhg zin (nI L0.length) (nI pl0) (nI w0) (nI h0) zbk zot (-1) (nI 0) zpo zpi zgr zsh zsn H0) (hL : RelSt zsg zbg zwd zhg zin L0) (hI : ItsOk L0) (hl60 : L0.length ≤ 60) (hb0 : PBl.ok (w0, h0, c0)) (hk0 : ∀ k, k < w0 * h0 → zbk k = nI (c0 k) ∧ c0 k < 6) (hpl : pl0 < 60) : Ct l yX11_ends cX11_ends 1 none rm_c_X11_ends g [.ref r] H0 (ftA (fun q => r ≤ q ∧ q < r + 16) H0.size) (fun v H1 => v = none ∧ ∃ (op2 : Int32), ∃ (be2 : Int32), ∃ (wi2 : Int32), ∃ (hi2 : Int32), ∃ (bk2 : Nat → Int32), ∃ (ot2 : Nat → Int32), ∃ (wd2 : Nat → Int32), ∃ (hg2 : Nat → Int32), ∃ (in2 : Nat → Int32), ∃ (er2 : Int32), ∃ (en2 : Int32), ModAt g r zq zsp zrm zst zsl zsv ztx zln zth zsg zbg wd2 hg2 in2 op2 be2 wi2 hi2 bk2 ot2 er2 en2 zpo zpi zgr zsh zsn H1 ∧ EndR zsg zbg wd2 hg2 in2 op2 wi2 hi2 bk2 er2 en2 (endS L0 (w0, h0, c0) pl0)) := by
  refine Ct.of (by decide) (fun _ h => Or.inr h) (Nat.le_of_ble_eq_true rfl) ?_
  intro p e s m below meth c ls hB hin hS hH hl
  have hx := hB.x
  have hb := hB.b
  have hl : lv_has ls 1 [(0, .ref r)] := hl
  refine mh_loop (σ := List PIt × Nat × Nat × (Nat → Nat) × Nat × (Nat → Int32) × (Nat → Int32)) (fun xx9 H locs ls => match xx9 with | (Li, wi, hi, ci, pli, bki, oti) => RelSt zsg zbg zwd zhg zin Li ∧ ItsOk Li ∧ Li.length ≤ 60 ∧ PBl.ok (wi, hi, ci) ∧ (∀ k, k < wi * hi → bki k = nI (ci k) ∧ ci k < 6) ∧ pli < 60 ∧ endS Li (wi, hi, ci) pli = endS L0 (w0, h0, c0) pl0 ∧ ModAt g r zq zsp zrm zst zsl zsv ztx zln zth zsg zbg zwd zhg zin (nI Li.length) (nI pli) (nI wi) (nI hi) bki oti (-1) (nI 0) zpo zpi zgr zsh zsn H ∧ va_S (ftA (fun q => r ≤ q ∧ q < r + 16) H0.size) H0 H locs ∧ lv_has ls 1 [(0, .ref r)]) (fun xx9 => match xx9 with | (Li, wi, hi, ci, pli, bki, oti) => Li.length) ?_ (L0, w0, h0, c0, pl0, zbk, zot) ⟨(hL), (hI), (hl60), (hb0), (hk0), (hpl), (rfl), hR, hS, lv_sub hl [0] rfl⟩
  rintro ⟨Li, wi, hi, ci, pli, bki, oti⟩ H locs ls ⟨hLi, hIi, hli, hbi, hki, hpi, hEi, hR, hS, hl⟩ ih
  have ih0 := ih
  rcases Li with _ | ⟨⟨s1, p1, w1, h1, c1⟩, rest⟩
  · skip
    have hR : ModAt g r zq zsp zrm zst zsl zsv ztx zln zth zsg zbg zwd zhg zin (nI 0) (nI pli) (nI wi) (nI hi) bki oti (-1) (nI 0) zpo zpi zgr zsh zsn H := hR
    refine lv_aload_n hx hb dX11_ends_0 rfl (lv_at hl 0 rfl) ?_
    refine gf_X11_87 hB hR.o rfl dX11_ends_1 ?_
    refine mn_if_le (tgt := 88) hB dX11_ends_4 (by decide) (by omega) (fun h_4 => ?_) (fun h => by exfalso; omega)
    refine lv_aload_n hx hb dX11_ends_88 rfl (lv_at hl 0 rfl) ?_
    refine gf_X11_104 hB hR.o rfl dX11_ends_89 ?_
    refine lv_if_lt (tgt := 96) hx hb dX11_ends_92 (by decide) (fun h_92 => ?_) (fun h => absurd (by decide) h)
    refine lv_aload_n hx hb dX11_ends_96 rfl (lv_at hl 0 rfl) ?_
    refine lv_aload_n hx hb dX11_ends_97 rfl (lv_at hl 0 rfl) ?_
    refine gf_X11_87 hB hR.o rfl dX11_ends_98 ?_
    refine mn_if_ne (tgt := 108) hB dX11_ends_101 (by decide) (by omega) (fun h => by exfalso; omega) (fun h_101 => ?_)
    refine lv_iconst (v := nI 1) hx hb dX11_ends_104 (by decide) ?_
    refine lv_goto (tgt := 109) hx hb dX11_ends_105 (by decide) ?_
    refine pf_X11_113 hB hR.o (by first | exact Or.inl rfl | (simp only [ftA]; omega) | (simp [ftA]; omega)) hS rfl rfl (Nat.le_of_ble_eq_true rfl) dX11_ends_109 (fun H locs hwr => ?_)
    obtain ⟨hR, hS⟩ := hR.w_zen hwr
    refine lv_aload_n hx hb dX11_ends_112 rfl (lv_at hl 0 rfl) ?_
    refine gf_X11_87 hB hR.o rfl dX11_ends_113 ?_
    refine mn_if_le (tgt := 134) hB dX11_ends_116 (by decide) (by omega) (fun h_116 => ?_) (fun h => by exfalso; omega)
    refine mh_vret hB ⟨Nat.le_of_ble_eq_true rfl, Nat.le_of_ble_eq_true rfl⟩ hS dX11_ends_134 ⟨?_, (nI 0), (nI pli), (nI wi), (nI hi), bki, oti, zwd, zhg, zin, (-1), (nI 1), ?_, ?_⟩
    · rfl
    · exact hR
    · rw [← hEi]
      exact ⟨rfl, rfl, rfl, rfl, hki⟩
  · skip
    have hR : ModAt g r zq zsp zrm zst zsl zsv ztx zln zth zsg zbg zwd zhg zin (nI (rest.length + 1)) (nI pli) (nI wi) (nI hi) bki oti (-1) (nI 0) zpo zpi zgr zsh zsn H := hR
    obtain ⟨⟨a1, a2, a3, a4, a5, a6, a7, a8, a9⟩, hLr⟩ := hLi
    dsimp only at a1 a2 a3 a4 a5 a6 a7 a8 a9
    have hIt := hIi.1
    have hq1 := hIt.1
    dsimp only at hq1
    have hrl : rest.length + 1 ≤ 60 := hli
    obtain ⟨hb91, hb92, hb93, hb94, hb95⟩ := hbi
    dsimp only at hb91 hb92 hb93 hb94 hb95
    refine lv_aload_n hx hb dX11_ends_0 rfl (lv_at hl 0 rfl) ?_
    refine gf_X11_87 hB hR.o rfl dX11_ends_1 ?_
    refine mn_if_le (tgt := 88) hB dX11_ends_4 (by decide) (by omega) (fun h => by exfalso; omega) (fun h_4 => ?_)
    refine lv_aload_n hx hb dX11_ends_7 rfl (lv_at hl 0 rfl) ?_
    refine gf_X11_29 hB hR.o rfl dX11_ends_8 ?_
    refine lv_aload_n hx hb dX11_ends_11 rfl (lv_at hl 0 rfl) ?_
    refine gf_X11_87 hB hR.o rfl dX11_ends_12 ?_
    refine lv_iconst (v := nI 1) hx hb dX11_ends_15 (by decide) ?_
    refine mn_isub hB dX11_ends_16 (by omega) ?_
    refine mh_top (y := .int (nI rest.length)) (by rw [Nat.add_sub_cancel]) ?_
    refine mn_iald hB hR.a_zsg (by omega) (by omega) dX11_ends_17 ?_
    refine mh_top (y := .int (nI s1)) (by rw [a1]) ?_
    refine cl_X11_100 (As := [.int (nI s1)]) (rest := []) hB (c_X11_isBefore l g H s1 (a5)) rfl hl.1 (Nat.le_of_ble_eq_true rfl) dX11_ends_18 ⟨Nat.le_of_ble_eq_true rfl, Nat.le_of_ble_eq_true rfl⟩ ⟨Nat.le_of_ble_eq_true rfl, Nat.le_of_ble_eq_true rfl⟩ hS (by have hz9 := hS.1; rintro q (h | h) <;> first | exact Or.inr (by omega) | exact h.elim | exact Or.inl h | (simp only [ftA] at h ⊢; omega)) (fun v H1 locs hpo hfr hS => ?_)
    obtain ⟨rfl, rfl⟩ := hpo
    refine W.widen (k := 0) (n := 0) (Nat.le_of_ble_eq_true rfl) (Nat.le_of_ble_eq_true rfl) ?_
    refine mb_if_eq (tgt := 88) hB dX11_ends_21 (by decide) (fun h_21 => ?_) (fun h_21 => ?_)
    · skip
      have hbf : befS s1 = false := h_21
      refine lv_aload_n hx hb dX11_ends_88 rfl (lv_at hl 0 rfl) ?_
      refine gf_X11_104 hB hR.o rfl dX11_ends_89 ?_
      refine lv_if_lt (tgt := 96) hx hb dX11_ends_92 (by decide) (fun h_92 => ?_) (fun h => absurd (by decide) h)
      refine lv_aload_n hx hb dX11_ends_96 rfl (lv_at hl 0 rfl) ?_
      refine lv_aload_n hx hb dX11_ends_97 rfl (lv_at hl 0 rfl) ?_
      refine gf_X11_87 hB hR.o rfl dX11_ends_98 ?_
      refine mn_if_ne (tgt := 108) hB dX11_ends_101 (by decide) (by omega) (fun h_101 => ?_) (fun h => by exfalso; omega)
      refine lv_iconst (v := nI 0) hx hb dX11_ends_108 (by decide) ?_
      refine pf_X11_113 hB hR.o (by first | exact Or.inl rfl | (simp only [ftA]; omega) | (simp [ftA]; omega)) hS rfl rfl (Nat.le_of_ble_eq_true rfl) dX11_ends_109 (fun H locs hwr => ?_)
      obtain ⟨hR, hS⟩ := hR.w_zen hwr
      refine lv_aload_n hx hb dX11_ends_112 rfl (lv_at hl 0 rfl) ?_
      refine gf_X11_87 hB hR.o rfl dX11_ends_113 ?_
      refine mn_if_le (tgt := 134) hB dX11_ends_116 (by decide) (by omega) (fun h => by exfalso; omega) (fun h_116 => ?_)
      refine lv_aload_n hx hb dX11_ends_119 rfl (lv_at hl 0 rfl) ?_
      refine cl_X11_117 (As := []) (rest := []) hB (c_X11_joins_u l g H r zq zsp zrm zst zsl zsv ztx zln zth zsg zbg zwd zhg zin (nI pli) bki oti (-1) (nI 0) zpo zpi zgr zsh zsn (rest.length + 1) s1 p1 w1 h1 c1 wi hi ci hR (by omega) (hrl) (by rw [Nat.add_sub_cancel]; exact a1) (a5) (by rw [Nat.add_sub_cancel]; exact a3) (by rw [Nat.add_sub_cancel]; exact a4) (a7) (a8) (hIt.2.2.2.2.1) (hb92) (hb94) (by rw [Nat.add_sub_cancel]; exact a9) (hki)) hR.o rfl hl.1 (Nat.le_of_ble_eq_true rfl) dX11_ends_120 ⟨Nat.le_of_ble_eq_true rfl, Nat.le_of_ble_eq_true rfl⟩ ⟨Nat.le_of_ble_eq_true rfl, Nat.le_of_ble_eq_true rfl⟩ hS (by have hz9 := hS.1; rintro q (h | h) <;> first | exact Or.inr (by omega) | exact h.elim | exact Or.inl h | (simp only [ftA] at h ⊢; omega)) (fun v H1 locs hpo hfr hS => ?_)
      obtain ⟨rfl, wd2_1, hg2_2, in2_3, ot2_4, hR, hJn⟩ := hpo
      generalize H1 = H at hfr hS hR hJn ⊢
      refine W.widen (k := 0) (n := 0) (Nat.le_of_ble_eq_true rfl) (Nat.le_of_ble_eq_true rfl) ?_
      refine mb_if_ne (tgt := 134) hB dX11_ends_123 (by decide) (fun h_123 => ?_) (fun h_123 => ?_)
      · skip
        obtain ⟨it2, hj2⟩ := Option.isSome_iff_exists.mp h_123
        refine mh_vret hB ⟨Nat.le_of_ble_eq_true rfl, Nat.le_of_ble_eq_true rfl⟩ hS dX11_ends_134 ⟨?_, (nI (rest.length + 1)), (nI pli), (nI wi), (nI hi), bki, ot2_4, wd2_1, hg2_2, in2_3, (-1), (nI 0), ?_, ?_⟩
        · rfl
        · exact hR
        · rw [← hEi, endS_joS (it := (s1, p1, w1, h1, c1)) hbf hj2]
          refine ⟨rfl, rfl, rfl, ?_⟩
          obtain ⟨j1, j2, j3, j4, j5⟩ := hJn it2 hj2
          rw [Nat.add_sub_cancel] at j1 j2 j3 j4 j5
          obtain ⟨k1, k2, k3, k4⟩ := joinS_ok hIt ⟨hb91, hb92, hb93, hb94, hb95⟩ hj2
          exact ⟨⟨by rw [k2]; exact a1, by rw [k3]; exact a2, j3, j4, by rw [k2]; exact a5, by rw [k3]; exact a6, k1.2.2.1, k1.2.2.2.1, j5⟩, hLr.congr (fun j hj => ⟨rfl, rfl, (j1 j hj).1, (j1 j hj).2⟩) j2⟩
      · skip
        have hj2 : joinS (s1, p1, w1, h1, c1) (wi, hi, ci) = none := by
          cases hq : joinS (s1, p1, w1, h1, c1) (wi, hi, ci) with
          | none => rfl
          | some x9 => rw [hq] at h_123; cases h_123
        refine lv_aload_n hx hb dX11_ends_126 rfl (lv_at hl 0 rfl) ?_
        refine lv_aload_n hx hb dX11_ends_127 rfl (lv_at hl 0 rfl) ?_
        refine gf_X11_107 hB hR.o rfl dX11_ends_128 ?_
        refine pf_X11_104 hB hR.o (by first | exact Or.inl rfl | (simp only [ftA]; omega) | (simp [ftA]; omega)) hS rfl rfl (Nat.le_of_ble_eq_true rfl) dX11_ends_131 (fun H locs hwr => ?_)
        obtain ⟨hR, hS⟩ := hR.w_zer hwr
        refine mh_vret hB ⟨Nat.le_of_ble_eq_true rfl, Nat.le_of_ble_eq_true rfl⟩ hS dX11_ends_134 ⟨?_, (nI (rest.length + 1)), (nI pli), (nI wi), (nI hi), bki, ot2_4, wd2_1, hg2_2, in2_3, (nI pli), (nI 0), ?_, ?_⟩
        · rfl
        · exact hR
        · rw [← hEi, endS_joN (it := (s1, p1, w1, h1, c1)) hbf hj2]
          rfl
    · skip
      have hbf : befS s1 = true := h_21
      refine lv_aload_n hx hb dX11_ends_24 rfl (lv_at hl 0 rfl) ?_
      refine gf_X11_104 hB hR.o rfl dX11_ends_25 ?_
      refine lv_if_ge (tgt := 88) hx hb dX11_ends_28 (by decide) (fun h => absurd h (by decide)) (fun h_28 => ?_)
      refine lv_aload_n hx hb dX11_ends_31 rfl (lv_at hl 0 rfl) ?_
      refine lv_aload_n hx hb dX11_ends_32 rfl (lv_at hl 0 rfl) ?_
      refine gf_X11_32 hB hR.o rfl dX11_ends_33 ?_
      refine lv_aload_n hx hb dX11_ends_36 rfl (lv_at hl 0 rfl) ?_
      refine gf_X11_87 hB hR.o rfl dX11_ends_37 ?_
      refine lv_iconst (v := nI 1) hx hb dX11_ends_40 (by decide) ?_
      refine mn_isub hB dX11_ends_41 (by omega) ?_
      refine mh_top (y := .int (nI rest.length)) (by rw [Nat.add_sub_cancel]) ?_
      refine mn_iald hB hR.a_zbg (by omega) (by omega) dX11_ends_42 ?_
      refine mh_top (y := .int (nI p1)) (by rw [a2]) ?_
      refine pf_X11_107 hB hR.o (by first | exact Or.inl rfl | (simp only [ftA]; omega) | (simp [ftA]; omega)) hS rfl rfl (Nat.le_of_ble_eq_true rfl) dX11_ends_43 (fun H locs hwr => ?_)
      obtain ⟨hR, hS⟩ := hR.w_zbe hwr
      refine lv_aload_n hx hb dX11_ends_46 rfl (lv_at hl 0 rfl) ?_
      refine lv_aload_n hx hb dX11_ends_47 rfl (lv_at hl 0 rfl) ?_
      refine gf_X11_29 hB hR.o rfl dX11_ends_48 ?_
      refine lv_aload_n hx hb dX11_ends_51 rfl (lv_at hl 0 rfl) ?_
      refine gf_X11_87 hB hR.o rfl dX11_ends_52 ?_
      refine lv_iconst (v := nI 1) hx hb dX11_ends_55 (by decide) ?_
      refine mn_isub hB dX11_ends_56 (by omega) ?_
      refine mh_top (y := .int (nI rest.length)) (by rw [Nat.add_sub_cancel]) ?_
      refine mn_iald hB hR.a_zsg (by omega) (by omega) dX11_ends_57 ?_
      refine mh_top (y := .int (nI s1)) (by rw [a1]) ?_
      refine cl_X11_110 (As := [.int (nI s1)]) (rest := []) hB (c_X11_applies_u l g H r zq zsp zrm zst zsl zsv ztx zln zth zsg zbg zwd zhg zin (nI (rest.length + 1)) (nI p1) bki oti (-1) (nI 0) zpo zpi zgr zsh zsn wi hi ci s1 hR (hb91) (hb92) (hb93) (hb94) (hki) (by have := of_decide_eq_true hbf; omega)) hR.o rfl hl.1 (Nat.le_of_ble_eq_true rfl) dX11_ends_58 ⟨Nat.le_of_ble_eq_true rfl, Nat.le_of_ble_eq_true rfl⟩ ⟨Nat.le_of_ble_eq_true rfl, Nat.le_of_ble_eq_true rfl⟩ hS (by have hz9 := hS.1; rintro q (h | h) <;> first | exact Or.inr (by omega) | exact h.elim | exact Or.inl h | (simp only [ftA] at h ⊢; omega)) (fun v H1 locs hpo hfr hS => ?_)
      obtain ⟨rfl, wi2_5, hi2_6, bk2_7, ot2_8, hR, hAp⟩ := hpo
      generalize H1 = H at hfr hS hR hAp ⊢
      refine W.widen (k := 0) (n := 0) (Nat.le_of_ble_eq_true rfl) (Nat.le_of_ble_eq_true rfl) ?_
      refine mb_if_eq (tgt := 77) hB dX11_ends_61 (by decide) (fun h_61 => ?_) (fun h_61 => ?_)
      · skip
        have hno : applS s1 (wi, hi, ci) = none := by
          cases hq : applS s1 (wi, hi, ci) with
          | none => rfl
          | some x9 => rw [hq] at h_61; cases h_61
        refine lv_aload_n hx hb dX11_ends_77 rfl (lv_at hl 0 rfl) ?_
        refine lv_aload_n hx hb dX11_ends_78 rfl (lv_at hl 0 rfl) ?_
        refine gf_X11_107 hB hR.o rfl dX11_ends_79 ?_
        refine pf_X11_104 hB hR.o (by first | exact Or.inl rfl | (simp only [ftA]; omega) | (simp [ftA]; omega)) hS rfl rfl (Nat.le_of_ble_eq_true rfl) dX11_ends_82 (fun H locs hwr => ?_)
        obtain ⟨hR, hS⟩ := hR.w_zer hwr
        refine lv_goto (tgt := 0) hx hb dX11_ends_85 (by decide) ?_
        refine lv_aload_n hx hb dX11_ends_0 rfl (lv_at hl 0 rfl) ?_
        refine gf_X11_87 hB hR.o rfl dX11_ends_1 ?_
        refine mn_if_le (tgt := 88) hB dX11_ends_4 (by decide) (by omega) (fun h => by exfalso; omega) (fun h_4 => ?_)
        refine lv_aload_n hx hb dX11_ends_7 rfl (lv_at hl 0 rfl) ?_
        refine gf_X11_29 hB hR.o rfl dX11_ends_8 ?_
        refine lv_aload_n hx hb dX11_ends_11 rfl (lv_at hl 0 rfl) ?_
        refine gf_X11_87 hB hR.o rfl dX11_ends_12 ?_
        refine lv_iconst (v := nI 1) hx hb dX11_ends_15 (by decide) ?_
        refine mn_isub hB dX11_ends_16 (by omega) ?_
        refine mh_top (y := .int (nI rest.length)) (by rw [Nat.add_sub_cancel]) ?_
        refine mn_iald hB hR.a_zsg (by omega) (by omega) dX11_ends_17 ?_
        refine mh_top (y := .int (nI s1)) (by rw [a1]) ?_
        refine cl_X11_100 (As := [.int (nI s1)]) (rest := []) hB (c_X11_isBefore l g H s1 (a5)) rfl hl.1 (Nat.le_of_ble_eq_true rfl) dX11_ends_18 ⟨Nat.le_of_ble_eq_true rfl, Nat.le_of_ble_eq_true rfl⟩ ⟨Nat.le_of_ble_eq_true rfl, Nat.le_of_ble_eq_true rfl⟩ hS (by have hz9 := hS.1; rintro q (h | h) <;> first | exact Or.inr (by omega) | exact h.elim | exact Or.inl h | (simp only [ftA] at h ⊢; omega)) (fun v H1 locs hpo hfr hS => ?_)
        obtain ⟨rfl, rfl⟩ := hpo
        refine W.widen (k := 0) (n := 0) (Nat.le_of_ble_eq_true rfl) (Nat.le_of_ble_eq_true rfl) ?_
        refine mb_if_eq (tgt := 88) hB dX11_ends_21 (by decide) (fun h => absurd (hbf.symm.trans h) (by decide)) (fun h_21 => ?_)
        refine lv_aload_n hx hb dX11_ends_24 rfl (lv_at hl 0 rfl) ?_
        refine gf_X11_104 hB hR.o rfl dX11_ends_25 ?_
        refine mn_if_ge (tgt := 88) hB dX11_ends_28 (by decide) (by omega) (fun h_28 => ?_) (fun h => by exfalso; omega)
        refine lv_aload_n hx hb dX11_ends_88 rfl (lv_at hl 0 rfl) ?_
        refine gf_X11_104 hB hR.o rfl dX11_ends_89 ?_
        refine mn_if_lt (tgt := 96) hB dX11_ends_92 (by decide) (by omega) (fun h => by exfalso; omega) (fun h_92 => ?_)
        refine mh_vret hB ⟨Nat.le_of_ble_eq_true rfl, Nat.le_of_ble_eq_true rfl⟩ hS dX11_ends_95 ⟨?_, (nI (rest.length + 1)), (nI p1), wi2_5, hi2_6, bk2_7, ot2_8, zwd, zhg, zin, (nI p1), (nI 0), ?_, ?_⟩
        · rfl
        · exact hR
        · rw [← hEi, endS_bad (it := (s1, p1, w1, h1, c1)) hbf hno]
          rfl
      · skip
        obtain ⟨b2, hb2⟩ := Option.isSome_iff_exists.mp h_61
        obtain ⟨e1, e2, hkn⟩ := hAp b2 hb2
        have hbn := applS_ok (sg := s1) ⟨hb91, hb92, hb93, hb94, hb95⟩ (by have := of_decide_eq_true hbf; omega) hb2
        subst e1
        subst e2
        refine lv_aload_n hx hb dX11_ends_64 rfl (lv_at hl 0 rfl) ?_
        refine lv_dup hx hb dX11_ends_65 rfl ?_
        refine gf_X11_87 hB hR.o rfl dX11_ends_66 ?_
        refine lv_iconst (v := nI 1) hx hb dX11_ends_69 (by decide) ?_
        refine mn_isub hB dX11_ends_70 (by omega) ?_
        refine mh_top (y := .int (nI rest.length)) (by rw [Nat.add_sub_cancel]) ?_
        refine pf_X11_87 hB hR.o (by first | exact Or.inl rfl | (simp only [ftA]; omega) | (simp [ftA]; omega)) hS rfl rfl (Nat.le_of_ble_eq_true rfl) dX11_ends_71 (fun H locs hwr => ?_)
        obtain ⟨hR, hS⟩ := hR.w_zop hwr
        refine lv_goto (tgt := 0) hx hb dX11_ends_74 (by decide) ?_
        refine ih0 (rest, b2.1, b2.2.1, b2.2.2, p1, bk2_7, ot2_8) _ _ _ ⟨(hLr), (hIi.2), (by omega), (hbn), (hkn), (hIi.1.2.1), ((endS_app (rest := rest) (it := (s1, p1, w1, h1, c1)) hbf hb2).symm.trans hEi), hR, hS, lv_sub hl [0] rfl⟩ (by dsimp only [List.length_cons]; omega)
