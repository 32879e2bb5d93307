def rm_c_X11_isBefore : Room := { frames := 0, cells := 0, slots := 0, locals := 0 }
set_option maxRecDepth 100000 in
set_option maxHeartbeats 400000 in
theorem c_X11_isBefore (l : Launch) (g : GG) (H0 : Heap) (sg : Nat) (hsg : sg < 256) : Ct l yX11_isBefore cX11_isBefore 1 (some .boolean) rm_c_X11_isBefore g [.int (nI sg)] H0 (ftA (fun _ => False) H0.size) (fun v H1 => v = some (.int (bI (decide (¬ sg = 40 ∧ ¬ sg = 91)))) ∧ H0 = H1) := by
  refine Ct.of (by decide) (fun _ h => Or.inr h) (Nat.le_of_ble_eq_true rfl) ?_
  intro p e s m below meth c ls hB hin hS hH hl
  have hx := hB.x
  have hb := hB.b
  have hl : lv_has ls 1 [(0, .int (nI sg))] := hl
  refine lv_iload_n hx hb dX11_isBefore_0 rfl (lv_at hl 0 rfl) ?_
  refine lv_bipush (v := nI 40) hx hb dX11_isBefore_1 (by decide) ?_
  refine mn_icmp_eq (tgt := 16) hB dX11_isBefore_3 (by decide) (by omega) (by omega) (fun h_3 => ?_) (fun h_3 => ?_)
  · skip
    refine lv_iconst (v := nI 0) hx hb dX11_isBefore_16 (by decide) ?_
    refine mh_zret hB ⟨Nat.le_of_ble_eq_true rfl, Nat.le_of_ble_eq_true rfl⟩ hS dX11_isBefore_17 (by first | rfl | decide | (split <;> rfl)) ⟨?_, rfl⟩
    · first | (rw [show decide (¬ sg = 40 ∧ ¬ sg = 91) = true from by (simp only [decide_eq_true_eq]; omega)]; rfl) | (rw [show decide (¬ sg = 40 ∧ ¬ sg = 91) = false from by (simp only [decide_eq_false_iff_not]; omega)]; rfl)
  · skip
    refine lv_iload_n hx hb dX11_isBefore_6 rfl (lv_at hl 0 rfl) ?_
    refine lv_bipush (v := nI 91) hx hb dX11_isBefore_7 (by decide) ?_
    refine mn_icmp_eq (tgt := 16) hB dX11_isBefore_9 (by decide) (by omega) (by omega) (fun h_9 => ?_) (fun h_9 => ?_)
    · skip
      refine lv_iconst (v := nI 0) hx hb dX11_isBefore_16 (by decide) ?_
      refine mh_zret hB ⟨Nat.le_of_ble_eq_true rfl, Nat.le_of_ble_eq_true rfl⟩ hS dX11_isBefore_17 (by first | rfl | decide | (split <;> rfl)) ⟨?_, rfl⟩
      · first | (rw [show decide (¬ sg = 40 ∧ ¬ sg = 91) = true from by (simp only [decide_eq_true_eq]; omega)]; rfl) | (rw [show decide (¬ sg = 40 ∧ ¬ sg = 91) = false from by (simp only [decide_eq_false_iff_not]; omega)]; rfl)
    · skip
      refine lv_iconst (v := nI 1) hx hb dX11_isBefore_12 (by decide) ?_
      refine lv_goto (tgt := 17) hx hb dX11_isBefore_13 (by decide) ?_
      refine mh_zret hB ⟨Nat.le_of_ble_eq_true rfl, Nat.le_of_ble_eq_true rfl⟩ hS dX11_isBefore_17 (by first | rfl | decide | (split <;> rfl)) ⟨?_, rfl⟩
      · first | (rw [show decide (¬ sg = 40 ∧ ¬ sg = 91) = true from by (simp only [decide_eq_true_eq]; omega)]; rfl) | (rw [show decide (¬ sg = 40 ∧ ¬ sg = 91) = false from by (simp only [decide_eq_false_iff_not]; omega)]; rfl)

def rm_c_X11_opens : Room := { frames := 0, cells := 0, slots := 0, locals := 0 }
set_option maxRecDepth 100000 in
set_option maxHeartbeats 400000 in
theorem c_X11_opens (l : Launch) (g : GG) (H0 : Heap) (r : Nat) (zq : Nat → Int32) (zsp : Nat → Int32) (zrm : Nat → Int32) (zst : Int32) (zsl : Nat → Int32) (zsv : Nat → Int32) (ztx : Nat → Int32) (zln : Int32) (zth : Int32) (zsg : Nat → Int32) (zbg : Nat → Int32) (zwd : Nat → Int32) (zhg : Nat → Int32) (zin : Nat → Int32) (zbe : Int32) (zwi : Int32) (zhi : Int32) (zbk : Nat → Int32) (zot : Nat → Int32) (zer : Int32) (zen : Int32) (zpo : Nat → Int32) (zpi : Int32) (zgr : Int32) (zsh : Nat → Int32) (zsn : Int32) (n : Nat) (sg : Nat) (pl : Nat) (hR : ModAt g r zq zsp zrm zst zsl zsv ztx zln zth zsg zbg zwd zhg zin (nI n) zbe zwi zhi zbk zot zer zen zpo zpi zgr zsh zsn H0) (hn : n < 60) : Ct l yX11_opens cX11_opens 3 none rm_c_X11_opens g [.ref r, .int (nI sg), .int (nI pl)] H0 (ftA (fun q => r ≤ q ∧ q < r + 16) H0.size) (fun v H1 => v = none ∧ ModAt g r zq zsp zrm zst zsl zsv ztx zln zth (upd zsg n (nI sg)) (upd zbg n (nI pl)) (upd zwd n (nI 0)) (upd zhg n (nI 0)) zin (nI (n + 1)) zbe zwi zhi zbk zot zer zen zpo zpi zgr zsh zsn H1) := by
  refine Ct.of (by decide) (fun _ h => Or.inr h) (Nat.le_of_ble_eq_true rfl) ?_
  intro p e s m below meth c ls hB hin hS hH hl
  have hx := hB.x
  have hb := hB.b
  have hl : lv_has ls 3 [(0, .ref r), (1, .int (nI sg)), (2, .int (nI pl))] := hl
  refine lv_aload_n hx hb dX11_opens_0 rfl (lv_at hl 0 rfl) ?_
  refine gf_X11_29 hB hR.o rfl dX11_opens_1 ?_
  refine lv_aload_n hx hb dX11_opens_4 rfl (lv_at hl 0 rfl) ?_
  refine gf_X11_87 hB hR.o rfl dX11_opens_5 ?_
  refine lv_iload_n hx hb dX11_opens_8 rfl (lv_at hl 1 rfl) ?_
  refine mn_iast hB hR.a_zsg (by first | exact Or.inl rfl | (simp only [ftA]; omega) | (simp [ftA]; omega)) hS (by omega) (by omega) dX11_opens_9 (fun H locs hwr => ?_)
  obtain ⟨hR, hS⟩ := hR.w_zsg hwr
  refine lv_aload_n hx hb dX11_opens_10 rfl (lv_at hl 0 rfl) ?_
  refine gf_X11_32 hB hR.o rfl dX11_opens_11 ?_
  refine lv_aload_n hx hb dX11_opens_14 rfl (lv_at hl 0 rfl) ?_
  refine gf_X11_87 hB hR.o rfl dX11_opens_15 ?_
  refine lv_iload_n hx hb dX11_opens_18 rfl (lv_at hl 2 rfl) ?_
  refine mn_iast hB hR.a_zbg (by first | exact Or.inl rfl | (simp only [ftA]; omega) | (simp [ftA]; omega)) hS (by omega) (by omega) dX11_opens_19 (fun H locs hwr => ?_)
  obtain ⟨hR, hS⟩ := hR.w_zbg hwr
  refine lv_aload_n hx hb dX11_opens_20 rfl (lv_at hl 0 rfl) ?_
  refine gf_X11_35 hB hR.o rfl dX11_opens_21 ?_
  refine lv_aload_n hx hb dX11_opens_24 rfl (lv_at hl 0 rfl) ?_
  refine gf_X11_87 hB hR.o rfl dX11_opens_25 ?_
  refine lv_iconst (v := nI 0) hx hb dX11_opens_28 (by decide) ?_
  refine mn_iast hB hR.a_zwd (by first | exact Or.inl rfl | (simp only [ftA]; omega) | (simp [ftA]; omega)) hS (by omega) (by omega) dX11_opens_29 (fun H locs hwr => ?_)
  obtain ⟨hR, hS⟩ := hR.w_zwd hwr
  refine lv_aload_n hx hb dX11_opens_30 rfl (lv_at hl 0 rfl) ?_
  refine gf_X11_38 hB hR.o rfl dX11_opens_31 ?_
  refine lv_aload_n hx hb dX11_opens_34 rfl (lv_at hl 0 rfl) ?_
  refine gf_X11_87 hB hR.o rfl dX11_opens_35 ?_
  refine lv_iconst (v := nI 0) hx hb dX11_opens_38 (by decide) ?_
  refine mn_iast hB hR.a_zhg (by first | exact Or.inl rfl | (simp only [ftA]; omega) | (simp [ftA]; omega)) hS (by omega) (by omega) dX11_opens_39 (fun H locs hwr => ?_)
  obtain ⟨hR, hS⟩ := hR.w_zhg hwr
  refine lv_aload_n hx hb dX11_opens_40 rfl (lv_at hl 0 rfl) ?_
  refine lv_dup hx hb dX11_opens_41 rfl ?_
  refine gf_X11_87 hB hR.o rfl dX11_opens_42 ?_
  refine lv_iconst (v := nI 1) hx hb dX11_opens_45 (by decide) ?_
  refine mn_iadd hB dX11_opens_46 ?_
  refine pf_X11_87 hB hR.o (by first | exact Or.inl rfl | (simp only [ftA]; omega) | (simp [ftA]; omega)) hS rfl rfl (Nat.le_of_ble_eq_true rfl) dX11_opens_47 (fun H locs hwr => ?_)
  obtain ⟨hR, hS⟩ := hR.w_zop hwr
  refine mh_vret hB ⟨Nat.le_of_ble_eq_true rfl, Nat.le_of_ble_eq_true rfl⟩ hS dX11_opens_50 ⟨?_, ?_⟩
  · rfl
  · exact hR

def rm_c_X11_closes : Room := { frames := 0, cells := 0, slots := 0, locals := 0 }
set_option maxRecDepth 100000 in
set_option maxHeartbeats 400000 in
theorem c_X11_closes (l : Launch) (g : GG) (H0 : Heap) (r : Nat) (zq : Nat → Int32) (zsp : Nat → Int32) (zrm : Nat → Int32) (zst : Int32) (zsl : Nat → Int32) (zsv : Nat → Int32) (ztx : Nat → Int32) (zln : Int32) (zth : Int32) (zsg : Nat → Int32) (zbg : Nat → Int32) (zwd : Nat → Int32) (zhg : Nat → Int32) (zin : Nat → Int32) (zbe : Int32) (zwi : Int32) (zhi : Int32) (zbk : Nat → Int32) (zot : Nat → Int32) (zer : Int32) (zen : Int32) (zpo : Nat → Int32) (zpi : Int32) (zgr : Int32) (zsh : Nat → Int32) (zsn : Int32) (n : Nat) (cc1 : Nat) (w1 : Nat) (s1 : Nat) (hR : ModAt g r zq zsp zrm zst zsl zsv ztx zln zth zsg zbg zwd zhg zin (nI n) zbe zwi zhi zbk zot zer zen zpo zpi zgr zsh zsn H0) (hn : n ≤ 60) (hcc : cc1 < 256) (h1 : 0 < n → zwd (n - 1) = nI w1 ∧ zsg (n - 1) = nI s1) (hw1 : w1 ≤ 16) (hs1 : s1 < 256) : Ct l yX11_closes cX11_closes 2 (some .boolean) rm_c_X11_closes g [.ref r, .int (nI cc1)] H0 (ftA (fun _ => False) H0.size) (fun v H1 => v = some (.int (bI (decide (0 < n ∧ 0 < w1 ∧ (cc1 = 41 ∧ s1 = 40 ∨ cc1 = 93 ∧ s1 = 91))))) ∧ H0 = H1) := by
  refine Ct.of (by decide) (fun _ h => Or.inr h) (Nat.le_of_ble_eq_true rfl) ?_
  intro p e s m below meth c ls hB hin hS hH hl
  have hx := hB.x
  have hb := hB.b
  have hl : lv_has ls 2 [(0, .ref r), (1, .int (nI cc1))] := hl
  refine lv_aload_n hx hb dX11_closes_0 rfl (lv_at hl 0 rfl) ?_
  refine gf_X11_87 hB hR.o rfl dX11_closes_1 ?_
  refine mn_if_eq (tgt := 21) hB dX11_closes_4 (by decide) (by omega) (fun h_4 => ?_) (fun h_4 => ?_)
  · skip
    refine lv_iconst (v := nI 0) hx hb dX11_closes_21 (by decide) ?_
    refine mh_zret hB ⟨Nat.le_of_ble_eq_true rfl, Nat.le_of_ble_eq_true rfl⟩ hS dX11_closes_22 (by first | rfl | decide | (split <;> rfl)) ⟨?_, rfl⟩
    · first | (rw [show decide (0 < n ∧ 0 < w1 ∧ (cc1 = 41 ∧ s1 = 40 ∨ cc1 = 93 ∧ s1 = 91)) = true from by (simp only [decide_eq_true_eq]; omega)]; rfl) | (rw [show decide (0 < n ∧ 0 < w1 ∧ (cc1 = 41 ∧ s1 = 40 ∨ cc1 = 93 ∧ s1 = 91)) = false from by (simp only [decide_eq_false_iff_not]; omega)]; rfl)
  · skip
    refine lv_aload_n hx hb dX11_closes_7 rfl (lv_at hl 0 rfl) ?_
    refine gf_X11_35 hB hR.o rfl dX11_closes_8 ?_
    refine lv_aload_n hx hb dX11_closes_11 rfl (lv_at hl 0 rfl) ?_
    refine gf_X11_87 hB hR.o rfl dX11_closes_12 ?_
    refine lv_iconst (v := nI 1) hx hb dX11_closes_15 (by decide) ?_
    refine mn_isub hB dX11_closes_16 (by omega) ?_
    refine mn_iald hB hR.a_zwd (by omega) (by omega) dX11_closes_17 ?_
    refine mh_top (y := .int (nI w1)) (by rw [(h1 (by omega)).1]) ?_
    refine mn_if_ne (tgt := 23) hB dX11_closes_18 (by decide) (by omega) (fun h_18 => ?_) (fun h_18 => ?_)
    · skip
      refine lv_iload_n hx hb dX11_closes_23 rfl (lv_at hl 1 rfl) ?_
      refine lv_bipush (v := nI 41) hx hb dX11_closes_24 (by decide) ?_
      refine mn_icmp_ne (tgt := 45) hB dX11_closes_26 (by decide) (by omega) (by omega) (fun h_26 => ?_) (fun h_26 => ?_)
      · skip
        refine lv_iload_n hx hb dX11_closes_45 rfl (lv_at hl 1 rfl) ?_
        refine lv_bipush (v := nI 93) hx hb dX11_closes_46 (by decide) ?_
        refine mn_icmp_ne (tgt := 71) hB dX11_closes_48 (by decide) (by omega) (by omega) (fun h_48 => ?_) (fun h_48 => ?_)
        · skip
          refine lv_iconst (v := nI 0) hx hb dX11_closes_71 (by decide) ?_
          refine mh_zret hB ⟨Nat.le_of_ble_eq_true rfl, Nat.le_of_ble_eq_true rfl⟩ hS dX11_closes_72 (by first | rfl | decide | (split <;> rfl)) ⟨?_, rfl⟩
          · first | (rw [show decide (0 < n ∧ 0 < w1 ∧ (cc1 = 41 ∧ s1 = 40 ∨ cc1 = 93 ∧ s1 = 91)) = true from by (simp only [decide_eq_true_eq]; omega)]; rfl) | (rw [show decide (0 < n ∧ 0 < w1 ∧ (cc1 = 41 ∧ s1 = 40 ∨ cc1 = 93 ∧ s1 = 91)) = false from by (simp only [decide_eq_false_iff_not]; omega)]; rfl)
        · skip
          refine lv_aload_n hx hb dX11_closes_51 rfl (lv_at hl 0 rfl) ?_
          refine gf_X11_29 hB hR.o rfl dX11_closes_52 ?_
          refine lv_aload_n hx hb dX11_closes_55 rfl (lv_at hl 0 rfl) ?_
          refine gf_X11_87 hB hR.o rfl dX11_closes_56 ?_
          refine lv_iconst (v := nI 1) hx hb dX11_closes_59 (by decide) ?_
          refine mn_isub hB dX11_closes_60 (by omega) ?_
          refine mn_iald hB hR.a_zsg (by omega) (by omega) dX11_closes_61 ?_
          refine mh_top (y := .int (nI s1)) (by rw [(h1 (by omega)).2]) ?_
          refine lv_bipush (v := nI 91) hx hb dX11_closes_62 (by decide) ?_
          refine mn_icmp_ne (tgt := 71) hB dX11_closes_64 (by decide) (by omega) (by omega) (fun h_64 => ?_) (fun h_64 => ?_)
          · skip
            refine lv_iconst (v := nI 0) hx hb dX11_closes_71 (by decide) ?_
            refine mh_zret hB ⟨Nat.le_of_ble_eq_true rfl, Nat.le_of_ble_eq_true rfl⟩ hS dX11_closes_72 (by first | rfl | decide | (split <;> rfl)) ⟨?_, rfl⟩
            · first | (rw [show decide (0 < n ∧ 0 < w1 ∧ (cc1 = 41 ∧ s1 = 40 ∨ cc1 = 93 ∧ s1 = 91)) = true from by (simp only [decide_eq_true_eq]; omega)]; rfl) | (rw [show decide (0 < n ∧ 0 < w1 ∧ (cc1 = 41 ∧ s1 = 40 ∨ cc1 = 93 ∧ s1 = 91)) = false from by (simp only [decide_eq_false_iff_not]; omega)]; rfl)
          · skip
            refine lv_iconst (v := nI 1) hx hb dX11_closes_67 (by decide) ?_
            refine lv_goto (tgt := 72) hx hb dX11_closes_68 (by decide) ?_
            refine mh_zret hB ⟨Nat.le_of_ble_eq_true rfl, Nat.le_of_ble_eq_true rfl⟩ hS dX11_closes_72 (by first | rfl | decide | (split <;> rfl)) ⟨?_, rfl⟩
            · first | (rw [show decide (0 < n ∧ 0 < w1 ∧ (cc1 = 41 ∧ s1 = 40 ∨ cc1 = 93 ∧ s1 = 91)) = true from by (simp only [decide_eq_true_eq]; omega)]; rfl) | (rw [show decide (0 < n ∧ 0 < w1 ∧ (cc1 = 41 ∧ s1 = 40 ∨ cc1 = 93 ∧ s1 = 91)) = false from by (simp only [decide_eq_false_iff_not]; omega)]; rfl)
      · skip
        refine lv_aload_n hx hb dX11_closes_29 rfl (lv_at hl 0 rfl) ?_
        refine gf_X11_29 hB hR.o rfl dX11_closes_30 ?_
        refine lv_aload_n hx hb dX11_closes_33 rfl (lv_at hl 0 rfl) ?_
        refine gf_X11_87 hB hR.o rfl dX11_closes_34 ?_
        refine lv_iconst (v := nI 1) hx hb dX11_closes_37 (by decide) ?_
        refine mn_isub hB dX11_closes_38 (by omega) ?_
        refine mn_iald hB hR.a_zsg (by omega) (by omega) dX11_closes_39 ?_
        refine mh_top (y := .int (nI s1)) (by rw [(h1 (by omega)).2]) ?_
        refine lv_bipush (v := nI 40) hx hb dX11_closes_40 (by decide) ?_
        refine mn_icmp_eq (tgt := 67) hB dX11_closes_42 (by decide) (by omega) (by omega) (fun h_42 => ?_) (fun h_42 => ?_)
        · skip
          refine lv_iconst (v := nI 1) hx hb dX11_closes_67 (by decide) ?_
          refine lv_goto (tgt := 72) hx hb dX11_closes_68 (by decide) ?_
          refine mh_zret hB ⟨Nat.le_of_ble_eq_true rfl, Nat.le_of_ble_eq_true rfl⟩ hS dX11_closes_72 (by first | rfl | decide | (split <;> rfl)) ⟨?_, rfl⟩
          · first | (rw [show decide (0 < n ∧ 0 < w1 ∧ (cc1 = 41 ∧ s1 = 40 ∨ cc1 = 93 ∧ s1 = 91)) = true from by (simp only [decide_eq_true_eq]; omega)]; rfl) | (rw [show decide (0 < n ∧ 0 < w1 ∧ (cc1 = 41 ∧ s1 = 40 ∨ cc1 = 93 ∧ s1 = 91)) = false from by (simp only [decide_eq_false_iff_not]; omega)]; rfl)
        · skip
          refine lv_iload_n hx hb dX11_closes_45 rfl (lv_at hl 1 rfl) ?_
          refine lv_bipush (v := nI 93) hx hb dX11_closes_46 (by decide) ?_
          refine mn_icmp_ne (tgt := 71) hB dX11_closes_48 (by decide) (by omega) (by omega) (fun h_48 => ?_) (fun h_48 => ?_)
          · skip
            refine lv_iconst (v := nI 0) hx hb dX11_closes_71 (by decide) ?_
            refine mh_zret hB ⟨Nat.le_of_ble_eq_true rfl, Nat.le_of_ble_eq_true rfl⟩ hS dX11_closes_72 (by first | rfl | decide | (split <;> rfl)) ⟨?_, rfl⟩
            · first | (rw [show decide (0 < n ∧ 0 < w1 ∧ (cc1 = 41 ∧ s1 = 40 ∨ cc1 = 93 ∧ s1 = 91)) = true from by (simp only [decide_eq_true_eq]; omega)]; rfl) | (rw [show decide (0 < n ∧ 0 < w1 ∧ (cc1 = 41 ∧ s1 = 40 ∨ cc1 = 93 ∧ s1 = 91)) = false from by (simp only [decide_eq_false_iff_not]; omega)]; rfl)
          · skip
            refine lv_aload_n hx hb dX11_closes_51 rfl (lv_at hl 0 rfl) ?_
            refine gf_X11_29 hB hR.o rfl dX11_closes_52 ?_
            refine lv_aload_n hx hb dX11_closes_55 rfl (lv_at hl 0 rfl) ?_
            refine gf_X11_87 hB hR.o rfl dX11_closes_56 ?_
            refine lv_iconst (v := nI 1) hx hb dX11_closes_59 (by decide) ?_
            refine mn_isub hB dX11_closes_60 (by omega) ?_
            refine mn_iald hB hR.a_zsg (by omega) (by omega) dX11_closes_61 ?_
            refine mh_top (y := .int (nI s1)) (by rw [(h1 (by omega)).2]) ?_
            refine lv_bipush (v := nI 91) hx hb dX11_closes_62 (by decide) ?_
            refine mn_icmp_ne (tgt := 71) hB dX11_closes_64 (by decide) (by omega) (by omega) (fun h_64 => ?_) (fun h_64 => ?_)
            · skip
              refine lv_iconst (v := nI 0) hx hb dX11_closes_71 (by decide) ?_
              refine mh_zret hB ⟨Nat.le_of_ble_eq_true rfl, Nat.le_of_ble_eq_true rfl⟩ hS dX11_closes_72 (by first | rfl | decide | (split <;> rfl)) ⟨?_, rfl⟩
              · first | (rw [show decide (0 < n ∧ 0 < w1 ∧ (cc1 = 41 ∧ s1 = 40 ∨ cc1 = 93 ∧ s1 = 91)) = true from by (simp only [decide_eq_true_eq]; omega)]; rfl) | (rw [show decide (0 < n ∧ 0 < w1 ∧ (cc1 = 41 ∧ s1 = 40 ∨ cc1 = 93 ∧ s1 = 91)) = false from by (simp only [decide_eq_false_iff_not]; omega)]; rfl)
            · skip
              refine lv_iconst (v := nI 1) hx hb dX11_closes_67 (by decide) ?_
              refine lv_goto (tgt := 72) hx hb dX11_closes_68 (by decide) ?_
              refine mh_zret hB ⟨Nat.le_of_ble_eq_true rfl, Nat.le_of_ble_eq_true rfl⟩ hS dX11_closes_72 (by first | rfl | decide | (split <;> rfl)) ⟨?_, rfl⟩
              · first | (rw [show decide (0 < n ∧ 0 < w1 ∧ (cc1 = 41 ∧ s1 = 40 ∨ cc1 = 93 ∧ s1 = 91)) = true from by (simp only [decide_eq_true_eq]; omega)]; rfl) | (rw [show decide (0 < n ∧ 0 < w1 ∧ (cc1 = 41 ∧ s1 = 40 ∨ cc1 = 93 ∧ s1 = 91)) = false from by (simp only [decide_eq_false_iff_not]; omega)]; rfl)
    · skip
      refine lv_iconst (v := nI 0) hx hb dX11_closes_21 (by decide) ?_
      refine mh_zret hB ⟨Nat.le_of_ble_eq_true rfl, Nat.le_of_ble_eq_true rfl⟩ hS dX11_closes_22 (by first | rfl | decide | (split <;> rfl)) ⟨?_, rfl⟩
      · first | (rw [show decide (0 < n ∧ 0 < w1 ∧ (cc1 = 41 ∧ s1 = 40 ∨ cc1 = 93 ∧ s1 = 91)) = true from by (simp only [decide_eq_true_eq]; omega)]; rfl) | (rw [show decide (0 < n ∧ 0 < w1 ∧ (cc1 = 41 ∧ s1 = 40 ∨ cc1 = 93 ∧ s1 = 91)) = false from by (simp only [decide_eq_false_iff_not]; omega)]; rfl)

def rm_c_X11_isLinked : Room := { frames := 2, cells := 0, slots := 0, locals := 43 }
set_option maxRecDepth 100000 in
set_option maxHeartbeats 400000 in
theorem c_X11_isLinked (l : Launch) (g : GG) (H0 : Heap) (r : Nat) (zq : Nat → Int32) (zsp : Nat → Int32) (zrm : Nat → Int32) (zst : Int32) (zsl : Nat → Int32) (zsv : Nat → Int32) (ztx : Nat → Int32) (zln : Int32) (zth : Int32) (zsg : Nat → Int32) (zbg : Nat → Int32) (zwd : Nat → Int32) (zhg : Nat → Int32) (zin : Nat → Int32) (zop : Int32) (zbe : Int32) (zwi : Int32) (zhi : Int32) (zbk : Nat → Int32) (zot : Nat → Int32) (zer : Int32) (zen : Int32) (zpo : Nat → Int32) (zpi : Int32) (zgr : Int32) (zsh : Nat → Int32) (zsn : Int32) (f : Nat) (a : Nat) (b : Nat) (pa : Nat) (pb : Nat) (hR : ModAt g r zq zsp zrm zst zsl zsv ztx zln zth zsg zbg zwd zhg zin zop zbe zwi zhi zbk zot zer zen zpo zpi zgr zsh zsn H0) (hf : f < 3) (hF : WFf zq f) (ha : a < 256) (hb8 : b < 256) (hpa : zpo a = nI pa) (hpb : zpo b = nI pb) (hpa2 : pa < 256) (hpb2 : pb < 256) : Ct l yX11_isLinked cX11_isLinked 5 (some .boolean) rm_c_X11_isLinked g [.ref r, .int (nI f), .int (nI a), .int (nI b)] H0 (ftA (fun q => r ≤ q ∧ q < r + 16) H0.size) (fun v H1 => v = some (.int (bI (lnkB zq f a b pa pb))) ∧ ModAt g r zq zsp zrm zst zsl zsv ztx zln zth zsg zbg zwd zhg zin zop zbe zwi zhi zbk zot zer zen (lnkQ zq f a b pa pb zpo) zpi zgr zsh zsn H1) := by
  refine Ct.of (by decide) (fun _ h => Or.inr h) (Nat.le_of_ble_eq_true rfl) ?_
  intro p e s m below meth c ls hB hin hS hH hl
  have hx := hB.x
  have hb := hB.b
  have hl : lv_has ls 5 [(0, .ref r), (1, .int (nI f)), (2, .int (nI a)), (3, .int (nI b))] := hl
  refine lv_aload_n hx hb dX11_isLinked_0 rfl (lv_at hl 0 rfl) ?_
  refine lv_iload_n hx hb dX11_isLinked_1 rfl (lv_at hl 1 rfl) ?_
  refine lv_iload_n hx hb dX11_isLinked_2 rfl (lv_at hl 2 rfl) ?_
  refine cl_X11_150 (As := [.int (nI f), .int (nI a)]) (rest := []) hB (c_X11_colourAt l g H0 r zq zsp zrm zst zsl zsv ztx zln zth zsg zbg zwd zhg zin zop zbe zwi zhi zbk zot zer zen zpo zpi zgr zsh zsn f a hR (by omega) (by omega) (ha)) hR.o rfl hl.1 (Nat.le_of_ble_eq_true rfl) dX11_isLinked_3 ⟨Nat.le_of_ble_eq_true rfl, Nat.le_of_ble_eq_true rfl⟩ ⟨Nat.le_of_ble_eq_true rfl, Nat.le_of_ble_eq_true rfl⟩ hS (by have hz9 := hS.1; rintro q (h | h) <;> first | exact Or.inr (by omega) | exact h.elim | exact Or.inl h | (simp only [ftA] at h ⊢; omega)) (fun v H1 locs hpo hfr hS => ?_)
  obtain ⟨rfl, rfl⟩ := hpo
  refine W.widen (k := 0) (n := 0) (Nat.le_of_ble_eq_true rfl) (Nat.le_of_ble_eq_true rfl) ?_
  refine lv_aload_n hx hb dX11_isLinked_6 rfl (lv_at hl 0 rfl) ?_
  refine lv_iload_n hx hb dX11_isLinked_7 rfl (lv_at hl 1 rfl) ?_
  refine lv_iload_n hx hb dX11_isLinked_8 rfl (lv_at hl 3 rfl) ?_
  refine cl_X11_150 (As := [.int (nI f), .int (nI b)]) (rest := [.int (nI (clF zq f a))]) hB (c_X11_colourAt l g H0 r zq zsp zrm zst zsl zsv ztx zln zth zsg zbg zwd zhg zin zop zbe zwi zhi zbk zot zer zen zpo zpi zgr zsh zsn f b hR (by omega) (by omega) (hb8)) hR.o rfl hl.1 (Nat.le_of_ble_eq_true rfl) dX11_isLinked_9 ⟨Nat.le_of_ble_eq_true rfl, Nat.le_of_ble_eq_true rfl⟩ ⟨Nat.le_of_ble_eq_true rfl, Nat.le_of_ble_eq_true rfl⟩ hS (by have hz9 := hS.1; rintro q (h | h) <;> first | exact Or.inr (by omega) | exact h.elim | exact Or.inl h | (simp only [ftA] at h ⊢; omega)) (fun v H1 locs hpo hfr hS => ?_)
  obtain ⟨rfl, rfl⟩ := hpo
  refine W.widen (k := 0) (n := 0) (Nat.le_of_ble_eq_true rfl) (Nat.le_of_ble_eq_true rfl) ?_
  have hc1 := hF.c6 ha
  have hc2 := hF.c6 hb8
  refine mn_icmp_ne (tgt := 30) hB dX11_isLinked_12 (by decide) (by omega) (by omega) (fun h_12 => ?_) (fun h_12 => ?_)
  · skip
    refine lv_iconst (v := nI 0) hx hb dX11_isLinked_30 (by decide) ?_
    refine mh_zret hB ⟨Nat.le_of_ble_eq_true rfl, Nat.le_of_ble_eq_true rfl⟩ hS dX11_isLinked_31 (by first | rfl | decide | (split <;> rfl)) ⟨?_, ?_⟩
    · rw [show lnkB zq f a b pa pb = false from decide_eq_false (by omega)]; rfl
    · rw [show lnkQ zq f a b pa pb zpo = zpo from if_neg (by rw [show lnkB zq f a b pa pb = false from decide_eq_false (by omega)]; decide)]; exact hR
  · skip
    refine lv_aload_n hx hb dX11_isLinked_15 rfl (lv_at hl 0 rfl) ?_
    refine gf_X11_50 hB hR.o rfl dX11_isLinked_16 ?_
    refine lv_iload_n hx hb dX11_isLinked_19 rfl (lv_at hl 2 rfl) ?_
    refine mn_iald hB hR.a_zpo (by omega) (by omega) dX11_isLinked_20 ?_
    refine mh_top (y := .int (nI pa)) (by rw [hpa]) ?_
    refine lv_aload_n hx hb dX11_isLinked_21 rfl (lv_at hl 0 rfl) ?_
    refine gf_X11_50 hB hR.o rfl dX11_isLinked_22 ?_
    refine lv_iload_n hx hb dX11_isLinked_25 rfl (lv_at hl 3 rfl) ?_
    refine mn_iald hB hR.a_zpo (by omega) (by omega) dX11_isLinked_26 ?_
    refine mh_top (y := .int (nI pb)) (by rw [hpb]) ?_
    refine mn_icmp_ne (tgt := 32) hB dX11_isLinked_27 (by decide) (by omega) (by omega) (fun h_27 => ?_) (fun h_27 => ?_)
    · skip
      refine lv_aload_n hx hb dX11_isLinked_32 rfl (lv_at hl 0 rfl) ?_
      refine gf_X11_50 hB hR.o rfl dX11_isLinked_33 ?_
      refine lv_iload_n hx hb dX11_isLinked_36 rfl (lv_at hl 2 rfl) ?_
      refine mn_iald hB hR.a_zpo (by omega) (by omega) dX11_isLinked_37 ?_
      refine mh_top (y := .int (nI pa)) (by rw [hpa]) ?_
      refine lv_aload_n hx hb dX11_isLinked_38 rfl (lv_at hl 0 rfl) ?_
      refine gf_X11_50 hB hR.o rfl dX11_isLinked_39 ?_
      refine lv_iload_n hx hb dX11_isLinked_42 rfl (lv_at hl 3 rfl) ?_
      refine mn_iald hB hR.a_zpo (by omega) (by omega) dX11_isLinked_43 ?_
      refine mh_top (y := .int (nI pb)) (by rw [hpb]) ?_
      refine mn_icmp_ge (tgt := 56) hB dX11_isLinked_44 (by decide) (by omega) (by omega) (fun h_44 => ?_) (fun h_44 => ?_)
      · skip
        refine lv_aload_n hx hb dX11_isLinked_56 rfl (lv_at hl 0 rfl) ?_
        refine gf_X11_50 hB hR.o rfl dX11_isLinked_57 ?_
        refine lv_iload_n hx hb dX11_isLinked_60 rfl (lv_at hl 3 rfl) ?_
        refine mn_iald hB hR.a_zpo (by omega) (by omega) dX11_isLinked_61 ?_
        refine mh_top (y := .int (nI pb)) (by rw [hpb]) ?_
        refine lv_istore (lv' := [(4, .int (nI pb)), (0, .ref r), (1, .int (nI f)), (2, .int (nI a)), (3, .int (nI b))]) hx hb dX11_isLinked_62 hl (by decide) rfl (fun ls hl => ?_)
        refine lv_aload_n hx hb dX11_isLinked_64 rfl (lv_at hl 1 rfl) ?_
        refine gf_X11_50 hB hR.o rfl dX11_isLinked_65 ?_
        refine lv_iload_n hx hb dX11_isLinked_68 rfl (lv_at hl 3 rfl) ?_
        refine lv_iload hx hb dX11_isLinked_69 (lv_at hl 0 rfl) ?_
        refine mn_iast hB hR.a_zpo (by first | exact Or.inl rfl | (simp only [ftA]; omega) | (simp [ftA]; omega)) hS (by omega) (by omega) dX11_isLinked_71 (fun H locs hwr => ?_)
        obtain ⟨hR, hS⟩ := hR.w_zpo hwr
        refine lv_aload_n hx hb dX11_isLinked_72 rfl (lv_at hl 1 rfl) ?_
        refine gf_X11_50 hB hR.o rfl dX11_isLinked_73 ?_
        refine lv_iload_n hx hb dX11_isLinked_76 rfl (lv_at hl 4 rfl) ?_
        refine lv_iload hx hb dX11_isLinked_77 (lv_at hl 0 rfl) ?_
        refine mn_iast hB hR.a_zpo (by first | exact Or.inl rfl | (simp only [ftA]; omega) | (simp [ftA]; omega)) hS (by omega) (by omega) dX11_isLinked_79 (fun H locs hwr => ?_)
        obtain ⟨hR, hS⟩ := hR.w_zpo hwr
        refine lv_iconst (v := nI 1) hx hb dX11_isLinked_80 (by decide) ?_
        refine mh_zret hB ⟨Nat.le_of_ble_eq_true rfl, Nat.le_of_ble_eq_true rfl⟩ hS dX11_isLinked_81 (by first | rfl | decide | (split <;> rfl)) ⟨?_, ?_⟩
        · rw [show lnkB zq f a b pa pb = true from decide_eq_true (by omega)]; rfl
        · have e9 : lnkQ zq f a b pa pb zpo = upd (upd zpo a (nI (if pa < pb then pa else pb))) b (nI (if pa < pb then pa else pb)) := if_pos (decide_eq_true (by omega))
          rw [e9]
          first | (rw [if_pos (by omega)]; exact hR) | (rw [if_neg (by omega)]; exact hR)
      · skip
        refine lv_aload_n hx hb dX11_isLinked_47 rfl (lv_at hl 0 rfl) ?_
        refine gf_X11_50 hB hR.o rfl dX11_isLinked_48 ?_
        refine lv_iload_n hx hb dX11_isLinked_51 rfl (lv_at hl 2 rfl) ?_
        refine mn_iald hB hR.a_zpo (by omega) (by omega) dX11_isLinked_52 ?_
        refine mh_top (y := .int (nI pa)) (by rw [hpa]) ?_
        refine lv_goto (tgt := 62) hx hb dX11_isLinked_53 (by decide) ?_
        refine lv_istore (lv' := [(4, .int (nI pa)), (0, .ref r), (1, .int (nI f)), (2, .int (nI a)), (3, .int (nI b))]) hx hb dX11_isLinked_62 hl (by decide) rfl (fun ls hl => ?_)
        refine lv_aload_n hx hb dX11_isLinked_64 rfl (lv_at hl 1 rfl) ?_
        refine gf_X11_50 hB hR.o rfl dX11_isLinked_65 ?_
        refine lv_iload_n hx hb dX11_isLinked_68 rfl (lv_at hl 3 rfl) ?_
        refine lv_iload hx hb dX11_isLinked_69 (lv_at hl 0 rfl) ?_
        refine mn_iast hB hR.a_zpo (by first | exact Or.inl rfl | (simp only [ftA]; omega) | (simp [ftA]; omega)) hS (by omega) (by omega) dX11_isLinked_71 (fun H locs hwr => ?_)
        obtain ⟨hR, hS⟩ := hR.w_zpo hwr
        refine lv_aload_n hx hb dX11_isLinked_72 rfl (lv_at hl 1 rfl) ?_
        refine gf_X11_50 hB hR.o rfl dX11_isLinked_73 ?_
        refine lv_iload_n hx hb dX11_isLinked_76 rfl (lv_at hl 4 rfl) ?_
        refine lv_iload hx hb dX11_isLinked_77 (lv_at hl 0 rfl) ?_
        refine mn_iast hB hR.a_zpo (by first | exact Or.inl rfl | (simp only [ftA]; omega) | (simp [ftA]; omega)) hS (by omega) (by omega) dX11_isLinked_79 (fun H locs hwr => ?_)
        obtain ⟨hR, hS⟩ := hR.w_zpo hwr
        refine lv_iconst (v := nI 1) hx hb dX11_isLinked_80 (by decide) ?_
        refine mh_zret hB ⟨Nat.le_of_ble_eq_true rfl, Nat.le_of_ble_eq_true rfl⟩ hS dX11_isLinked_81 (by first | rfl | decide | (split <;> rfl)) ⟨?_, ?_⟩
        · rw [show lnkB zq f a b pa pb = true from decide_eq_true (by omega)]; rfl
        · have e9 : lnkQ zq f a b pa pb zpo = upd (upd zpo a (nI (if pa < pb then pa else pb))) b (nI (if pa < pb then pa else pb)) := if_pos (decide_eq_true (by omega))
          rw [e9]
          first | (rw [if_pos (by omega)]; exact hR) | (rw [if_neg (by omega)]; exact hR)
    · skip
      refine lv_iconst (v := nI 0) hx hb dX11_isLinked_30 (by decide) ?_
      refine mh_zret hB ⟨Nat.le_of_ble_eq_true rfl, Nat.le_of_ble_eq_true rfl⟩ hS dX11_isLinked_31 (by first | rfl | decide | (split <;> rfl)) ⟨?_, ?_⟩
      · rw [show lnkB zq f a b pa pb = false from decide_eq_false (by omega)]; rfl
      · rw [show lnkQ zq f a b pa pb zpo = zpo from if_neg (by rw [show lnkB zq f a b pa pb = false from decide_eq_false (by omega)]; decide)]; exact hR
