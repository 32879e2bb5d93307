theorem nI_lt2 {a b : Nat} (ha : a < 2147483648) (hb : b < 2147483648) : (nI a < nI b) ↔ a < b := by
  exact nI_ltI ha hb
theorem min14 {n : Nat} (hn : n ≤ 14) : (if nI 14 < nI (n + 1) then nI 14 else nI (n + 1)) = nI (nxtS n) := by
  unfold nxtS
  by_cases h : n < 14
  · rw [if_pos h, if_neg (by rw [nI_lt2 (by omega) (by omega)]; omega)]
  · rw [if_neg h, if_pos (by rw [nI_lt2 (by omega) (by omega)]; omega)]

def rm_c_X2_init : Room := { frames := 1, cells := 1, slots := 14, locals := 20 }
set_option maxRecDepth 100000 in
set_option maxHeartbeats 400000 in
theorem c_X2_init (l : Launch) (g : GG) (H0 : Heap) (ob : Nat) (n0 : Nat) (hho : at_ g H0 ob (eO 2 [.null, .int (nI 0), .int (nI 0)])) (hsz : H0.size = n0) : Ct l yX2_init cX2_init 1 none rm_c_X2_init g [.ref ob] H0 (ftA (fun q9 => q9 = ob) H0.size) (fun v H1 => v = none ∧ at_ g H1 ob (eO 2 [.ref n0, .int (nI 0), .int (nI 0)]) ∧ at_ g H1 n0 (eQ g 7 14 (fun _ => none)) ∧ H1.size = n0 + 1) := by
  refine Ct.of (by decide) (fun _ h => Or.inr h) (Nat.le_of_ble_eq_true rfl) ?_
  intro p e s m below meth c ls hB hin hS hH hl
  have hx := hB.x
  have hb := hB.b
  have hl : lv_has ls 1 [(0, .ref ob)] := hl
  have hobl := hho.lt
  have hsz0 := hsz
  refine lv_aload_n hx hb dX2_init_0 rfl (lv_at hl 0 rfl) ?_
  refine ob_X2_3 hB hl.1 dX2_init_1 ⟨Nat.le_of_ble_eq_true rfl, Nat.le_of_ble_eq_true rfl⟩ ?_
  refine lv_aload_n hx hb dX2_init_4 rfl (lv_at hl 0 rfl) ?_
  refine lv_bipush (v := nI 14) hx hb dX2_init_5 (by decide) ?_
  refine mh_anew (C := RX8) (N' := 14) hB 7 rfl kw_188 kw_189 (nI_pos (by omega)) (nI_clamp (by omega)) (Nat.le_of_ble_eq_true rfl) hS (Nat.le_of_ble_eq_true rfl) (Nat.le_of_ble_eq_true rfl) dX2_init_7 (fun H1 hwr => ?_)
  obtain ⟨hqa, ho, hz, hS⟩ := hwr
  have hho := hho.kept (ho _ hho.lt)
  rw [hsz] at hqa hz
  refine mh_top (congrArg Value.ref hsz) ?_
  have hsz := hz
  generalize H1 = H at hqa hS hsz hho ⊢
  refine W.widen (k := 1) (n := 14) (Nat.le_of_ble_eq_true rfl) (Nat.le_of_ble_eq_true rfl) ?_
  refine pf_X2_11 hB hin hho (by first | exact Or.inl rfl | (simp only [ftA]; omega) | (simp [ftA]; omega)) hS rfl rfl (Nat.le_of_ble_eq_true rfl) dX2_init_10 (fun H locs hwr => ?_)
  obtain ⟨hho, ho, hz, hS⟩ := hwr
  have hqa := hqa.kept (ho _ (by omega))
  have hsz := hz.trans hsz
  refine mh_vret hB ⟨Nat.le_of_ble_eq_true rfl, Nat.le_of_ble_eq_true rfl⟩ hS dX2_init_13 ⟨?_, ?_, ?_, ?_⟩
  · rfl
  · exact hho
  · exact hqa
  · exact hsz

def rm_c_X2_remember : Room := { frames := 5, cells := 26, slots := 126, locals := 111 }
set_option maxRecDepth 100000 in
set_option maxHeartbeats 400000 in
theorem c_X2_remember (l : Launch) (g : GG) (H0 : Heap) (ob : Nat) (nx : Nat) (n : Nat) (T : Nat → Option Nat) (sb : Nat) (z : Nat → Int32) (P : Nat → Option Nat) (t9 : Nat) (z9 : Nat → Int32) (P9 : Nat → Option Nat) (hho : at_ g H0 ob (eO 2 [.ref (ob + 1), .int (nI nx), .int (nI n)])) (hqa : at_ g H0 (ob + 1) (eQ g 7 14 T)) (hnx : nx < 14) (hn : n ≤ 14) (hS1 : StAt g sb z P H0) (hd1 : ob + 2 ≤ sb ∨ sb + 26 ≤ ob) (hT9 : T nx = some t9) (hS3 : StAt g t9 z9 P9 H0) (hd2 : sb + 26 ≤ t9 ∨ t9 + 26 ≤ sb) (hd3 : ob + 2 ≤ t9 ∨ t9 + 26 ≤ ob) : Ct l yX2_remember cX2_remember 2 none rm_c_X2_remember g [.ref ob, .ref sb] H0 (ftA (fun q9 => q9 = ob ∨ t9 ≤ q9 ∧ q9 < t9 + 26) H0.size) (fun v H1 => v = none ∧ at_ g H1 ob (eO 2 [.ref (ob + 1), .int (nI ((nx + 1) % 14)), .int (nI (nxtS n))]) ∧ StAt g t9 z P H1) := by
  refine Ct.of (by decide) (fun _ h => Or.inr h) (Nat.le_of_ble_eq_true rfl) ?_
  intro p e s m below meth c ls hB hin hS hH hl
  have hx := hB.x
  have hb := hB.b
  have hl : lv_has ls 2 [(0, .ref ob), (1, .ref sb)] := hl
  refine lv_aload_n hx hb dX2_remember_0 rfl (lv_at hl 0 rfl) ?_
  refine gf_X2_11 hB hho rfl dX2_remember_1 ?_
  refine lv_aload_n hx hb dX2_remember_4 rfl (lv_at hl 0 rfl) ?_
  refine gf_X2_17 hB hho rfl dX2_remember_5 ?_
  refine lv_aload_n hx hb dX2_remember_8 rfl (lv_at hl 1 rfl) ?_
  refine cl_X2_21 (As := [.ref (ob + 1), .int (nI nx), .ref sb]) (rest := []) hB (c_X8_storeAt l g H0 (ob + 1) 14 T nx t9 z9 P9 sb z P hqa (by first | assumption | omega) (by first | assumption | omega) (hT9) (hS3) hS1 (by omega) (by omega)) rfl hl.1 (Nat.le_of_ble_eq_true rfl) dX2_remember_9 ⟨Nat.le_of_ble_eq_true rfl, Nat.le_of_ble_eq_true rfl⟩ ⟨Nat.le_of_ble_eq_true rfl, Nat.le_of_ble_eq_true rfl⟩ hS (by have hz9 := hS.1; rintro q (h | h) <;> first | exact Or.inr (by omega) | exact h.elim | exact Or.inl h | (simp only [ftA] at h ⊢; omega)) (fun v H1 locs hpo hfr hS => ?_)
  obtain ⟨rfl, hS3⟩ := hpo
  have hho := Fr.keep hfr hho (by first | omega | exact fun y => y.elim)
  have hqa := Fr.keep hfr hqa (by first | omega | exact fun y => y.elim)
  have hS1 := hS1.keptF hfr (fun q9 h1 h2 => by first | omega | exact fun y => y.elim)
  generalize H1 = H at hfr hS hho hqa hS1 hS3 ⊢
  refine W.widen (k := 26) (n := 126) (Nat.le_of_ble_eq_true rfl) (Nat.le_of_ble_eq_true rfl) ?_
  refine lv_aload_n hx hb dX2_remember_12 rfl (lv_at hl 0 rfl) ?_
  refine lv_aload_n hx hb dX2_remember_13 rfl (lv_at hl 0 rfl) ?_
  refine gf_X2_17 hB hho rfl dX2_remember_14 ?_
  refine lv_iconst (v := nI 1) hx hb dX2_remember_17 (by decide) ?_
  refine mn_iadd hB dX2_remember_18 ?_
  refine lv_bipush (v := nI 14) hx hb dX2_remember_19 (by decide) ?_
  refine mn_icmp_ge (tgt := 33) hB dX2_remember_21 (by decide) (by omega) (by omega) (fun h_21 => ?_) (fun h_21 => ?_)
  · skip
    refine lv_iconst (v := nI 0) hx hb dX2_remember_33 (by decide) ?_
    refine mh_top (y := .int (nI ((nx + 1) % 14))) (by rw [show (nx + 1) % 14 = 0 by omega]) ?_
    refine pf_X2_17 hB hho (Or.inl (Or.inl rfl)) hS rfl rfl (Nat.le_of_ble_eq_true rfl) dX2_remember_34 (fun H locs hwr => ?_)
    obtain ⟨hho, ho, hz, hS⟩ := hwr
    have hqa := hqa.kept (ho _ (by omega))
    have hS1 := hS1.kept (fun q9 h1 h2 => ho q9 (by omega))
    have hS3 := hS3.kept (fun q9 h1 h2 => ho q9 (by omega))
    refine lv_aload_n hx hb dX2_remember_37 rfl (lv_at hl 0 rfl) ?_
    refine lv_aload_n hx hb dX2_remember_38 rfl (lv_at hl 0 rfl) ?_
    refine gf_X2_25 hB hho rfl dX2_remember_39 ?_
    refine lv_iconst (v := nI 1) hx hb dX2_remember_42 (by decide) ?_
    refine mn_iadd hB dX2_remember_43 ?_
    refine lv_bipush (v := nI 14) hx hb dX2_remember_44 (by decide) ?_
    refine mh_min hB kw_440 kw_15 kw_438 kw_439 hl.1 (Nat.le_of_ble_eq_true rfl) ⟨Nat.le_of_ble_eq_true rfl, Nat.le_of_ble_eq_true rfl⟩ ⟨Nat.le_of_ble_eq_true rfl, Nat.le_of_ble_eq_true rfl⟩ dX2_remember_46 ?_
    refine mh_top (y := .int (nI (nxtS n))) (by rw [min14 hn]) ?_
    refine pf_X2_25 hB hho (Or.inl (Or.inl rfl)) hS rfl rfl (Nat.le_of_ble_eq_true rfl) dX2_remember_49 (fun H locs hwr => ?_)
    obtain ⟨hho, ho, hz, hS⟩ := hwr
    have hqa := hqa.kept (ho _ (by omega))
    have hS1 := hS1.kept (fun q9 h1 h2 => ho q9 (by omega))
    have hS3 := hS3.kept (fun q9 h1 h2 => ho q9 (by omega))
    refine mh_vret hB ⟨Nat.le_of_ble_eq_true rfl, Nat.le_of_ble_eq_true rfl⟩ hS dX2_remember_52 ⟨?_, ?_, ?_⟩
    · rfl
    · exact hho
    · exact hS3
  · skip
    refine lv_aload_n hx hb dX2_remember_24 rfl (lv_at hl 0 rfl) ?_
    refine gf_X2_17 hB hho rfl dX2_remember_25 ?_
    refine lv_iconst (v := nI 1) hx hb dX2_remember_28 (by decide) ?_
    refine mn_iadd hB dX2_remember_29 ?_
    refine mh_top (y := .int (nI ((nx + 1) % 14))) (by rw [show (nx + 1) % 14 = nx + 1 by omega]) ?_
    refine lv_goto (tgt := 34) hx hb dX2_remember_30 (by decide) ?_
    refine pf_X2_17 hB hho (Or.inl (Or.inl rfl)) hS rfl rfl (Nat.le_of_ble_eq_true rfl) dX2_remember_34 (fun H locs hwr => ?_)
    obtain ⟨hho, ho, hz, hS⟩ := hwr
    have hqa := hqa.kept (ho _ (by omega))
    have hS1 := hS1.kept (fun q9 h1 h2 => ho q9 (by omega))
    have hS3 := hS3.kept (fun q9 h1 h2 => ho q9 (by omega))
    refine lv_aload_n hx hb dX2_remember_37 rfl (lv_at hl 0 rfl) ?_
    refine lv_aload_n hx hb dX2_remember_38 rfl (lv_at hl 0 rfl) ?_
    refine gf_X2_25 hB hho rfl dX2_remember_39 ?_
    refine lv_iconst (v := nI 1) hx hb dX2_remember_42 (by decide) ?_
    refine mn_iadd hB dX2_remember_43 ?_
    refine lv_bipush (v := nI 14) hx hb dX2_remember_44 (by decide) ?_
    refine mh_min hB kw_440 kw_15 kw_438 kw_439 hl.1 (Nat.le_of_ble_eq_true rfl) ⟨Nat.le_of_ble_eq_true rfl, Nat.le_of_ble_eq_true rfl⟩ ⟨Nat.le_of_ble_eq_true rfl, Nat.le_of_ble_eq_true rfl⟩ dX2_remember_46 ?_
    refine mh_top (y := .int (nI (nxtS n))) (by rw [min14 hn]) ?_
    refine pf_X2_25 hB hho (Or.inl (Or.inl rfl)) hS rfl rfl (Nat.le_of_ble_eq_true rfl) dX2_remember_49 (fun H locs hwr => ?_)
    obtain ⟨hho, ho, hz, hS⟩ := hwr
    have hqa := hqa.kept (ho _ (by omega))
    have hS1 := hS1.kept (fun q9 h1 h2 => ho q9 (by omega))
    have hS3 := hS3.kept (fun q9 h1 h2 => ho q9 (by omega))
    refine mh_vret hB ⟨Nat.le_of_ble_eq_true rfl, Nat.le_of_ble_eq_true rfl⟩ hS dX2_remember_52 ⟨?_, ?_, ?_⟩
    · rfl
    · exact hho
    · exact hS3

def rm_c_X2_remember_n : Room := { frames := 5, cells := 26, slots := 126, locals := 111 }
set_option maxRecDepth 100000 in
set_option maxHeartbeats 400000 in
theorem c_X2_remember_n (l : Launch) (g : GG) (H0 : Heap) (ob : Nat) (nx : Nat) (n : Nat) (T : Nat → Option Nat) (sb : Nat) (z : Nat → Int32) (P : Nat → Option Nat) (n0 : Nat) (hho : at_ g H0 ob (eO 2 [.ref (ob + 1), .int (nI nx), .int (nI n)])) (hqa : at_ g H0 (ob + 1) (eQ g 7 14 T)) (hnx : nx < 14) (hn : n ≤ 14) (hS1 : StAt g sb z P H0) (hd1 : ob + 2 ≤ sb ∨ sb + 26 ≤ ob) (hT9 : T nx = none) (hsz : H0.size = n0) : Ct l yX2_remember cX2_remember 2 none rm_c_X2_remember_n g [.ref ob, .ref sb] H0 (ftA (fun q9 => q9 = ob ∨ q9 = ob + 1) H0.size) (fun v H1 => v = none ∧ at_ g H1 ob (eO 2 [.ref (ob + 1), .int (nI ((nx + 1) % 14)), .int (nI (nxtS n))]) ∧ StAt g n0 z P H1 ∧ at_ g H1 (ob + 1) (eQ g 7 14 (va_up T nx (some n0)))) := by
  refine Ct.of (by decide) (fun _ h => Or.inr h) (Nat.le_of_ble_eq_true rfl) ?_
  intro p e s m below meth c ls hB hin hS hH hl
  have hx := hB.x
  have hb := hB.b
  have hl : lv_has ls 2 [(0, .ref ob), (1, .ref sb)] := hl
  have hsbl := hS1.lt
  have hobl := hqa.lt
  refine lv_aload_n hx hb dX2_remember_0 rfl (lv_at hl 0 rfl) ?_
  refine gf_X2_11 hB hho rfl dX2_remember_1 ?_
  refine lv_aload_n hx hb dX2_remember_4 rfl (lv_at hl 0 rfl) ?_
  refine gf_X2_17 hB hho rfl dX2_remember_5 ?_
  refine lv_aload_n hx hb dX2_remember_8 rfl (lv_at hl 1 rfl) ?_
  refine cl_X2_21 (As := [.ref (ob + 1), .int (nI nx), .ref sb]) (rest := []) hB (c_X8_storeAt_n l g H0 (ob + 1) 14 T nx sb z P n0 hqa (by first | assumption | omega) (by first | assumption | omega) (hT9) hS1 (by omega) (hsz)) rfl hl.1 (Nat.le_of_ble_eq_true rfl) dX2_remember_9 ⟨Nat.le_of_ble_eq_true rfl, Nat.le_of_ble_eq_true rfl⟩ ⟨Nat.le_of_ble_eq_true rfl, Nat.le_of_ble_eq_true rfl⟩ hS (by have hz9 := hS.1; rintro q (h | h) <;> first | exact Or.inr (by omega) | exact h.elim | exact Or.inl h | (simp only [ftA] at h ⊢; omega)) (fun v H1 locs hpo hfr hS => ?_)
  obtain ⟨rfl, hS3, hqa⟩ := hpo
  have hho := Fr.keep hfr hho (by first | omega | exact fun y => y.elim)
  have hS1 := hS1.keptF hfr (fun q9 h1 h2 => by first | omega | exact fun y => y.elim)
  generalize H1 = H at hfr hS hho hS1 hS3 hqa ⊢
  refine W.widen (k := 26) (n := 126) (Nat.le_of_ble_eq_true rfl) (Nat.le_of_ble_eq_true rfl) ?_
  refine lv_aload_n hx hb dX2_remember_12 rfl (lv_at hl 0 rfl) ?_
  refine lv_aload_n hx hb dX2_remember_13 rfl (lv_at hl 0 rfl) ?_
  refine gf_X2_17 hB hho rfl dX2_remember_14 ?_
  refine lv_iconst (v := nI 1) hx hb dX2_remember_17 (by decide) ?_
  refine mn_iadd hB dX2_remember_18 ?_
  refine lv_bipush (v := nI 14) hx hb dX2_remember_19 (by decide) ?_
  refine mn_icmp_ge (tgt := 33) hB dX2_remember_21 (by decide) (by omega) (by omega) (fun h_21 => ?_) (fun h_21 => ?_)
  · skip
    refine lv_iconst (v := nI 0) hx hb dX2_remember_33 (by decide) ?_
    refine mh_top (y := .int (nI ((nx + 1) % 14))) (by rw [show (nx + 1) % 14 = 0 by omega]) ?_
    refine pf_X2_17 hB hho (Or.inl (Or.inl rfl)) hS rfl rfl (Nat.le_of_ble_eq_true rfl) dX2_remember_34 (fun H locs hwr => ?_)
    obtain ⟨hho, ho, hz, hS⟩ := hwr
    have hS1 := hS1.kept (fun q9 h1 h2 => ho q9 (by omega))
    have hS3 := hS3.kept (fun q9 h1 h2 => ho q9 (by omega))
    have hqa := hqa.kept (ho _ (by omega))
    refine lv_aload_n hx hb dX2_remember_37 rfl (lv_at hl 0 rfl) ?_
    refine lv_aload_n hx hb dX2_remember_38 rfl (lv_at hl 0 rfl) ?_
    refine gf_X2_25 hB hho rfl dX2_remember_39 ?_
    refine lv_iconst (v := nI 1) hx hb dX2_remember_42 (by decide) ?_
    refine mn_iadd hB dX2_remember_43 ?_
    refine lv_bipush (v := nI 14) hx hb dX2_remember_44 (by decide) ?_
    refine mh_min hB kw_440 kw_15 kw_438 kw_439 hl.1 (Nat.le_of_ble_eq_true rfl) ⟨Nat.le_of_ble_eq_true rfl, Nat.le_of_ble_eq_true rfl⟩ ⟨Nat.le_of_ble_eq_true rfl, Nat.le_of_ble_eq_true rfl⟩ dX2_remember_46 ?_
    refine mh_top (y := .int (nI (nxtS n))) (by rw [min14 hn]) ?_
    refine pf_X2_25 hB hho (Or.inl (Or.inl rfl)) hS rfl rfl (Nat.le_of_ble_eq_true rfl) dX2_remember_49 (fun H locs hwr => ?_)
    obtain ⟨hho, ho, hz, hS⟩ := hwr
    have hS1 := hS1.kept (fun q9 h1 h2 => ho q9 (by omega))
    have hS3 := hS3.kept (fun q9 h1 h2 => ho q9 (by omega))
    have hqa := hqa.kept (ho _ (by omega))
    refine mh_vret hB ⟨Nat.le_of_ble_eq_true rfl, Nat.le_of_ble_eq_true rfl⟩ hS dX2_remember_52 ⟨?_, ?_, ?_, ?_⟩
    · rfl
    · exact hho
    · exact hS3
    · exact hqa
  · skip
    refine lv_aload_n hx hb dX2_remember_24 rfl (lv_at hl 0 rfl) ?_
    refine gf_X2_17 hB hho rfl dX2_remember_25 ?_
    refine lv_iconst (v := nI 1) hx hb dX2_remember_28 (by decide) ?_
    refine mn_iadd hB dX2_remember_29 ?_
    refine mh_top (y := .int (nI ((nx + 1) % 14))) (by rw [show (nx + 1) % 14 = nx + 1 by omega]) ?_
    refine lv_goto (tgt := 34) hx hb dX2_remember_30 (by decide) ?_
    refine pf_X2_17 hB hho (Or.inl (Or.inl rfl)) hS rfl rfl (Nat.le_of_ble_eq_true rfl) dX2_remember_34 (fun H locs hwr => ?_)
    obtain ⟨hho, ho, hz, hS⟩ := hwr
    have hS1 := hS1.kept (fun q9 h1 h2 => ho q9 (by omega))
    have hS3 := hS3.kept (fun q9 h1 h2 => ho q9 (by omega))
    have hqa := hqa.kept (ho _ (by omega))
    refine lv_aload_n hx hb dX2_remember_37 rfl (lv_at hl 0 rfl) ?_
    refine lv_aload_n hx hb dX2_remember_38 rfl (lv_at hl 0 rfl) ?_
    refine gf_X2_25 hB hho rfl dX2_remember_39 ?_
    refine lv_iconst (v := nI 1) hx hb dX2_remember_42 (by decide) ?_
    refine mn_iadd hB dX2_remember_43 ?_
    refine lv_bipush (v := nI 14) hx hb dX2_remember_44 (by decide) ?_
    refine mh_min hB kw_440 kw_15 kw_438 kw_439 hl.1 (Nat.le_of_ble_eq_true rfl) ⟨Nat.le_of_ble_eq_true rfl, Nat.le_of_ble_eq_true rfl⟩ ⟨Nat.le_of_ble_eq_true rfl, Nat.le_of_ble_eq_true rfl⟩ dX2_remember_46 ?_
    refine mh_top (y := .int (nI (nxtS n))) (by rw [min14 hn]) ?_
    refine pf_X2_25 hB hho (Or.inl (Or.inl rfl)) hS rfl rfl (Nat.le_of_ble_eq_true rfl) dX2_remember_49 (fun H locs hwr => ?_)
    obtain ⟨hho, ho, hz, hS⟩ := hwr
    have hS1 := hS1.kept (fun q9 h1 h2 => ho q9 (by omega))
    have hS3 := hS3.kept (fun q9 h1 h2 => ho q9 (by omega))
    have hqa := hqa.kept (ho _ (by omega))
    refine mh_vret hB ⟨Nat.le_of_ble_eq_true rfl, Nat.le_of_ble_eq_true rfl⟩ hS dX2_remember_52 ⟨?_, ?_, ?_, ?_⟩
    · rfl
    · exact hho
    · exact hS3
    · exact hqa

def rm_c_X2_takeBack : Room := { frames := 4, cells := 0, slots := 0, locals := 88 }
set_option maxRecDepth 100000 in
set_option maxHeartbeats 400000 in
theorem c_X2_takeBack (l : Launch) (g : GG) (H0 : Heap) (ob : Nat) (nx : Nat) (n : Nat) (T : Nat → Option Nat) (sb : Nat) (z : Nat → Int32) (P : Nat → Option Nat) (t9 : Nat) (z9 : Nat → Int32) (P9 : Nat → Option Nat) (hho : at_ g H0 ob (eO 2 [.ref (ob + 1), .int (nI nx), .int (nI n)])) (hqa : at_ g H0 (ob + 1) (eQ g 7 14 T)) (hnx : nx < 14) (hn : n ≤ 14) (hS1 : StAt g sb z P H0) (hd1 : ob + 2 ≤ sb ∨ sb + 26 ≤ ob) (hn1 : 0 < n) (hT9 : T ((nx + 13) % 14) = some t9) (hS3 : StAt g t9 z9 P9 H0) (hd2 : sb + 26 ≤ t9 ∨ t9 + 26 ≤ sb) (hd3 : ob + 2 ≤ t9 ∨ t9 + 26 ≤ ob) : Ct l yX2_takeBack cX2_takeBack 3 (some .int) rm_c_X2_takeBack g [.ref ob, .ref sb] H0 (ftA (fun q9 => q9 = ob ∨ sb ≤ q9 ∧ q9 < sb + 26) H0.size) (fun v H1 => v = some (.int (nI (n - 1))) ∧ at_ g H1 ob (eO 2 [.ref (ob + 1), .int (nI ((nx + 13) % 14)), .int (nI (n - 1))]) ∧ StAt g sb z9 P9 H1) := by
  refine Ct.of (by decide) (fun _ h => Or.inr h) (Nat.le_of_ble_eq_true rfl) ?_
  intro p e s m below meth c ls hB hin hS hH hl
  have hx := hB.x
  have hb := hB.b
  have hl : lv_has ls 3 [(0, .ref ob), (1, .ref sb)] := hl
  refine lv_aload_n hx hb dX2_takeBack_0 rfl (lv_at hl 0 rfl) ?_
  refine lv_aload_n hx hb dX2_takeBack_1 rfl (lv_at hl 0 rfl) ?_
  refine gf_X2_17 hB hho rfl dX2_takeBack_2 ?_
  refine mn_if_le (tgt := 17) hB dX2_takeBack_5 (by decide) (by omega) (fun h_5 => ?_) (fun h_5 => ?_)
  · skip
    refine lv_bipush (v := nI 13) hx hb dX2_takeBack_17 (by decide) ?_
    refine mh_top (y := .int (nI ((nx + 13) % 14))) (by rw [show (nx + 13) % 14 = 13 by omega]) ?_
    refine pf_X2_17 hB hho (Or.inl (Or.inl rfl)) hS rfl rfl (Nat.le_of_ble_eq_true rfl) dX2_takeBack_19 (fun H locs hwr => ?_)
    obtain ⟨hho, ho, hz, hS⟩ := hwr
    have hqa := hqa.kept (ho _ (by omega))
    have hS1 := hS1.kept (fun q9 h1 h2 => ho q9 (by omega))
    have hS3 := hS3.kept (fun q9 h1 h2 => ho q9 (by omega))
    refine lv_aload_n hx hb dX2_takeBack_22 rfl (lv_at hl 0 rfl) ?_
    refine lv_dup hx hb dX2_takeBack_23 rfl ?_
    refine gf_X2_25 hB hho rfl dX2_takeBack_24 ?_
    refine lv_iconst (v := nI 1) hx hb dX2_takeBack_27 (by decide) ?_
    refine mn_isub hB dX2_takeBack_28 (by omega) ?_
    refine pf_X2_25 hB hho (Or.inl (Or.inl rfl)) hS rfl rfl (Nat.le_of_ble_eq_true rfl) dX2_takeBack_29 (fun H locs hwr => ?_)
    obtain ⟨hho, ho, hz, hS⟩ := hwr
    have hqa := hqa.kept (ho _ (by omega))
    have hS1 := hS1.kept (fun q9 h1 h2 => ho q9 (by omega))
    have hS3 := hS3.kept (fun q9 h1 h2 => ho q9 (by omega))
    refine lv_aload_n hx hb dX2_takeBack_32 rfl (lv_at hl 0 rfl) ?_
    refine gf_X2_11 hB hho rfl dX2_takeBack_33 ?_
    refine lv_aload_n hx hb dX2_takeBack_36 rfl (lv_at hl 0 rfl) ?_
    refine gf_X2_17 hB hho rfl dX2_takeBack_37 ?_
    refine cl_X2_34 (As := [.ref (ob + 1), .int (nI ((nx + 13) % 14))]) (rest := []) hB (c_X8_storedAt l g H (ob + 1) 14 T ((nx + 13) % 14) t9 hqa (by omega) (by first | assumption | omega) (hT9)) rfl hl.1 (Nat.le_of_ble_eq_true rfl) dX2_takeBack_40 ⟨Nat.le_of_ble_eq_true rfl, Nat.le_of_ble_eq_true rfl⟩ ⟨Nat.le_of_ble_eq_true rfl, Nat.le_of_ble_eq_true rfl⟩ hS (by have hz9 := hS.1; rintro q (h | h) <;> first | exact Or.inr (by omega) | exact h.elim | exact Or.inl h | (simp only [ftA] at h ⊢; omega)) (fun v H1 locs hpo hfr hS => ?_)
    obtain ⟨rfl, rfl⟩ := hpo
    refine W.widen (k := 0) (n := 0) (Nat.le_of_ble_eq_true rfl) (Nat.le_of_ble_eq_true rfl) ?_
    refine lv_astore_n (lv' := [(2, .ref t9), (0, .ref ob), (1, .ref sb)]) hx hb dX2_takeBack_43 rfl hl (by decide) rfl (fun ls hl => ?_)
    refine lv_aload_n hx hb dX2_takeBack_44 rfl (lv_at hl 0 rfl) ?_
    refine lv_ifnull hx hb dX2_takeBack_45 ?_
    refine lv_aload_n hx hb dX2_takeBack_48 rfl (lv_at hl 2 rfl) ?_
    refine lv_aload_n hx hb dX2_takeBack_49 rfl (lv_at hl 0 rfl) ?_
    refine cl_X2_38 (As := [.ref t9]) (rest := []) hB (c_X8_copyFrom l g H sb z P t9 z9 P9 hS1 hS3 (by omega)) hS1.o rfl hl.1 (Nat.le_of_ble_eq_true rfl) dX2_takeBack_50 ⟨Nat.le_of_ble_eq_true rfl, Nat.le_of_ble_eq_true rfl⟩ ⟨Nat.le_of_ble_eq_true rfl, Nat.le_of_ble_eq_true rfl⟩ hS (by have hz9 := hS.1; rintro q (h | h) <;> first | exact Or.inr (by omega) | exact h.elim | exact Or.inl h | (simp only [ftA] at h ⊢; omega)) (fun v H1 locs hpo hfr hS => ?_)
    obtain ⟨rfl, hS1⟩ := hpo
    have hho := Fr.keep hfr hho (by first | omega | exact fun y => y.elim)
    have hqa := Fr.keep hfr hqa (by first | omega | exact fun y => y.elim)
    have hS3 := hS3.keptF hfr (fun q9 h1 h2 => by first | omega | exact fun y => y.elim)
    generalize H1 = H at hfr hS hho hqa hS3 hS1 ⊢
    refine W.widen (k := 0) (n := 0) (Nat.le_of_ble_eq_true rfl) (Nat.le_of_ble_eq_true rfl) ?_
    refine lv_aload_n hx hb dX2_takeBack_53 rfl (lv_at hl 1 rfl) ?_
    refine gf_X2_25 hB hho rfl dX2_takeBack_54 ?_
    refine mh_iret hB ⟨Nat.le_of_ble_eq_true rfl, Nat.le_of_ble_eq_true rfl⟩ hS dX2_takeBack_57 ⟨?_, ?_, ?_⟩
    · rfl
    · exact hho
    · exact hS1
  · skip
    refine lv_aload_n hx hb dX2_takeBack_8 rfl (lv_at hl 0 rfl) ?_
    refine gf_X2_17 hB hho rfl dX2_takeBack_9 ?_
    refine lv_iconst (v := nI 1) hx hb dX2_takeBack_12 (by decide) ?_
    refine mn_isub hB dX2_takeBack_13 (by omega) ?_
    refine mh_top (y := .int (nI ((nx + 13) % 14))) (by rw [show (nx + 13) % 14 = nx - 1 by omega]) ?_
    refine lv_goto (tgt := 19) hx hb dX2_takeBack_14 (by decide) ?_
    refine pf_X2_17 hB hho (Or.inl (Or.inl rfl)) hS rfl rfl (Nat.le_of_ble_eq_true rfl) dX2_takeBack_19 (fun H locs hwr => ?_)
    obtain ⟨hho, ho, hz, hS⟩ := hwr
    have hqa := hqa.kept (ho _ (by omega))
    have hS1 := hS1.kept (fun q9 h1 h2 => ho q9 (by omega))
    have hS3 := hS3.kept (fun q9 h1 h2 => ho q9 (by omega))
    refine lv_aload_n hx hb dX2_takeBack_22 rfl (lv_at hl 0 rfl) ?_
    refine lv_dup hx hb dX2_takeBack_23 rfl ?_
    refine gf_X2_25 hB hho rfl dX2_takeBack_24 ?_
    refine lv_iconst (v := nI 1) hx hb dX2_takeBack_27 (by decide) ?_
    refine mn_isub hB dX2_takeBack_28 (by omega) ?_
    refine pf_X2_25 hB hho (Or.inl (Or.inl rfl)) hS rfl rfl (Nat.le_of_ble_eq_true rfl) dX2_takeBack_29 (fun H locs hwr => ?_)
    obtain ⟨hho, ho, hz, hS⟩ := hwr
    have hqa := hqa.kept (ho _ (by omega))
    have hS1 := hS1.kept (fun q9 h1 h2 => ho q9 (by omega))
    have hS3 := hS3.kept (fun q9 h1 h2 => ho q9 (by omega))
    refine lv_aload_n hx hb dX2_takeBack_32 rfl (lv_at hl 0 rfl) ?_
    refine gf_X2_11 hB hho rfl dX2_takeBack_33 ?_
    refine lv_aload_n hx hb dX2_takeBack_36 rfl (lv_at hl 0 rfl) ?_
    refine gf_X2_17 hB hho rfl dX2_takeBack_37 ?_
    refine cl_X2_34 (As := [.ref (ob + 1), .int (nI ((nx + 13) % 14))]) (rest := []) hB (c_X8_storedAt l g H (ob + 1) 14 T ((nx + 13) % 14) t9 hqa (by omega) (by first | assumption | omega) (hT9)) rfl hl.1 (Nat.le_of_ble_eq_true rfl) dX2_takeBack_40 ⟨Nat.le_of_ble_eq_true rfl, Nat.le_of_ble_eq_true rfl⟩ ⟨Nat.le_of_ble_eq_true rfl, Nat.le_of_ble_eq_true rfl⟩ hS (by have hz9 := hS.1; rintro q (h | h) <;> first | exact Or.inr (by omega) | exact h.elim | exact Or.inl h | (simp only [ftA] at h ⊢; omega)) (fun v H1 locs hpo hfr hS => ?_)
    obtain ⟨rfl, rfl⟩ := hpo
    refine W.widen (k := 0) (n := 0) (Nat.le_of_ble_eq_true rfl) (Nat.le_of_ble_eq_true rfl) ?_
    refine lv_astore_n (lv' := [(2, .ref t9), (0, .ref ob), (1, .ref sb)]) hx hb dX2_takeBack_43 rfl hl (by decide) rfl (fun ls hl => ?_)
    refine lv_aload_n hx hb dX2_takeBack_44 rfl (lv_at hl 0 rfl) ?_
    refine lv_ifnull hx hb dX2_takeBack_45 ?_
    refine lv_aload_n hx hb dX2_takeBack_48 rfl (lv_at hl 2 rfl) ?_
    refine lv_aload_n hx hb dX2_takeBack_49 rfl (lv_at hl 0 rfl) ?_
    refine cl_X2_38 (As := [.ref t9]) (rest := []) hB (c_X8_copyFrom l g H sb z P t9 z9 P9 hS1 hS3 (by omega)) hS1.o rfl hl.1 (Nat.le_of_ble_eq_true rfl) dX2_takeBack_50 ⟨Nat.le_of_ble_eq_true rfl, Nat.le_of_ble_eq_true rfl⟩ ⟨Nat.le_of_ble_eq_true rfl, Nat.le_of_ble_eq_true rfl⟩ hS (by have hz9 := hS.1; rintro q (h | h) <;> first | exact Or.inr (by omega) | exact h.elim | exact Or.inl h | (simp only [ftA] at h ⊢; omega)) (fun v H1 locs hpo hfr hS => ?_)
    obtain ⟨rfl, hS1⟩ := hpo
    have hho := Fr.keep hfr hho (by first | omega | exact fun y => y.elim)
    have hqa := Fr.keep hfr hqa (by first | omega | exact fun y => y.elim)
    have hS3 := hS3.keptF hfr (fun q9 h1 h2 => by first | omega | exact fun y => y.elim)
    generalize H1 = H at hfr hS hho hqa hS3 hS1 ⊢
    refine W.widen (k := 0) (n := 0) (Nat.le_of_ble_eq_true rfl) (Nat.le_of_ble_eq_true rfl) ?_
    refine lv_aload_n hx hb dX2_takeBack_53 rfl (lv_at hl 1 rfl) ?_
    refine gf_X2_25 hB hho rfl dX2_takeBack_54 ?_
    refine mh_iret hB ⟨Nat.le_of_ble_eq_true rfl, Nat.le_of_ble_eq_true rfl⟩ hS dX2_takeBack_57 ⟨?_, ?_, ?_⟩
    · rfl
    · exact hho
    · exact hS1

def rm_c_X2_forgetAll : Room := { frames := 0, cells := 0, slots := 0, locals := 0 }
set_option maxRecDepth 100000 in
set_option maxHeartbeats 400000 in
theorem c_X2_forgetAll (l : Launch) (g : GG) (H0 : Heap) (ob : Nat) (nx : Nat) (n : Nat) (T : Nat → Option Nat) (hho : at_ g H0 ob (eO 2 [.ref (ob + 1), .int (nI nx), .int (nI n)])) : Ct l yX2_forgetAll cX2_forgetAll 1 none rm_c_X2_forgetAll g [.ref ob] H0 (ftA (fun q9 => q9 = ob) H0.size) (fun v H1 => v = none ∧ at_ g H1 ob (eO 2 [.ref (ob + 1), .int (nI nx), .int (nI 0)])) := by
  refine Ct.of (by decide) (fun _ h => Or.inr h) (Nat.le_of_ble_eq_true rfl) ?_
  intro p e s m below meth c ls hB hin hS hH hl
  have hx := hB.x
  have hb := hB.b
  have hl : lv_has ls 1 [(0, .ref ob)] := hl
  refine lv_aload_n hx hb dX2_forgetAll_0 rfl (lv_at hl 0 rfl) ?_
  refine lv_iconst (v := nI 0) hx hb dX2_forgetAll_1 (by decide) ?_
  refine pf_X2_25 hB hho (by first | exact Or.inl rfl | (simp only [ftA]; omega) | (simp [ftA]; omega)) hS rfl rfl (Nat.le_of_ble_eq_true rfl) dX2_forgetAll_2 (fun H locs hwr => ?_)
  obtain ⟨hho, ho, hz, hS⟩ := hwr
  refine mh_vret hB ⟨Nat.le_of_ble_eq_true rfl, Nat.le_of_ble_eq_true rfl⟩ hS dX2_forgetAll_5 ⟨?_, ?_⟩
  · rfl
  · exact hho
