def rm_c_X10_init : Room := { frames := 3, cells := 67, slots := 1285, locals := 61 }
set_option maxRecDepth 100000 in
set_option maxHeartbeats 1500000 in
theorem c_X10_init (l : Launch) (g : GG) (H0 : Heap) (xb : Nat) (hxo : at_ g H0 xb (eO 8 [.null, .null, .null, .null, .null, .null])) (hsz : H0.size = xb + 1) : Ct l yX10_init cX10_init 1 none rm_c_X10_init g [.ref xb] H0 (ftA (fun q9 => xb ≤ q9 ∧ q9 < xb + 68) H0.size) (fun v H1 => v = none ∧ at_ g H1 xb (eO 8 [.ref (xb + 1), .ref (xb + 10), .ref (xb + 36), .ref (xb + 62), .ref (xb + 64), .ref (xb + 65)]) ∧ TxC g (xb + 1) (fun _ => 0) 0 H1 ∧ StAt g (xb + 10) (fun _ => 0) (fun _ => none) H1 ∧ StAt g (xb + 36) (fun _ => 0) (fun _ => none) H1 ∧ at_ g H1 (xb + 62) (eO 2 [.ref (xb + 63), .int (nI 0), .int (nI 0)]) ∧ at_ g H1 (xb + 63) (eQ g 7 14 (fun _ => none)) ∧ at_ g H1 (xb + 64) (eQ g 7 2 (fun _ => none)) ∧ PfC g (xb + 65) H1 ∧ H1.size = xb + 68) := by
  refine Ct.of (by decide) (fun _ h => Or.inr h) (Nat.le_of_ble_eq_true rfl) ?_
  intro p e s m below meth c ls hB hin hS hH hl
  have hx := hB.x
  have hb := hB.b
  have hl : lv_has ls 1 [(0, .ref xb)] := hl
  refine lv_aload_n hx hb dX10_init_0 rfl (lv_at hl 0 rfl) ?_
  refine ob_X10_1 hB hl.1 dX10_init_1 ⟨Nat.le_of_ble_eq_true rfl, Nat.le_of_ble_eq_true rfl⟩ ?_
  refine lv_aload_n hx hb dX10_init_4 rfl (lv_at hl 0 rfl) ?_
  refine nw_X10_7 hB hS (Nat.le_of_ble_eq_true rfl) (Nat.le_of_ble_eq_true rfl) dX10_init_5 (fun H1 hwr => ?_)
  obtain ⟨hq0, ho, hz, hS⟩ := hwr
  have hxo := hxo.kept (ho _ hxo.lt)
  rw [hsz] at hq0 hz
  refine mh_top (congrArg Value.ref hsz) ?_
  replace hsz := hz
  clear hz ho
  generalize H1 = H at hq0 hS hsz hxo ⊢
  refine W.widen (k := 1) (n := 11) (Nat.le_of_ble_eq_true rfl) (Nat.le_of_ble_eq_true rfl) ?_
  replace hsz : H.size = xb + 2 := hsz
  refine lv_dup hx hb dX10_init_8 rfl ?_
  refine cl_X10_9 (As := []) (rest := [.ref (xb + 1), .ref xb]) hB (c_X9_init l g H (xb + 1) hq0 (by assumption)) rfl hl.1 (Nat.le_of_ble_eq_true rfl) dX10_init_9 ⟨Nat.le_of_ble_eq_true rfl, Nat.le_of_ble_eq_true rfl⟩ ⟨Nat.le_of_ble_eq_true rfl, Nat.le_of_ble_eq_true rfl⟩ hS (by have hz9 := hS.1; rintro q (h | h) <;> first | exact Or.inr (by omega) | exact h.elim | exact Or.inl h | (simp only [ftA] at h ⊢; omega)) (fun v H1 locs hpo hfr hS => ?_)
  obtain ⟨rfl, hTx, hsn⟩ := hpo
  have hxo := Fr.keep hfr hxo (by first | omega | exact fun y => y.elim)
  generalize H1 = H at hfr hS hxo hTx hsn ⊢
  refine W.widen (k := 9) (n := 491) (Nat.le_of_ble_eq_true rfl) (Nat.le_of_ble_eq_true rfl) ?_
  clear hsz hfr
  have hsz : H.size = xb + 10 := hsn
  clear hsn
  refine pf_X10_10 hB hin hxo (Or.inl (by omega)) hS rfl rfl (Nat.le_of_ble_eq_true rfl) dX10_init_12 (fun H locs hwr => ?_)
  obtain ⟨hxo, ho, hz, hS⟩ := hwr
  have hTx : TxC g (xb + 1) (fun _ => 0) 0 H := hTx.kept (fun q9 b1 b2 => ho q9 (by omega))
  replace hsz := hz.trans hsz
  clear hz ho
  refine lv_aload_n hx hb dX10_init_15 rfl (lv_at hl 0 rfl) ?_
  refine nw_X10_16 hB hS (Nat.le_of_ble_eq_true rfl) (Nat.le_of_ble_eq_true rfl) dX10_init_16 (fun H1 hwr => ?_)
  obtain ⟨hq0, ho, hz, hS⟩ := hwr
  have hxo := hxo.kept (ho _ hxo.lt)
  have hTx : TxC g (xb + 1) (fun _ => 0) 0 H1 := hTx.kept (fun q9 b1 b2 => ho q9 (by omega))
  rw [hsz] at hq0 hz
  refine mh_top (congrArg Value.ref hsz) ?_
  replace hsz := hz
  clear hz ho
  generalize H1 = H at hq0 hS hsz hxo hTx ⊢
  refine W.widen (k := 10) (n := 499) (Nat.le_of_ble_eq_true rfl) (Nat.le_of_ble_eq_true rfl) ?_
  replace hsz : H.size = xb + 11 := hsz
  refine lv_dup hx hb dX10_init_19 rfl ?_
  refine cl_X10_18 (As := []) (rest := [.ref (xb + 10), .ref xb]) hB (c_X8_init l g H (xb + 10) hq0 (by assumption)) rfl hl.1 (Nat.le_of_ble_eq_true rfl) dX10_init_20 ⟨Nat.le_of_ble_eq_true rfl, Nat.le_of_ble_eq_true rfl⟩ ⟨Nat.le_of_ble_eq_true rfl, Nat.le_of_ble_eq_true rfl⟩ hS (by have hz9 := hS.1; rintro q (h | h) <;> first | exact Or.inr (by omega) | exact h.elim | exact Or.inl h | (simp only [ftA] at h ⊢; omega)) (fun v H1 locs hpo hfr hS => ?_)
  obtain ⟨rfl, hS1, hsn⟩ := hpo
  have hxo := Fr.keep hfr hxo (by first | omega | exact fun y => y.elim)
  have hTx : TxC g (xb + 1) (fun _ => 0) 0 H1 := hTx.kept (fun q9 b1 b2 => hfr.2 q9 (by omega) (fun y => y.elim (fun y => by omega) (fun y => by omega)))
  generalize H1 = H at hfr hS hxo hTx hS1 hsn ⊢
  refine W.widen (k := 35) (n := 617) (Nat.le_of_ble_eq_true rfl) (Nat.le_of_ble_eq_true rfl) ?_
  clear hsz hfr
  have hsz : H.size = xb + 36 := hsn
  clear hsn
  refine pf_X10_19 hB hin hxo (Or.inl (by omega)) hS rfl rfl (Nat.le_of_ble_eq_true rfl) dX10_init_23 (fun H locs hwr => ?_)
  obtain ⟨hxo, ho, hz, hS⟩ := hwr
  have hTx : TxC g (xb + 1) (fun _ => 0) 0 H := hTx.kept (fun q9 b1 b2 => ho q9 (by omega))
  have hS1 := hS1.kept (fun q9 h1 h2 => ho q9 (by omega))
  replace hsz := hz.trans hsz
  clear hz ho
  refine lv_aload_n hx hb dX10_init_26 rfl (lv_at hl 0 rfl) ?_
  refine nw_X10_16 hB hS (Nat.le_of_ble_eq_true rfl) (Nat.le_of_ble_eq_true rfl) dX10_init_27 (fun H1 hwr => ?_)
  obtain ⟨hq0, ho, hz, hS⟩ := hwr
  have hxo := hxo.kept (ho _ hxo.lt)
  have hTx : TxC g (xb + 1) (fun _ => 0) 0 H1 := hTx.kept (fun q9 b1 b2 => ho q9 (by omega))
  have hS1 := hS1.kept (fun q9 h1 h2 => ho q9 (by have := hS1.lt; omega))
  rw [hsz] at hq0 hz
  refine mh_top (congrArg Value.ref hsz) ?_
  replace hsz := hz
  clear hz ho
  generalize H1 = H at hq0 hS hsz hxo hTx hS1 ⊢
  refine W.widen (k := 36) (n := 625) (Nat.le_of_ble_eq_true rfl) (Nat.le_of_ble_eq_true rfl) ?_
  replace hsz : H.size = xb + 37 := hsz
  refine lv_dup hx hb dX10_init_30 rfl ?_
  refine cl_X10_18 (As := []) (rest := [.ref (xb + 36), .ref xb]) hB (c_X8_init l g H (xb + 36) hq0 (by assumption)) rfl hl.1 (Nat.le_of_ble_eq_true rfl) dX10_init_31 ⟨Nat.le_of_ble_eq_true rfl, Nat.le_of_ble_eq_true rfl⟩ ⟨Nat.le_of_ble_eq_true rfl, Nat.le_of_ble_eq_true rfl⟩ hS (by have hz9 := hS.1; rintro q (h | h) <;> first | exact Or.inr (by omega) | exact h.elim | exact Or.inl h | (simp only [ftA] at h ⊢; omega)) (fun v H1 locs hpo hfr hS => ?_)
  obtain ⟨rfl, hS2, hsn⟩ := hpo
  have hxo := Fr.keep hfr hxo (by first | omega | exact fun y => y.elim)
  have hTx : TxC g (xb + 1) (fun _ => 0) 0 H1 := hTx.kept (fun q9 b1 b2 => hfr.2 q9 (by omega) (fun y => y.elim (fun y => by omega) (fun y => by omega)))
  have hS1 := hS1.keptF hfr (fun q9 h1 h2 => by first | omega | exact fun y => y.elim)
  generalize H1 = H at hfr hS hxo hTx hS1 hS2 hsn ⊢
  refine W.widen (k := 61) (n := 743) (Nat.le_of_ble_eq_true rfl) (Nat.le_of_ble_eq_true rfl) ?_
  clear hsz hfr
  have hsz : H.size = xb + 62 := hsn
  clear hsn
  refine pf_X10_23 hB hin hxo (Or.inl (by omega)) hS rfl rfl (Nat.le_of_ble_eq_true rfl) dX10_init_34 (fun H locs hwr => ?_)
  obtain ⟨hxo, ho, hz, hS⟩ := hwr
  have hTx : TxC g (xb + 1) (fun _ => 0) 0 H := hTx.kept (fun q9 b1 b2 => ho q9 (by omega))
  have hS1 := hS1.kept (fun q9 h1 h2 => ho q9 (by omega))
  have hS2 := hS2.kept (fun q9 h1 h2 => ho q9 (by omega))
  replace hsz := hz.trans hsz
  clear hz ho
  refine lv_aload_n hx hb dX10_init_37 rfl (lv_at hl 0 rfl) ?_
  refine nw_X10_26 hB hS (Nat.le_of_ble_eq_true rfl) (Nat.le_of_ble_eq_true rfl) dX10_init_38 (fun H1 hwr => ?_)
  obtain ⟨hho, ho, hz, hS⟩ := hwr
  have hxo := hxo.kept (ho _ hxo.lt)
  have hTx : TxC g (xb + 1) (fun _ => 0) 0 H1 := hTx.kept (fun q9 b1 b2 => ho q9 (by omega))
  have hS1 := hS1.kept (fun q9 h1 h2 => ho q9 (by have := hS1.lt; omega))
  have hS2 := hS2.kept (fun q9 h1 h2 => ho q9 (by have := hS2.lt; omega))
  rw [hsz] at hho hz
  refine mh_top (congrArg Value.ref hsz) ?_
  replace hsz := hz
  clear hz ho
  generalize H1 = H at hho hS hsz hxo hTx hS1 hS2 ⊢
  refine W.widen (k := 62) (n := 746) (Nat.le_of_ble_eq_true rfl) (Nat.le_of_ble_eq_true rfl) ?_
  replace hsz : H.size = xb + 63 := hsz
  refine lv_dup hx hb dX10_init_41 rfl ?_
  refine cl_X10_28 (As := []) (rest := [.ref (xb + 62), .ref xb]) hB (c_X2_init l g H (xb + 62) (xb + 63) hho (by assumption)) rfl hl.1 (Nat.le_of_ble_eq_true rfl) dX10_init_42 ⟨Nat.le_of_ble_eq_true rfl, Nat.le_of_ble_eq_true rfl⟩ ⟨Nat.le_of_ble_eq_true rfl, Nat.le_of_ble_eq_true rfl⟩ hS (by have hz9 := hS.1; rintro q (h | h) <;> first | exact Or.inr (by omega) | exact h.elim | exact Or.inl h | (simp only [ftA] at h ⊢; omega)) (fun v H1 locs hpo hfr hS => ?_)
  obtain ⟨rfl, hho, hqa, hsn⟩ := hpo
  have hxo := Fr.keep hfr hxo (by first | omega | exact fun y => y.elim)
  have hTx : TxC g (xb + 1) (fun _ => 0) 0 H1 := hTx.kept (fun q9 b1 b2 => hfr.2 q9 (by omega) (fun y => y.elim (fun y => by omega) (fun y => by omega)))
  have hS1 := hS1.keptF hfr (fun q9 h1 h2 => by first | omega | exact fun y => y.elim)
  have hS2 := hS2.keptF hfr (fun q9 h1 h2 => by first | omega | exact fun y => y.elim)
  generalize H1 = H at hfr hS hxo hTx hS1 hS2 hho hqa hsn ⊢
  refine W.widen (k := 63) (n := 760) (Nat.le_of_ble_eq_true rfl) (Nat.le_of_ble_eq_true rfl) ?_
  clear hsz hfr
  have hsz : H.size = xb + 64 := hsn
  clear hsn
  refine pf_X10_29 hB hin hxo (Or.inl (by omega)) hS rfl rfl (Nat.le_of_ble_eq_true rfl) dX10_init_45 (fun H locs hwr => ?_)
  obtain ⟨hxo, ho, hz, hS⟩ := hwr
  have hTx : TxC g (xb + 1) (fun _ => 0) 0 H := hTx.kept (fun q9 b1 b2 => ho q9 (by omega))
  have hS1 := hS1.kept (fun q9 h1 h2 => ho q9 (by omega))
  have hS2 := hS2.kept (fun q9 h1 h2 => ho q9 (by omega))
  have hho := hho.kept (ho _ (by omega))
  have hqa := hqa.kept (ho _ (by omega))
  replace hsz := hz.trans hsz
  clear hz ho
  refine lv_aload_n hx hb dX10_init_48 rfl (lv_at hl 0 rfl) ?_
  refine lv_iconst (v := nI 2) hx hb dX10_init_49 (by decide) ?_
  refine mh_anew (C := RX8) (N' := 2) hB 7 rfl kw_68 kw_189 (nI_pos (by omega)) (nI_clamp (by omega)) (Nat.le_of_ble_eq_true rfl) hS (Nat.le_of_ble_eq_true rfl) (Nat.le_of_ble_eq_true rfl) dX10_init_50 (fun H1 hwr => ?_)
  obtain ⟨hsa, ho, hz, hS⟩ := hwr
  have hxo := hxo.kept (ho _ hxo.lt)
  have hTx : TxC g (xb + 1) (fun _ => 0) 0 H1 := hTx.kept (fun q9 b1 b2 => ho q9 (by omega))
  have hS1 := hS1.kept (fun q9 h1 h2 => ho q9 (by have := hS1.lt; omega))
  have hS2 := hS2.kept (fun q9 h1 h2 => ho q9 (by have := hS2.lt; omega))
  have hho := hho.kept (ho _ hho.lt)
  have hqa := hqa.kept (ho _ hqa.lt)
  rw [hsz] at hsa hz
  refine mh_top (congrArg Value.ref hsz) ?_
  replace hsz := hz
  clear hz ho
  generalize H1 = H at hsa hS hsz hxo hTx hS1 hS2 hho hqa ⊢
  refine W.widen (k := 64) (n := 762) (Nat.le_of_ble_eq_true rfl) (Nat.le_of_ble_eq_true rfl) ?_
  replace hsz : H.size = xb + 65 := hsz
  refine pf_X10_33 hB hin hxo (Or.inl (by omega)) hS rfl rfl (Nat.le_of_ble_eq_true rfl) dX10_init_53 (fun H locs hwr => ?_)
  obtain ⟨hxo, ho, hz, hS⟩ := hwr
  have hTx : TxC g (xb + 1) (fun _ => 0) 0 H := hTx.kept (fun q9 b1 b2 => ho q9 (by omega))
  have hS1 := hS1.kept (fun q9 h1 h2 => ho q9 (by omega))
  have hS2 := hS2.kept (fun q9 h1 h2 => ho q9 (by omega))
  have hho := hho.kept (ho _ (by omega))
  have hqa := hqa.kept (ho _ (by omega))
  have hsa := hsa.kept (ho _ (by omega))
  replace hsz := hz.trans hsz
  clear hz ho
  refine lv_aload_n hx hb dX10_init_56 rfl (lv_at hl 0 rfl) ?_
  refine nw_X10_37 hB hS (Nat.le_of_ble_eq_true rfl) (Nat.le_of_ble_eq_true rfl) dX10_init_57 (fun H1 hwr => ?_)
  obtain ⟨hq0, ho, hz, hS⟩ := hwr
  have hxo := hxo.kept (ho _ hxo.lt)
  have hTx : TxC g (xb + 1) (fun _ => 0) 0 H1 := hTx.kept (fun q9 b1 b2 => ho q9 (by omega))
  have hS1 := hS1.kept (fun q9 h1 h2 => ho q9 (by have := hS1.lt; omega))
  have hS2 := hS2.kept (fun q9 h1 h2 => ho q9 (by have := hS2.lt; omega))
  have hho := hho.kept (ho _ hho.lt)
  have hqa := hqa.kept (ho _ hqa.lt)
  have hsa := hsa.kept (ho _ hsa.lt)
  rw [hsz] at hq0 hz
  refine mh_top (congrArg Value.ref hsz) ?_
  replace hsz := hz
  clear hz ho
  generalize H1 = H at hq0 hS hsz hxo hTx hS1 hS2 hho hqa hsa ⊢
  refine W.widen (k := 65) (n := 765) (Nat.le_of_ble_eq_true rfl) (Nat.le_of_ble_eq_true rfl) ?_
  replace hsz : H.size = xb + 66 := hsz
  refine lv_dup hx hb dX10_init_60 rfl ?_
  refine cl_X10_39 (As := []) (rest := [.ref (xb + 65), .ref xb]) hB (c_X5_init l g H (xb + 65) hq0 (by assumption)) rfl hl.1 (Nat.le_of_ble_eq_true rfl) dX10_init_61 ⟨Nat.le_of_ble_eq_true rfl, Nat.le_of_ble_eq_true rfl⟩ ⟨Nat.le_of_ble_eq_true rfl, Nat.le_of_ble_eq_true rfl⟩ hS (by have hz9 := hS.1; rintro q (h | h) <;> first | exact Or.inr (by omega) | exact h.elim | exact Or.inl h | (simp only [ftA] at h ⊢; omega)) (fun v H1 locs hpo hfr hS => ?_)
  obtain ⟨rfl, hPf, hsn⟩ := hpo
  have hxo := Fr.keep hfr hxo (by first | omega | exact fun y => y.elim)
  have hTx : TxC g (xb + 1) (fun _ => 0) 0 H1 := hTx.kept (fun q9 b1 b2 => hfr.2 q9 (by omega) (fun y => y.elim (fun y => by omega) (fun y => by omega)))
  have hS1 := hS1.keptF hfr (fun q9 h1 h2 => by first | omega | exact fun y => y.elim)
  have hS2 := hS2.keptF hfr (fun q9 h1 h2 => by first | omega | exact fun y => y.elim)
  have hho := Fr.keep hfr hho (by first | omega | exact fun y => y.elim)
  have hqa := Fr.keep hfr hqa (by first | omega | exact fun y => y.elim)
  have hsa := Fr.keep hfr hsa (by first | omega | exact fun y => y.elim)
  generalize H1 = H at hfr hS hxo hTx hS1 hS2 hho hqa hsa hPf hsn ⊢
  refine W.widen (k := 67) (n := 1277) (Nat.le_of_ble_eq_true rfl) (Nat.le_of_ble_eq_true rfl) ?_
  clear hsz hfr
  have hsz : H.size = xb + 68 := hsn
  clear hsn
  refine pf_X10_40 hB hin hxo (Or.inl (by omega)) hS rfl rfl (Nat.le_of_ble_eq_true rfl) dX10_init_64 (fun H locs hwr => ?_)
  obtain ⟨hxo, ho, hz, hS⟩ := hwr
  have hTx : TxC g (xb + 1) (fun _ => 0) 0 H := hTx.kept (fun q9 b1 b2 => ho q9 (by omega))
  have hS1 := hS1.kept (fun q9 h1 h2 => ho q9 (by omega))
  have hS2 := hS2.kept (fun q9 h1 h2 => ho q9 (by omega))
  have hho := hho.kept (ho _ (by omega))
  have hqa := hqa.kept (ho _ (by omega))
  have hsa := hsa.kept (ho _ (by omega))
  have hPf : PfC g (xb + 65) H := hPf.kept (fun q9 b1 b2 => ho q9 (by omega))
  replace hsz := hz.trans hsz
  clear hz ho
  refine mh_vret hB ⟨Nat.le_of_ble_eq_true rfl, Nat.le_of_ble_eq_true rfl⟩ hS dX10_init_67 ⟨?_, ?_, ?_, ?_, ?_, ?_, ?_, ?_, ?_, ?_⟩
  · rfl
  · exact hxo
  · exact hTx
  · exact hS1
  · exact hS2
  · exact hho
  · exact hqa
  · exact hsa
  · exact hPf
  · exact hsz
