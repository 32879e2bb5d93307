def rm_c_X11_init : Room := { frames := 1, cells := 15, slots := 32023, locals := 20 }
set_option maxRecDepth 100000 in
set_option maxHeartbeats 400000 in
theorem c_X11_init (l : Launch) (g : GG) (H0 : Heap) (r : Nat) (hsz : H0.size = r + 1) (hq0 : at_ g H0 r (eO 9 [.null, .null, .null, .int (nI 0), .null, .null, .null, .int (nI 0), .int (nI 0), .null, .null, .null, .null, .null, .int (nI 0), .int (nI 0), .int (nI 0), .int (nI 0), .null, .null, .int (nI 0), .int (nI 0), .null, .int (nI 0), .int (nI 0), .null, .int (nI 0)])) : Ct l yX11_init cX11_init 1 none rm_c_X11_init g [.ref r] H0 (ftA (fun q => r ≤ q ∧ q < r + 16) H0.size) (fun v H1 => v = none ∧ ModAt g r (fun _ => 0) (fun _ => 0) (fun _ => 0) (nI 0) (fun _ => 0) (fun _ => 0) (fun _ => 0) (nI 0) (nI 0) (fun _ => 0) (fun _ => 0) (fun _ => 0) (fun _ => 0) (fun _ => 0) (nI 0) (nI 0) (nI 0) (nI 0) (fun _ => 0) (fun _ => 0) (nI 0) (nI 0) (fun _ => 0) (nI 0) (nI 0) (fun _ => 0) (nI 0) H1) := by
  refine Ct.of (by decide) (fun _ h => Or.inr h) (Nat.le_of_ble_eq_true rfl) ?_
  intro p e s m below meth c ls hB hin hS hH hl
  have hx := hB.x
  have hb := hB.b
  have hl : lv_has ls 1 [(0, .ref r)] := hl
  refine lv_aload_n hx hb dX11_init_0 rfl (lv_at hl 0 rfl) ?_
  refine ob_X11_1 hB hl.1 dX11_init_1 ⟨Nat.le_of_ble_eq_true rfl, Nat.le_of_ble_eq_true rfl⟩ ?_
  refine lv_aload_n hx hb dX11_init_4 rfl (lv_at hl 0 rfl) ?_
  refine lv_sipush (v := nI 866) hx hb dX11_init_5 (by decide +kernel) ?_
  refine mh_newa (atype := .int) (a0 := (866, .inl (fun _ => 0))) (N' := 866) hB 0 rfl rfl (fun _ h => by cases h) kw_69 (fun _ => rfl) (nI_pos (Nat.le_of_ble_eq_true rfl)) (nI_clamp (Nat.le_of_ble_eq_true rfl)) (Nat.le_of_ble_eq_true rfl) hS (Nat.le_of_ble_eq_true rfl) (Nat.le_of_ble_eq_true rfl) dX11_init_8 (fun H1 hwr => ?_)
  obtain ⟨hq1, ho, hz, hS⟩ := hwr
  have hq0 := hq0.kept (ho _ hq0.lt)
  rw [hsz] at hq1 hz
  refine mh_top (congrArg Value.ref hsz) ?_
  have hsz := hz
  generalize H1 = H at hq1 hS hsz hq0 ⊢
  refine W.widen (k := 1) (n := 866) (Nat.le_of_ble_eq_true rfl) (Nat.le_of_ble_eq_true rfl) ?_
  refine pf_X11_7 hB hin hq0 (Or.inl ⟨Nat.le_refl _, by omega⟩) hS rfl rfl (Nat.le_of_ble_eq_true rfl) dX11_init_10 (fun H locs hwr => ?_)
  obtain ⟨hq0, ho, hz, hS⟩ := hwr
  have hq1 := hq1.kept (ho _ (by omega))
  have hsz := hz.trans hsz
  refine lv_aload_n hx hb dX11_init_13 rfl (lv_at hl 0 rfl) ?_
  refine lv_sipush (v := nI 866) hx hb dX11_init_14 (by decide +kernel) ?_
  refine mh_newa (atype := .int) (a0 := (866, .inl (fun _ => 0))) (N' := 866) hB 0 rfl rfl (fun _ h => by cases h) kw_69 (fun _ => rfl) (nI_pos (Nat.le_of_ble_eq_true rfl)) (nI_clamp (Nat.le_of_ble_eq_true rfl)) (Nat.le_of_ble_eq_true rfl) hS (Nat.le_of_ble_eq_true rfl) (Nat.le_of_ble_eq_true rfl) dX11_init_17 (fun H1 hwr => ?_)
  obtain ⟨hq2, ho, hz, hS⟩ := hwr
  have hq0 := hq0.kept (ho _ hq0.lt)
  have hq1 := hq1.kept (ho _ hq1.lt)
  rw [hsz] at hq2 hz
  refine mh_top (congrArg Value.ref hsz) ?_
  have hsz := hz
  generalize H1 = H at hq2 hS hsz hq0 hq1 ⊢
  refine W.widen (k := 2) (n := 1732) (Nat.le_of_ble_eq_true rfl) (Nat.le_of_ble_eq_true rfl) ?_
  refine pf_X11_13 hB hin hq0 (Or.inl ⟨Nat.le_refl _, by omega⟩) hS rfl rfl (Nat.le_of_ble_eq_true rfl) dX11_init_19 (fun H locs hwr => ?_)
  obtain ⟨hq0, ho, hz, hS⟩ := hwr
  have hq1 := hq1.kept (ho _ (by omega))
  have hq2 := hq2.kept (ho _ (by omega))
  have hsz := hz.trans hsz
  refine lv_aload_n hx hb dX11_init_22 rfl (lv_at hl 0 rfl) ?_
  refine lv_sipush (v := nI 12124) hx hb dX11_init_23 (by decide +kernel) ?_
  refine mh_newa (atype := .int) (a0 := (12124, .inl (fun _ => 0))) (N' := 12124) hB 0 rfl rfl (fun _ h => by cases h) kw_69 (fun _ => rfl) (nI_pos (Nat.le_of_ble_eq_true rfl)) (nI_clamp (Nat.le_of_ble_eq_true rfl)) (Nat.le_of_ble_eq_true rfl) hS (Nat.le_of_ble_eq_true rfl) (Nat.le_of_ble_eq_true rfl) dX11_init_26 (fun H1 hwr => ?_)
  obtain ⟨hq3, ho, hz, hS⟩ := hwr
  have hq0 := hq0.kept (ho _ hq0.lt)
  have hq1 := hq1.kept (ho _ hq1.lt)
  have hq2 := hq2.kept (ho _ hq2.lt)
  rw [hsz] at hq3 hz
  refine mh_top (congrArg Value.ref hsz) ?_
  have hsz := hz
  generalize H1 = H at hq3 hS hsz hq0 hq1 hq2 ⊢
  refine W.widen (k := 3) (n := 13856) (Nat.le_of_ble_eq_true rfl) (Nat.le_of_ble_eq_true rfl) ?_
  refine pf_X11_16 hB hin hq0 (Or.inl ⟨Nat.le_refl _, by omega⟩) hS rfl rfl (Nat.le_of_ble_eq_true rfl) dX11_init_28 (fun H locs hwr => ?_)
  obtain ⟨hq0, ho, hz, hS⟩ := hwr
  have hq1 := hq1.kept (ho _ (by omega))
  have hq2 := hq2.kept (ho _ (by omega))
  have hq3 := hq3.kept (ho _ (by omega))
  have hsz := hz.trans hsz
  refine lv_aload_n hx hb dX11_init_31 rfl (lv_at hl 0 rfl) ?_
  refine lv_sipush (v := nI 1732) hx hb dX11_init_32 (by decide +kernel) ?_
  refine mh_newa (atype := .int) (a0 := (1732, .inl (fun _ => 0))) (N' := 1732) hB 0 rfl rfl (fun _ h => by cases h) kw_69 (fun _ => rfl) (nI_pos (Nat.le_of_ble_eq_true rfl)) (nI_clamp (Nat.le_of_ble_eq_true rfl)) (Nat.le_of_ble_eq_true rfl) hS (Nat.le_of_ble_eq_true rfl) (Nat.le_of_ble_eq_true rfl) dX11_init_35 (fun H1 hwr => ?_)
  obtain ⟨hq4, ho, hz, hS⟩ := hwr
  have hq0 := hq0.kept (ho _ hq0.lt)
  have hq1 := hq1.kept (ho _ hq1.lt)
  have hq2 := hq2.kept (ho _ hq2.lt)
  have hq3 := hq3.kept (ho _ hq3.lt)
  rw [hsz] at hq4 hz
  refine mh_top (congrArg Value.ref hsz) ?_
  have hsz := hz
  generalize H1 = H at hq4 hS hsz hq0 hq1 hq2 hq3 ⊢
  refine W.widen (k := 4) (n := 15588) (Nat.le_of_ble_eq_true rfl) (Nat.le_of_ble_eq_true rfl) ?_
  refine pf_X11_19 hB hin hq0 (Or.inl ⟨Nat.le_refl _, by omega⟩) hS rfl rfl (Nat.le_of_ble_eq_true rfl) dX11_init_37 (fun H locs hwr => ?_)
  obtain ⟨hq0, ho, hz, hS⟩ := hwr
  have hq1 := hq1.kept (ho _ (by omega))
  have hq2 := hq2.kept (ho _ (by omega))
  have hq3 := hq3.kept (ho _ (by omega))
  have hq4 := hq4.kept (ho _ (by omega))
  have hsz := hz.trans hsz
  refine lv_aload_n hx hb dX11_init_40 rfl (lv_at hl 0 rfl) ?_
  refine lv_iconst (v := nI 2) hx hb dX11_init_41 (by decide) ?_
  refine mh_newa (atype := .boolean) (a0 := (2, .inl (fun _ => 0))) (N' := 2) hB 2 rfl rfl (fun _ h => by cases h) kw_222 (fun _ => rfl) (nI_pos (Nat.le_of_ble_eq_true rfl)) (nI_clamp (Nat.le_of_ble_eq_true rfl)) (Nat.le_of_ble_eq_true rfl) hS (Nat.le_of_ble_eq_true rfl) (Nat.le_of_ble_eq_true rfl) dX11_init_42 (fun H1 hwr => ?_)
  obtain ⟨hq5, ho, hz, hS⟩ := hwr
  have hq0 := hq0.kept (ho _ hq0.lt)
  have hq1 := hq1.kept (ho _ hq1.lt)
  have hq2 := hq2.kept (ho _ hq2.lt)
  have hq3 := hq3.kept (ho _ hq3.lt)
  have hq4 := hq4.kept (ho _ hq4.lt)
  rw [hsz] at hq5 hz
  refine mh_top (congrArg Value.ref hsz) ?_
  have hsz := hz
  generalize H1 = H at hq5 hS hsz hq0 hq1 hq2 hq3 hq4 ⊢
  refine W.widen (k := 5) (n := 15590) (Nat.le_of_ble_eq_true rfl) (Nat.le_of_ble_eq_true rfl) ?_
  refine pf_X11_22 hB hin hq0 (Or.inl ⟨Nat.le_refl _, by omega⟩) hS rfl rfl (Nat.le_of_ble_eq_true rfl) dX11_init_44 (fun H locs hwr => ?_)
  obtain ⟨hq0, ho, hz, hS⟩ := hwr
  have hq1 := hq1.kept (ho _ (by omega))
  have hq2 := hq2.kept (ho _ (by omega))
  have hq3 := hq3.kept (ho _ (by omega))
  have hq4 := hq4.kept (ho _ (by omega))
  have hq5 := hq5.kept (ho _ (by omega))
  have hsz := hz.trans hsz
  refine lv_aload_n hx hb dX11_init_47 rfl (lv_at hl 0 rfl) ?_
  refine lv_bipush (v := nI 60) hx hb dX11_init_48 (by decide) ?_
  refine mh_newa (atype := .int) (a0 := (60, .inl (fun _ => 0))) (N' := 60) hB 0 rfl rfl (fun _ h => by cases h) kw_69 (fun _ => rfl) (nI_pos (Nat.le_of_ble_eq_true rfl)) (nI_clamp (Nat.le_of_ble_eq_true rfl)) (Nat.le_of_ble_eq_true rfl) hS (Nat.le_of_ble_eq_true rfl) (Nat.le_of_ble_eq_true rfl) dX11_init_50 (fun H1 hwr => ?_)
  obtain ⟨hq6, ho, hz, hS⟩ := hwr
  have hq0 := hq0.kept (ho _ hq0.lt)
  have hq1 := hq1.kept (ho _ hq1.lt)
  have hq2 := hq2.kept (ho _ hq2.lt)
  have hq3 := hq3.kept (ho _ hq3.lt)
  have hq4 := hq4.kept (ho _ hq4.lt)
  have hq5 := hq5.kept (ho _ hq5.lt)
  rw [hsz] at hq6 hz
  refine mh_top (congrArg Value.ref hsz) ?_
  have hsz := hz
  generalize H1 = H at hq6 hS hsz hq0 hq1 hq2 hq3 hq4 hq5 ⊢
  refine W.widen (k := 6) (n := 15650) (Nat.le_of_ble_eq_true rfl) (Nat.le_of_ble_eq_true rfl) ?_
  refine pf_X11_26 hB hin hq0 (Or.inl ⟨Nat.le_refl _, by omega⟩) hS rfl rfl (Nat.le_of_ble_eq_true rfl) dX11_init_52 (fun H locs hwr => ?_)
  obtain ⟨hq0, ho, hz, hS⟩ := hwr
  have hq1 := hq1.kept (ho _ (by omega))
  have hq2 := hq2.kept (ho _ (by omega))
  have hq3 := hq3.kept (ho _ (by omega))
  have hq4 := hq4.kept (ho _ (by omega))
  have hq5 := hq5.kept (ho _ (by omega))
  have hq6 := hq6.kept (ho _ (by omega))
  have hsz := hz.trans hsz
  refine lv_aload_n hx hb dX11_init_55 rfl (lv_at hl 0 rfl) ?_
  refine lv_bipush (v := nI 60) hx hb dX11_init_56 (by decide) ?_
  refine mh_newa (atype := .int) (a0 := (60, .inl (fun _ => 0))) (N' := 60) hB 0 rfl rfl (fun _ h => by cases h) kw_69 (fun _ => rfl) (nI_pos (Nat.le_of_ble_eq_true rfl)) (nI_clamp (Nat.le_of_ble_eq_true rfl)) (Nat.le_of_ble_eq_true rfl) hS (Nat.le_of_ble_eq_true rfl) (Nat.le_of_ble_eq_true rfl) dX11_init_58 (fun H1 hwr => ?_)
  obtain ⟨hq7, ho, hz, hS⟩ := hwr
  have hq0 := hq0.kept (ho _ hq0.lt)
  have hq1 := hq1.kept (ho _ hq1.lt)
  have hq2 := hq2.kept (ho _ hq2.lt)
  have hq3 := hq3.kept (ho _ hq3.lt)
  have hq4 := hq4.kept (ho _ hq4.lt)
  have hq5 := hq5.kept (ho _ hq5.lt)
  have hq6 := hq6.kept (ho _ hq6.lt)
  rw [hsz] at hq7 hz
  refine mh_top (congrArg Value.ref hsz) ?_
  have hsz := hz
  generalize H1 = H at hq7 hS hsz hq0 hq1 hq2 hq3 hq4 hq5 hq6 ⊢
  refine W.widen (k := 7) (n := 15710) (Nat.le_of_ble_eq_true rfl) (Nat.le_of_ble_eq_true rfl) ?_
  refine pf_X11_29 hB hin hq0 (Or.inl ⟨Nat.le_refl _, by omega⟩) hS rfl rfl (Nat.le_of_ble_eq_true rfl) dX11_init_60 (fun H locs hwr => ?_)
  obtain ⟨hq0, ho, hz, hS⟩ := hwr
  have hq1 := hq1.kept (ho _ (by omega))
  have hq2 := hq2.kept (ho _ (by omega))
  have hq3 := hq3.kept (ho _ (by omega))
  have hq4 := hq4.kept (ho _ (by omega))
  have hq5 := hq5.kept (ho _ (by omega))
  have hq6 := hq6.kept (ho _ (by omega))
  have hq7 := hq7.kept (ho _ (by omega))
  have hsz := hz.trans hsz
  refine lv_aload_n hx hb dX11_init_63 rfl (lv_at hl 0 rfl) ?_
  refine lv_bipush (v := nI 60) hx hb dX11_init_64 (by decide) ?_
  refine mh_newa (atype := .int) (a0 := (60, .inl (fun _ => 0))) (N' := 60) hB 0 rfl rfl (fun _ h => by cases h) kw_69 (fun _ => rfl) (nI_pos (Nat.le_of_ble_eq_true rfl)) (nI_clamp (Nat.le_of_ble_eq_true rfl)) (Nat.le_of_ble_eq_true rfl) hS (Nat.le_of_ble_eq_true rfl) (Nat.le_of_ble_eq_true rfl) dX11_init_66 (fun H1 hwr => ?_)
  obtain ⟨hq8, ho, hz, hS⟩ := hwr
  have hq0 := hq0.kept (ho _ hq0.lt)
  have hq1 := hq1.kept (ho _ hq1.lt)
  have hq2 := hq2.kept (ho _ hq2.lt)
  have hq3 := hq3.kept (ho _ hq3.lt)
  have hq4 := hq4.kept (ho _ hq4.lt)
  have hq5 := hq5.kept (ho _ hq5.lt)
  have hq6 := hq6.kept (ho _ hq6.lt)
  have hq7 := hq7.kept (ho _ hq7.lt)
  rw [hsz] at hq8 hz
  refine mh_top (congrArg Value.ref hsz) ?_
  have hsz := hz
  generalize H1 = H at hq8 hS hsz hq0 hq1 hq2 hq3 hq4 hq5 hq6 hq7 ⊢
  refine W.widen (k := 8) (n := 15770) (Nat.le_of_ble_eq_true rfl) (Nat.le_of_ble_eq_true rfl) ?_
  refine pf_X11_32 hB hin hq0 (Or.inl ⟨Nat.le_refl _, by omega⟩) hS rfl rfl (Nat.le_of_ble_eq_true rfl) dX11_init_68 (fun H locs hwr => ?_)
  obtain ⟨hq0, ho, hz, hS⟩ := hwr
  have hq1 := hq1.kept (ho _ (by omega))
  have hq2 := hq2.kept (ho _ (by omega))
  have hq3 := hq3.kept (ho _ (by omega))
  have hq4 := hq4.kept (ho _ (by omega))
  have hq5 := hq5.kept (ho _ (by omega))
  have hq6 := hq6.kept (ho _ (by omega))
  have hq7 := hq7.kept (ho _ (by omega))
  have hq8 := hq8.kept (ho _ (by omega))
  have hsz := hz.trans hsz
  refine lv_aload_n hx hb dX11_init_71 rfl (lv_at hl 0 rfl) ?_
  refine lv_bipush (v := nI 60) hx hb dX11_init_72 (by decide) ?_
  refine mh_newa (atype := .int) (a0 := (60, .inl (fun _ => 0))) (N' := 60) hB 0 rfl rfl (fun _ h => by cases h) kw_69 (fun _ => rfl) (nI_pos (Nat.le_of_ble_eq_true rfl)) (nI_clamp (Nat.le_of_ble_eq_true rfl)) (Nat.le_of_ble_eq_true rfl) hS (Nat.le_of_ble_eq_true rfl) (Nat.le_of_ble_eq_true rfl) dX11_init_74 (fun H1 hwr => ?_)
  obtain ⟨hq9, ho, hz, hS⟩ := hwr
  have hq0 := hq0.kept (ho _ hq0.lt)
  have hq1 := hq1.kept (ho _ hq1.lt)
  have hq2 := hq2.kept (ho _ hq2.lt)
  have hq3 := hq3.kept (ho _ hq3.lt)
  have hq4 := hq4.kept (ho _ hq4.lt)
  have hq5 := hq5.kept (ho _ hq5.lt)
  have hq6 := hq6.kept (ho _ hq6.lt)
  have hq7 := hq7.kept (ho _ hq7.lt)
  have hq8 := hq8.kept (ho _ hq8.lt)
  rw [hsz] at hq9 hz
  refine mh_top (congrArg Value.ref hsz) ?_
  have hsz := hz
  generalize H1 = H at hq9 hS hsz hq0 hq1 hq2 hq3 hq4 hq5 hq6 hq7 hq8 ⊢
  refine W.widen (k := 9) (n := 15830) (Nat.le_of_ble_eq_true rfl) (Nat.le_of_ble_eq_true rfl) ?_
  refine pf_X11_35 hB hin hq0 (Or.inl ⟨Nat.le_refl _, by omega⟩) hS rfl rfl (Nat.le_of_ble_eq_true rfl) dX11_init_76 (fun H locs hwr => ?_)
  obtain ⟨hq0, ho, hz, hS⟩ := hwr
  have hq1 := hq1.kept (ho _ (by omega))
  have hq2 := hq2.kept (ho _ (by omega))
  have hq3 := hq3.kept (ho _ (by omega))
  have hq4 := hq4.kept (ho _ (by omega))
  have hq5 := hq5.kept (ho _ (by omega))
  have hq6 := hq6.kept (ho _ (by omega))
  have hq7 := hq7.kept (ho _ (by omega))
  have hq8 := hq8.kept (ho _ (by omega))
  have hq9 := hq9.kept (ho _ (by omega))
  have hsz := hz.trans hsz
  refine lv_aload_n hx hb dX11_init_79 rfl (lv_at hl 0 rfl) ?_
  refine lv_bipush (v := nI 60) hx hb dX11_init_80 (by decide) ?_
  refine mh_newa (atype := .int) (a0 := (60, .inl (fun _ => 0))) (N' := 60) hB 0 rfl rfl (fun _ h => by cases h) kw_69 (fun _ => rfl) (nI_pos (Nat.le_of_ble_eq_true rfl)) (nI_clamp (Nat.le_of_ble_eq_true rfl)) (Nat.le_of_ble_eq_true rfl) hS (Nat.le_of_ble_eq_true rfl) (Nat.le_of_ble_eq_true rfl) dX11_init_82 (fun H1 hwr => ?_)
  obtain ⟨hq10, ho, hz, hS⟩ := hwr
  have hq0 := hq0.kept (ho _ hq0.lt)
  have hq1 := hq1.kept (ho _ hq1.lt)
  have hq2 := hq2.kept (ho _ hq2.lt)
  have hq3 := hq3.kept (ho _ hq3.lt)
  have hq4 := hq4.kept (ho _ hq4.lt)
  have hq5 := hq5.kept (ho _ hq5.lt)
  have hq6 := hq6.kept (ho _ hq6.lt)
  have hq7 := hq7.kept (ho _ hq7.lt)
  have hq8 := hq8.kept (ho _ hq8.lt)
  have hq9 := hq9.kept (ho _ hq9.lt)
  rw [hsz] at hq10 hz
  refine mh_top (congrArg Value.ref hsz) ?_
  have hsz := hz
  generalize H1 = H at hq10 hS hsz hq0 hq1 hq2 hq3 hq4 hq5 hq6 hq7 hq8 hq9 ⊢
  refine W.widen (k := 10) (n := 15890) (Nat.le_of_ble_eq_true rfl) (Nat.le_of_ble_eq_true rfl) ?_
  refine pf_X11_38 hB hin hq0 (Or.inl ⟨Nat.le_refl _, by omega⟩) hS rfl rfl (Nat.le_of_ble_eq_true rfl) dX11_init_84 (fun H locs hwr => ?_)
  obtain ⟨hq0, ho, hz, hS⟩ := hwr
  have hq1 := hq1.kept (ho _ (by omega))
  have hq2 := hq2.kept (ho _ (by omega))
  have hq3 := hq3.kept (ho _ (by omega))
  have hq4 := hq4.kept (ho _ (by omega))
  have hq5 := hq5.kept (ho _ (by omega))
  have hq6 := hq6.kept (ho _ (by omega))
  have hq7 := hq7.kept (ho _ (by omega))
  have hq8 := hq8.kept (ho _ (by omega))
  have hq9 := hq9.kept (ho _ (by omega))
  have hq10 := hq10.kept (ho _ (by omega))
  have hsz := hz.trans hsz
  refine lv_aload_n hx hb dX11_init_87 rfl (lv_at hl 0 rfl) ?_
  refine lv_sipush (v := nI 15360) hx hb dX11_init_88 (by decide +kernel) ?_
  refine mh_newa (atype := .int) (a0 := (15360, .inl (fun _ => 0))) (N' := 15360) hB 0 rfl rfl (fun _ h => by cases h) kw_69 (fun _ => rfl) (nI_pos (Nat.le_of_ble_eq_true rfl)) (nI_clamp (Nat.le_of_ble_eq_true rfl)) (Nat.le_of_ble_eq_true rfl) hS (Nat.le_of_ble_eq_true rfl) (Nat.le_of_ble_eq_true rfl) dX11_init_91 (fun H1 hwr => ?_)
  obtain ⟨hq11, ho, hz, hS⟩ := hwr
  have hq0 := hq0.kept (ho _ hq0.lt)
  have hq1 := hq1.kept (ho _ hq1.lt)
  have hq2 := hq2.kept (ho _ hq2.lt)
  have hq3 := hq3.kept (ho _ hq3.lt)
  have hq4 := hq4.kept (ho _ hq4.lt)
  have hq5 := hq5.kept (ho _ hq5.lt)
  have hq6 := hq6.kept (ho _ hq6.lt)
  have hq7 := hq7.kept (ho _ hq7.lt)
  have hq8 := hq8.kept (ho _ hq8.lt)
  have hq9 := hq9.kept (ho _ hq9.lt)
  have hq10 := hq10.kept (ho _ hq10.lt)
  rw [hsz] at hq11 hz
  refine mh_top (congrArg Value.ref hsz) ?_
  have hsz := hz
  generalize H1 = H at hq11 hS hsz hq0 hq1 hq2 hq3 hq4 hq5 hq6 hq7 hq8 hq9 hq10 ⊢
  refine W.widen (k := 11) (n := 31250) (Nat.le_of_ble_eq_true rfl) (Nat.le_of_ble_eq_true rfl) ?_
  refine pf_X11_41 hB hin hq0 (Or.inl ⟨Nat.le_refl _, by omega⟩) hS rfl rfl (Nat.le_of_ble_eq_true rfl) dX11_init_93 (fun H locs hwr => ?_)
  obtain ⟨hq0, ho, hz, hS⟩ := hwr
  have hq1 := hq1.kept (ho _ (by omega))
  have hq2 := hq2.kept (ho _ (by omega))
  have hq3 := hq3.kept (ho _ (by omega))
  have hq4 := hq4.kept (ho _ (by omega))
  have hq5 := hq5.kept (ho _ (by omega))
  have hq6 := hq6.kept (ho _ (by omega))
  have hq7 := hq7.kept (ho _ (by omega))
  have hq8 := hq8.kept (ho _ (by omega))
  have hq9 := hq9.kept (ho _ (by omega))
  have hq10 := hq10.kept (ho _ (by omega))
  have hq11 := hq11.kept (ho _ (by omega))
  have hsz := hz.trans hsz
  refine lv_aload_n hx hb dX11_init_96 rfl (lv_at hl 0 rfl) ?_
  refine lv_sipush (v := nI 256) hx hb dX11_init_97 (by decide +kernel) ?_
  refine mh_newa (atype := .int) (a0 := (256, .inl (fun _ => 0))) (N' := 256) hB 0 rfl rfl (fun _ h => by cases h) kw_69 (fun _ => rfl) (nI_pos (Nat.le_of_ble_eq_true rfl)) (nI_clamp (Nat.le_of_ble_eq_true rfl)) (Nat.le_of_ble_eq_true rfl) hS (Nat.le_of_ble_eq_true rfl) (Nat.le_of_ble_eq_true rfl) dX11_init_100 (fun H1 hwr => ?_)
  obtain ⟨hq12, ho, hz, hS⟩ := hwr
  have hq0 := hq0.kept (ho _ hq0.lt)
  have hq1 := hq1.kept (ho _ hq1.lt)
  have hq2 := hq2.kept (ho _ hq2.lt)
  have hq3 := hq3.kept (ho _ hq3.lt)
  have hq4 := hq4.kept (ho _ hq4.lt)
  have hq5 := hq5.kept (ho _ hq5.lt)
  have hq6 := hq6.kept (ho _ hq6.lt)
  have hq7 := hq7.kept (ho _ hq7.lt)
  have hq8 := hq8.kept (ho _ hq8.lt)
  have hq9 := hq9.kept (ho _ hq9.lt)
  have hq10 := hq10.kept (ho _ hq10.lt)
  have hq11 := hq11.kept (ho _ hq11.lt)
  rw [hsz] at hq12 hz
  refine mh_top (congrArg Value.ref hsz) ?_
  have hsz := hz
  generalize H1 = H at hq12 hS hsz hq0 hq1 hq2 hq3 hq4 hq5 hq6 hq7 hq8 hq9 hq10 hq11 ⊢
  refine W.widen (k := 12) (n := 31506) (Nat.le_of_ble_eq_true rfl) (Nat.le_of_ble_eq_true rfl) ?_
  refine pf_X11_44 hB hin hq0 (Or.inl ⟨Nat.le_refl _, by omega⟩) hS rfl rfl (Nat.le_of_ble_eq_true rfl) dX11_init_102 (fun H locs hwr => ?_)
  obtain ⟨hq0, ho, hz, hS⟩ := hwr
  have hq1 := hq1.kept (ho _ (by omega))
  have hq2 := hq2.kept (ho _ (by omega))
  have hq3 := hq3.kept (ho _ (by omega))
  have hq4 := hq4.kept (ho _ (by omega))
  have hq5 := hq5.kept (ho _ (by omega))
  have hq6 := hq6.kept (ho _ (by omega))
  have hq7 := hq7.kept (ho _ (by omega))
  have hq8 := hq8.kept (ho _ (by omega))
  have hq9 := hq9.kept (ho _ (by omega))
  have hq10 := hq10.kept (ho _ (by omega))
  have hq11 := hq11.kept (ho _ (by omega))
  have hq12 := hq12.kept (ho _ (by omega))
  have hsz := hz.trans hsz
  refine lv_aload_n hx hb dX11_init_105 rfl (lv_at hl 0 rfl) ?_
  refine lv_sipush (v := nI 256) hx hb dX11_init_106 (by decide +kernel) ?_
  refine mh_newa (atype := .int) (a0 := (256, .inl (fun _ => 0))) (N' := 256) hB 0 rfl rfl (fun _ h => by cases h) kw_69 (fun _ => rfl) (nI_pos (Nat.le_of_ble_eq_true rfl)) (nI_clamp (Nat.le_of_ble_eq_true rfl)) (Nat.le_of_ble_eq_true rfl) hS (Nat.le_of_ble_eq_true rfl) (Nat.le_of_ble_eq_true rfl) dX11_init_109 (fun H1 hwr => ?_)
  obtain ⟨hq13, ho, hz, hS⟩ := hwr
  have hq0 := hq0.kept (ho _ hq0.lt)
  have hq1 := hq1.kept (ho _ hq1.lt)
  have hq2 := hq2.kept (ho _ hq2.lt)
  have hq3 := hq3.kept (ho _ hq3.lt)
  have hq4 := hq4.kept (ho _ hq4.lt)
  have hq5 := hq5.kept (ho _ hq5.lt)
  have hq6 := hq6.kept (ho _ hq6.lt)
  have hq7 := hq7.kept (ho _ hq7.lt)
  have hq8 := hq8.kept (ho _ hq8.lt)
  have hq9 := hq9.kept (ho _ hq9.lt)
  have hq10 := hq10.kept (ho _ hq10.lt)
  have hq11 := hq11.kept (ho _ hq11.lt)
  have hq12 := hq12.kept (ho _ hq12.lt)
  rw [hsz] at hq13 hz
  refine mh_top (congrArg Value.ref hsz) ?_
  have hsz := hz
  generalize H1 = H at hq13 hS hsz hq0 hq1 hq2 hq3 hq4 hq5 hq6 hq7 hq8 hq9 hq10 hq11 hq12 ⊢
  refine W.widen (k := 13) (n := 31762) (Nat.le_of_ble_eq_true rfl) (Nat.le_of_ble_eq_true rfl) ?_
  refine pf_X11_47 hB hin hq0 (Or.inl ⟨Nat.le_refl _, by omega⟩) hS rfl rfl (Nat.le_of_ble_eq_true rfl) dX11_init_111 (fun H locs hwr => ?_)
  obtain ⟨hq0, ho, hz, hS⟩ := hwr
  have hq1 := hq1.kept (ho _ (by omega))
  have hq2 := hq2.kept (ho _ (by omega))
  have hq3 := hq3.kept (ho _ (by omega))
  have hq4 := hq4.kept (ho _ (by omega))
  have hq5 := hq5.kept (ho _ (by omega))
  have hq6 := hq6.kept (ho _ (by omega))
  have hq7 := hq7.kept (ho _ (by omega))
  have hq8 := hq8.kept (ho _ (by omega))
  have hq9 := hq9.kept (ho _ (by omega))
  have hq10 := hq10.kept (ho _ (by omega))
  have hq11 := hq11.kept (ho _ (by omega))
  have hq12 := hq12.kept (ho _ (by omega))
  have hq13 := hq13.kept (ho _ (by omega))
  have hsz := hz.trans hsz
  refine lv_aload_n hx hb dX11_init_114 rfl (lv_at hl 0 rfl) ?_
  refine lv_sipush (v := nI 256) hx hb dX11_init_115 (by decide +kernel) ?_
  refine mh_newa (atype := .int) (a0 := (256, .inl (fun _ => 0))) (N' := 256) hB 0 rfl rfl (fun _ h => by cases h) kw_69 (fun _ => rfl) (nI_pos (Nat.le_of_ble_eq_true rfl)) (nI_clamp (Nat.le_of_ble_eq_true rfl)) (Nat.le_of_ble_eq_true rfl) hS (Nat.le_of_ble_eq_true rfl) (Nat.le_of_ble_eq_true rfl) dX11_init_118 (fun H1 hwr => ?_)
  obtain ⟨hq14, ho, hz, hS⟩ := hwr
  have hq0 := hq0.kept (ho _ hq0.lt)
  have hq1 := hq1.kept (ho _ hq1.lt)
  have hq2 := hq2.kept (ho _ hq2.lt)
  have hq3 := hq3.kept (ho _ hq3.lt)
  have hq4 := hq4.kept (ho _ hq4.lt)
  have hq5 := hq5.kept (ho _ hq5.lt)
  have hq6 := hq6.kept (ho _ hq6.lt)
  have hq7 := hq7.kept (ho _ hq7.lt)
  have hq8 := hq8.kept (ho _ hq8.lt)
  have hq9 := hq9.kept (ho _ hq9.lt)
  have hq10 := hq10.kept (ho _ hq10.lt)
  have hq11 := hq11.kept (ho _ hq11.lt)
  have hq12 := hq12.kept (ho _ hq12.lt)
  have hq13 := hq13.kept (ho _ hq13.lt)
  rw [hsz] at hq14 hz
  refine mh_top (congrArg Value.ref hsz) ?_
  have hsz := hz
  generalize H1 = H at hq14 hS hsz hq0 hq1 hq2 hq3 hq4 hq5 hq6 hq7 hq8 hq9 hq10 hq11 hq12 hq13 ⊢
  refine W.widen (k := 14) (n := 32018) (Nat.le_of_ble_eq_true rfl) (Nat.le_of_ble_eq_true rfl) ?_
  refine pf_X11_50 hB hin hq0 (Or.inl ⟨Nat.le_refl _, by omega⟩) hS rfl rfl (Nat.le_of_ble_eq_true rfl) dX11_init_120 (fun H locs hwr => ?_)
  obtain ⟨hq0, ho, hz, hS⟩ := hwr
  have hq1 := hq1.kept (ho _ (by omega))
  have hq2 := hq2.kept (ho _ (by omega))
  have hq3 := hq3.kept (ho _ (by omega))
  have hq4 := hq4.kept (ho _ (by omega))
  have hq5 := hq5.kept (ho _ (by omega))
  have hq6 := hq6.kept (ho _ (by omega))
  have hq7 := hq7.kept (ho _ (by omega))
  have hq8 := hq8.kept (ho _ (by omega))
  have hq9 := hq9.kept (ho _ (by omega))
  have hq10 := hq10.kept (ho _ (by omega))
  have hq11 := hq11.kept (ho _ (by omega))
  have hq12 := hq12.kept (ho _ (by omega))
  have hq13 := hq13.kept (ho _ (by omega))
  have hq14 := hq14.kept (ho _ (by omega))
  have hsz := hz.trans hsz
  refine lv_aload_n hx hb dX11_init_123 rfl (lv_at hl 0 rfl) ?_
  refine lv_iconst (v := nI 5) hx hb dX11_init_124 (by decide) ?_
  refine mh_newa (atype := .int) (a0 := (5, .inl (fun _ => 0))) (N' := 5) hB 0 rfl rfl (fun _ h => by cases h) kw_69 (fun _ => rfl) (nI_pos (Nat.le_of_ble_eq_true rfl)) (nI_clamp (Nat.le_of_ble_eq_true rfl)) (Nat.le_of_ble_eq_true rfl) hS (Nat.le_of_ble_eq_true rfl) (Nat.le_of_ble_eq_true rfl) dX11_init_125 (fun H1 hwr => ?_)
  obtain ⟨hq15, ho, hz, hS⟩ := hwr
  have hq0 := hq0.kept (ho _ hq0.lt)
  have hq1 := hq1.kept (ho _ hq1.lt)
  have hq2 := hq2.kept (ho _ hq2.lt)
  have hq3 := hq3.kept (ho _ hq3.lt)
  have hq4 := hq4.kept (ho _ hq4.lt)
  have hq5 := hq5.kept (ho _ hq5.lt)
  have hq6 := hq6.kept (ho _ hq6.lt)
  have hq7 := hq7.kept (ho _ hq7.lt)
  have hq8 := hq8.kept (ho _ hq8.lt)
  have hq9 := hq9.kept (ho _ hq9.lt)
  have hq10 := hq10.kept (ho _ hq10.lt)
  have hq11 := hq11.kept (ho _ hq11.lt)
  have hq12 := hq12.kept (ho _ hq12.lt)
  have hq13 := hq13.kept (ho _ hq13.lt)
  have hq14 := hq14.kept (ho _ hq14.lt)
  rw [hsz] at hq15 hz
  refine mh_top (congrArg Value.ref hsz) ?_
  have hsz := hz
  generalize H1 = H at hq15 hS hsz hq0 hq1 hq2 hq3 hq4 hq5 hq6 hq7 hq8 hq9 hq10 hq11 hq12 hq13 hq14 ⊢
  refine W.widen (k := 15) (n := 32023) (Nat.le_of_ble_eq_true rfl) (Nat.le_of_ble_eq_true rfl) ?_
  refine pf_X11_53 hB hin hq0 (Or.inl ⟨Nat.le_refl _, by omega⟩) hS rfl rfl (Nat.le_of_ble_eq_true rfl) dX11_init_127 (fun H locs hwr => ?_)
  obtain ⟨hq0, ho, hz, hS⟩ := hwr
  have hq1 := hq1.kept (ho _ (by omega))
  have hq2 := hq2.kept (ho _ (by omega))
  have hq3 := hq3.kept (ho _ (by omega))
  have hq4 := hq4.kept (ho _ (by omega))
  have hq5 := hq5.kept (ho _ (by omega))
  have hq6 := hq6.kept (ho _ (by omega))
  have hq7 := hq7.kept (ho _ (by omega))
  have hq8 := hq8.kept (ho _ (by omega))
  have hq9 := hq9.kept (ho _ (by omega))
  have hq10 := hq10.kept (ho _ (by omega))
  have hq11 := hq11.kept (ho _ (by omega))
  have hq12 := hq12.kept (ho _ (by omega))
  have hq13 := hq13.kept (ho _ (by omega))
  have hq14 := hq14.kept (ho _ (by omega))
  have hq15 := hq15.kept (ho _ (by omega))
  have hsz := hz.trans hsz
  refine mh_vret hB ⟨Nat.le_of_ble_eq_true rfl, Nat.le_of_ble_eq_true rfl⟩ hS dX11_init_130 ⟨?_, ?_⟩
  · rfl
  · exact ⟨hq0, hq1, hq2, hq3, hq4, hq5, hq6, hq7, hq8, hq9, hq10, hq11, hq12, hq13, hq14, hq15⟩
