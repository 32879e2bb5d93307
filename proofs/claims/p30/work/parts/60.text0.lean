theorem TxAt.two {g : GG} {t ln ln2 : Nat} {tx tx2 wd ht fi la nx di op : Nat → Int32} {oc wh : Int32} {H H1 : Heap} (h : TxAt g t tx ln wd ht fi la nx di op oc wh H) (hf : Fr (ftA (fun q9 => q9 = t ∨ q9 = t + 1) H.size) H H1) (h1 : at_ g H1 t (eO 7 [.ref (t + 1), .int (nI ln2), .ref (t + 2), .ref (t + 3), .ref (t + 4), .ref (t + 5), .ref (t + 6), .ref (t + 7), .ref (t + 8), .int oc, .int wh])) (h2 : at_ g H1 (t + 1) (eI g 60 tx2)) : TxAt g t tx2 ln2 wd ht fi la nx di op oc wh H1 := by
  have hk : ∀ a : Nat, a < H.size → a ≠ t → a ≠ t + 1 → H1[a]? = H[a]? := fun a b1 b2 b3 => hf.2 a b1 (fun y => y.elim (fun y => by omega) (fun y => by omega))
  obtain ⟨a1, a2, a3, a4, a5, a6, a7, a8, a9⟩ := h
  exact ⟨h1, h2, a3.kept (hk _ a3.lt (by omega) (by omega)), a4.kept (hk _ a4.lt (by omega) (by omega)), a5.kept (hk _ a5.lt (by omega) (by omega)), a6.kept (hk _ a6.lt (by omega) (by omega)), a7.kept (hk _ a7.lt (by omega) (by omega)), a8.kept (hk _ a8.lt (by omega) (by omega)), a9.kept (hk _ a9.lt (by omega) (by omega))⟩
theorem Fr.sub {F F2 : Nat → Prop} {n : Nat} {H H1 : Heap} (h : Fr (ftA F n) H H1) (hs : ∀ q, F q → F2 q) : Fr (ftA F2 n) H H1 := ⟨h.1, fun a h1 h2 => h.2 a h1 (fun y => h2 (y.elim (fun y => Or.inl (hs a y)) Or.inr))⟩
theorem z00 : ∀ j, j < 98 → (fun _ => 0 : Nat → Int32) j = zOf (fun _ => 0) j := by decide +kernel
theorem qn_0 (i : Nat) : qn (fun _ => 0) i = 0 := (show (0 : Int32).toNatClampNeg = 0 by decide)
theorem WF_0 : WF (fun _ => 0) := by
  refine ⟨by decide +kernel, by decide +kernel, by decide +kernel, by decide +kernel, fun f hf => ?_⟩
  have e : ∀ i, qn (fun _ => 0) i = 0 := qn_0
  have eb : byS (fun _ => 0) f = 0 := by rcases (show f = 0 ∨ f = 1 ∨ f = 2 by omega) with rfl | rfl | rfl <;> decide +kernel
  refine ⟨?_, ?_, ?_, ?_, ?_, ?_, ?_, fun m hm => ?_, ?_, fun k hk => ⟨?_, ?_⟩⟩
  · show (0 : Int32) = nI (qn _ _); rw [e]; rfl
  · show (0 : Int32) = nI (qn _ _); rw [e]; rfl
  · show (0 : Int32) = nI (qn _ _); rw [e]; rfl
  · show qn _ _ ≤ 16; rw [e]; omega
  · show qn _ _ ≤ 16; rw [e]; omega
  · show qn _ _ = 0 ↔ qn _ _ = 0; rw [e, e]
  · show qn _ _ ≤ _; rw [e]; omega
  · show (0 : Int32) = nI (qn _ _); rw [e]; rfl
  · rw [eb]; show 0 = qn _ _; rw [e]
  · show (0 : Int32) = nI (qn _ _); rw [e]; rfl
  · show qn _ _ < 6; rw [e]; omega
theorem WZ_0 : WZ (fun _ => 0) := fun m h1 h2 => ⟨fun c hc => rfl, fun f hf => qn_0 _⟩
theorem CLSi.first {g : GG} {xb lim : Nat} {H : Heap} (hxo : at_ g H xb (eO 8 [.ref (xb + 1), .ref (xb + 10), .ref (xb + 36), .ref (xb + 62), .ref (xb + 64), .ref (xb + 65)])) (hTx : TxC g (xb + 1) (fun _ => 0) 0 H) (hS1 : StAt g (xb + 10) (fun _ => 0) (fun _ => none) H) (hS2 : StAt g (xb + 36) (fun _ => 0) (fun _ => none) H) (hho : at_ g H (xb + 62) (eO 2 [.ref (xb + 63), .int (nI 0), .int (nI 0)])) (hqa : at_ g H (xb + 63) (eQ g 7 14 (fun _ => none))) (hsa : at_ g H (xb + 64) (eQ g 7 2 (fun _ => none))) (hPf : PfC g (xb + 65) H) (h1 : xb + 68 ≤ lim) (h2 : lim ≤ H.size) : CLS g xb lim (fun _ => 0) 0 (fun _ => 0) (fun _ => 0) (fun _ => 0) (fun _ => 0) 0 H := by
  refine ⟨fun q9 => xb ≤ q9 ∧ q9 < lim, fun _ => none, fun _ => none, fun _ _ => 0, fun _ _ => none, fun _ => 0, fun _ => none, 0, hxo, hTx, hS1.congr z00 (fun _ _ => rfl), fun f hf => ?_, hS2, hho, hqa, hsa, hPf, (by intro k hk t ht; cases ht), ⟨by omega, by omega, fun i hi => by omega⟩, (fun k hk => Or.inr ⟨rfl, rfl⟩), fun q9 a b => ⟨a, b⟩, fun q9 a => Nat.lt_of_lt_of_le a.2 h2, WF_0, WZ_0, h1, h2, by omega⟩
  have e : ∀ i, qn (fun _ => 0) i = 0 := qn_0
  exact ⟨by show qn _ _ = 0; rw [e], by show qn _ _ = 0; rw [e]⟩

def rm_c_X9_init : Room := { frames := 1, cells := 8, slots := 480, locals := 20 }
set_option maxRecDepth 100000 in
set_option maxHeartbeats 400000 in
theorem c_X9_init (l : Launch) (g : GG) (H0 : Heap) (tb : Nat) (hq0 : at_ g H0 tb (eO 7 [.null, .int (nI 0), .null, .null, .null, .null, .null, .null, .null, .int (nI 0), .int (nI 0)])) (hsz : H0.size = tb + 1) : Ct l yX9_init cX9_init 1 none rm_c_X9_init g [.ref tb] H0 (ftA (fun q9 => tb ≤ q9 ∧ q9 < tb + 9) H0.size) (fun v H1 => v = none ∧ TxC g tb (fun _ => 0) 0 H1 ∧ H1.size = tb + 9) := by
  refine Ct.of (by decide) (fun _ h => Or.inr h) (Nat.le_of_ble_eq_true rfl) ?_
  intro p e s m below meth c ls hB hin hS hH hl
  have hx := hB.x
  have hb := hB.b
  have hl : lv_has ls 1 [(0, .ref tb)] := hl
  refine lv_aload_n hx hb dX9_init_0 rfl (lv_at hl 0 rfl) ?_
  refine ob_X9_3 hB hl.1 dX9_init_1 ⟨Nat.le_of_ble_eq_true rfl, Nat.le_of_ble_eq_true rfl⟩ ?_
  refine lv_aload_n hx hb dX9_init_4 rfl (lv_at hl 0 rfl) ?_
  refine lv_bipush (v := nI 60) hx hb dX9_init_5 (by decide) ?_
  refine mh_newa (atype := .int) (a0 := (60, .inl (fun _ => 0))) (N' := 60) hB 0 rfl rfl (fun _ h => by cases h) kw_67 (fun _ => rfl) (nI_pos (by omega)) (nI_clamp (by omega)) (Nat.le_of_ble_eq_true rfl) hS (Nat.le_of_ble_eq_true rfl) (Nat.le_of_ble_eq_true rfl) dX9_init_7 (fun H1 hwr => ?_)
  obtain ⟨hr0, ho, hz, hS⟩ := hwr
  have hq0 := hq0.kept (ho _ hq0.lt)
  rw [hsz] at hr0 hz
  refine mh_top (congrArg Value.ref hsz) ?_
  have hsz := hz
  generalize H1 = H at hr0 hS hsz hq0 ⊢
  refine W.widen (k := 1) (n := 60) (Nat.le_of_ble_eq_true rfl) (Nat.le_of_ble_eq_true rfl) ?_
  refine pf_X9_9 hB hin hq0 (Or.inl (by omega)) hS rfl rfl (Nat.le_of_ble_eq_true rfl) dX9_init_9 (fun H locs hwr => ?_)
  obtain ⟨hq0, ho, hz, hS⟩ := hwr
  have hr0 := hr0.kept (ho _ (by omega))
  have hsz := hz.trans hsz
  refine lv_aload_n hx hb dX9_init_12 rfl (lv_at hl 0 rfl) ?_
  refine lv_bipush (v := nI 60) hx hb dX9_init_13 (by decide) ?_
  refine mh_newa (atype := .int) (a0 := (60, .inl (fun _ => 0))) (N' := 60) hB 0 rfl rfl (fun _ h => by cases h) kw_67 (fun _ => rfl) (nI_pos (by omega)) (nI_clamp (by omega)) (Nat.le_of_ble_eq_true rfl) hS (Nat.le_of_ble_eq_true rfl) (Nat.le_of_ble_eq_true rfl) dX9_init_15 (fun H1 hwr => ?_)
  obtain ⟨hr1, ho, hz, hS⟩ := hwr
  have hq0 := hq0.kept (ho _ hq0.lt)
  have hr0 := hr0.kept (ho _ hr0.lt)
  rw [hsz] at hr1 hz
  refine mh_top (congrArg Value.ref hsz) ?_
  have hsz := hz
  generalize H1 = H at hr1 hS hsz hq0 hr0 ⊢
  refine W.widen (k := 2) (n := 120) (Nat.le_of_ble_eq_true rfl) (Nat.le_of_ble_eq_true rfl) ?_
  refine pf_X9_15 hB hin hq0 (Or.inl (by omega)) hS rfl rfl (Nat.le_of_ble_eq_true rfl) dX9_init_17 (fun H locs hwr => ?_)
  obtain ⟨hq0, ho, hz, hS⟩ := hwr
  have hr0 := hr0.kept (ho _ (by omega))
  have hr1 := hr1.kept (ho _ (by omega))
  have hsz := hz.trans hsz
  refine lv_aload_n hx hb dX9_init_20 rfl (lv_at hl 0 rfl) ?_
  refine lv_bipush (v := nI 60) hx hb dX9_init_21 (by decide) ?_
  refine mh_newa (atype := .int) (a0 := (60, .inl (fun _ => 0))) (N' := 60) hB 0 rfl rfl (fun _ h => by cases h) kw_67 (fun _ => rfl) (nI_pos (by omega)) (nI_clamp (by omega)) (Nat.le_of_ble_eq_true rfl) hS (Nat.le_of_ble_eq_true rfl) (Nat.le_of_ble_eq_true rfl) dX9_init_23 (fun H1 hwr => ?_)
  obtain ⟨hr2, ho, hz, hS⟩ := hwr
  have hq0 := hq0.kept (ho _ hq0.lt)
  have hr0 := hr0.kept (ho _ hr0.lt)
  have hr1 := hr1.kept (ho _ hr1.lt)
  rw [hsz] at hr2 hz
  refine mh_top (congrArg Value.ref hsz) ?_
  have hsz := hz
  generalize H1 = H at hr2 hS hsz hq0 hr0 hr1 ⊢
  refine W.widen (k := 3) (n := 180) (Nat.le_of_ble_eq_true rfl) (Nat.le_of_ble_eq_true rfl) ?_
  refine pf_X9_18 hB hin hq0 (Or.inl (by omega)) hS rfl rfl (Nat.le_of_ble_eq_true rfl) dX9_init_25 (fun H locs hwr => ?_)
  obtain ⟨hq0, ho, hz, hS⟩ := hwr
  have hr0 := hr0.kept (ho _ (by omega))
  have hr1 := hr1.kept (ho _ (by omega))
  have hr2 := hr2.kept (ho _ (by omega))
  have hsz := hz.trans hsz
  refine lv_aload_n hx hb dX9_init_28 rfl (lv_at hl 0 rfl) ?_
  refine lv_bipush (v := nI 60) hx hb dX9_init_29 (by decide) ?_
  refine mh_newa (atype := .int) (a0 := (60, .inl (fun _ => 0))) (N' := 60) hB 0 rfl rfl (fun _ h => by cases h) kw_67 (fun _ => rfl) (nI_pos (by omega)) (nI_clamp (by omega)) (Nat.le_of_ble_eq_true rfl) hS (Nat.le_of_ble_eq_true rfl) (Nat.le_of_ble_eq_true rfl) dX9_init_31 (fun H1 hwr => ?_)
  obtain ⟨hr3, ho, hz, hS⟩ := hwr
  have hq0 := hq0.kept (ho _ hq0.lt)
  have hr0 := hr0.kept (ho _ hr0.lt)
  have hr1 := hr1.kept (ho _ hr1.lt)
  have hr2 := hr2.kept (ho _ hr2.lt)
  rw [hsz] at hr3 hz
  refine mh_top (congrArg Value.ref hsz) ?_
  have hsz := hz
  generalize H1 = H at hr3 hS hsz hq0 hr0 hr1 hr2 ⊢
  refine W.widen (k := 4) (n := 240) (Nat.le_of_ble_eq_true rfl) (Nat.le_of_ble_eq_true rfl) ?_
  refine pf_X9_21 hB hin hq0 (Or.inl (by omega)) hS rfl rfl (Nat.le_of_ble_eq_true rfl) dX9_init_33 (fun H locs hwr => ?_)
  obtain ⟨hq0, ho, hz, hS⟩ := hwr
  have hr0 := hr0.kept (ho _ (by omega))
  have hr1 := hr1.kept (ho _ (by omega))
  have hr2 := hr2.kept (ho _ (by omega))
  have hr3 := hr3.kept (ho _ (by omega))
  have hsz := hz.trans hsz
  refine lv_aload_n hx hb dX9_init_36 rfl (lv_at hl 0 rfl) ?_
  refine lv_bipush (v := nI 60) hx hb dX9_init_37 (by decide) ?_
  refine mh_newa (atype := .int) (a0 := (60, .inl (fun _ => 0))) (N' := 60) hB 0 rfl rfl (fun _ h => by cases h) kw_67 (fun _ => rfl) (nI_pos (by omega)) (nI_clamp (by omega)) (Nat.le_of_ble_eq_true rfl) hS (Nat.le_of_ble_eq_true rfl) (Nat.le_of_ble_eq_true rfl) dX9_init_39 (fun H1 hwr => ?_)
  obtain ⟨hr4, ho, hz, hS⟩ := hwr
  have hq0 := hq0.kept (ho _ hq0.lt)
  have hr0 := hr0.kept (ho _ hr0.lt)
  have hr1 := hr1.kept (ho _ hr1.lt)
  have hr2 := hr2.kept (ho _ hr2.lt)
  have hr3 := hr3.kept (ho _ hr3.lt)
  rw [hsz] at hr4 hz
  refine mh_top (congrArg Value.ref hsz) ?_
  have hsz := hz
  generalize H1 = H at hr4 hS hsz hq0 hr0 hr1 hr2 hr3 ⊢
  refine W.widen (k := 5) (n := 300) (Nat.le_of_ble_eq_true rfl) (Nat.le_of_ble_eq_true rfl) ?_
  refine pf_X9_24 hB hin hq0 (Or.inl (by omega)) hS rfl rfl (Nat.le_of_ble_eq_true rfl) dX9_init_41 (fun H locs hwr => ?_)
  obtain ⟨hq0, ho, hz, hS⟩ := hwr
  have hr0 := hr0.kept (ho _ (by omega))
  have hr1 := hr1.kept (ho _ (by omega))
  have hr2 := hr2.kept (ho _ (by omega))
  have hr3 := hr3.kept (ho _ (by omega))
  have hr4 := hr4.kept (ho _ (by omega))
  have hsz := hz.trans hsz
  refine lv_aload_n hx hb dX9_init_44 rfl (lv_at hl 0 rfl) ?_
  refine lv_bipush (v := nI 60) hx hb dX9_init_45 (by decide) ?_
  refine mh_newa (atype := .int) (a0 := (60, .inl (fun _ => 0))) (N' := 60) hB 0 rfl rfl (fun _ h => by cases h) kw_67 (fun _ => rfl) (nI_pos (by omega)) (nI_clamp (by omega)) (Nat.le_of_ble_eq_true rfl) hS (Nat.le_of_ble_eq_true rfl) (Nat.le_of_ble_eq_true rfl) dX9_init_47 (fun H1 hwr => ?_)
  obtain ⟨hr5, ho, hz, hS⟩ := hwr
  have hq0 := hq0.kept (ho _ hq0.lt)
  have hr0 := hr0.kept (ho _ hr0.lt)
  have hr1 := hr1.kept (ho _ hr1.lt)
  have hr2 := hr2.kept (ho _ hr2.lt)
  have hr3 := hr3.kept (ho _ hr3.lt)
  have hr4 := hr4.kept (ho _ hr4.lt)
  rw [hsz] at hr5 hz
  refine mh_top (congrArg Value.ref hsz) ?_
  have hsz := hz
  generalize H1 = H at hr5 hS hsz hq0 hr0 hr1 hr2 hr3 hr4 ⊢
  refine W.widen (k := 6) (n := 360) (Nat.le_of_ble_eq_true rfl) (Nat.le_of_ble_eq_true rfl) ?_
  refine pf_X9_27 hB hin hq0 (Or.inl (by omega)) hS rfl rfl (Nat.le_of_ble_eq_true rfl) dX9_init_49 (fun H locs hwr => ?_)
  obtain ⟨hq0, ho, hz, hS⟩ := hwr
  have hr0 := hr0.kept (ho _ (by omega))
  have hr1 := hr1.kept (ho _ (by omega))
  have hr2 := hr2.kept (ho _ (by omega))
  have hr3 := hr3.kept (ho _ (by omega))
  have hr4 := hr4.kept (ho _ (by omega))
  have hr5 := hr5.kept (ho _ (by omega))
  have hsz := hz.trans hsz
  refine lv_aload_n hx hb dX9_init_52 rfl (lv_at hl 0 rfl) ?_
  refine lv_bipush (v := nI 60) hx hb dX9_init_53 (by decide) ?_
  refine mh_newa (atype := .int) (a0 := (60, .inl (fun _ => 0))) (N' := 60) hB 0 rfl rfl (fun _ h => by cases h) kw_67 (fun _ => rfl) (nI_pos (by omega)) (nI_clamp (by omega)) (Nat.le_of_ble_eq_true rfl) hS (Nat.le_of_ble_eq_true rfl) (Nat.le_of_ble_eq_true rfl) dX9_init_55 (fun H1 hwr => ?_)
  obtain ⟨hr6, ho, hz, hS⟩ := hwr
  have hq0 := hq0.kept (ho _ hq0.lt)
  have hr0 := hr0.kept (ho _ hr0.lt)
  have hr1 := hr1.kept (ho _ hr1.lt)
  have hr2 := hr2.kept (ho _ hr2.lt)
  have hr3 := hr3.kept (ho _ hr3.lt)
  have hr4 := hr4.kept (ho _ hr4.lt)
  have hr5 := hr5.kept (ho _ hr5.lt)
  rw [hsz] at hr6 hz
  refine mh_top (congrArg Value.ref hsz) ?_
  have hsz := hz
  generalize H1 = H at hr6 hS hsz hq0 hr0 hr1 hr2 hr3 hr4 hr5 ⊢
  refine W.widen (k := 7) (n := 420) (Nat.le_of_ble_eq_true rfl) (Nat.le_of_ble_eq_true rfl) ?_
  refine pf_X9_30 hB hin hq0 (Or.inl (by omega)) hS rfl rfl (Nat.le_of_ble_eq_true rfl) dX9_init_57 (fun H locs hwr => ?_)
  obtain ⟨hq0, ho, hz, hS⟩ := hwr
  have hr0 := hr0.kept (ho _ (by omega))
  have hr1 := hr1.kept (ho _ (by omega))
  have hr2 := hr2.kept (ho _ (by omega))
  have hr3 := hr3.kept (ho _ (by omega))
  have hr4 := hr4.kept (ho _ (by omega))
  have hr5 := hr5.kept (ho _ (by omega))
  have hr6 := hr6.kept (ho _ (by omega))
  have hsz := hz.trans hsz
  refine lv_aload_n hx hb dX9_init_60 rfl (lv_at hl 0 rfl) ?_
  refine lv_bipush (v := nI 60) hx hb dX9_init_61 (by decide) ?_
  refine mh_newa (atype := .int) (a0 := (60, .inl (fun _ => 0))) (N' := 60) hB 0 rfl rfl (fun _ h => by cases h) kw_67 (fun _ => rfl) (nI_pos (by omega)) (nI_clamp (by omega)) (Nat.le_of_ble_eq_true rfl) hS (Nat.le_of_ble_eq_true rfl) (Nat.le_of_ble_eq_true rfl) dX9_init_63 (fun H1 hwr => ?_)
  obtain ⟨hr7, ho, hz, hS⟩ := hwr
  have hq0 := hq0.kept (ho _ hq0.lt)
  have hr0 := hr0.kept (ho _ hr0.lt)
  have hr1 := hr1.kept (ho _ hr1.lt)
  have hr2 := hr2.kept (ho _ hr2.lt)
  have hr3 := hr3.kept (ho _ hr3.lt)
  have hr4 := hr4.kept (ho _ hr4.lt)
  have hr5 := hr5.kept (ho _ hr5.lt)
  have hr6 := hr6.kept (ho _ hr6.lt)
  rw [hsz] at hr7 hz
  refine mh_top (congrArg Value.ref hsz) ?_
  have hsz := hz
  generalize H1 = H at hr7 hS hsz hq0 hr0 hr1 hr2 hr3 hr4 hr5 hr6 ⊢
  refine W.widen (k := 8) (n := 480) (Nat.le_of_ble_eq_true rfl) (Nat.le_of_ble_eq_true rfl) ?_
  refine pf_X9_33 hB hin hq0 (Or.inl (by omega)) hS rfl rfl (Nat.le_of_ble_eq_true rfl) dX9_init_65 (fun H locs hwr => ?_)
  obtain ⟨hq0, ho, hz, hS⟩ := hwr
  have hr0 := hr0.kept (ho _ (by omega))
  have hr1 := hr1.kept (ho _ (by omega))
  have hr2 := hr2.kept (ho _ (by omega))
  have hr3 := hr3.kept (ho _ (by omega))
  have hr4 := hr4.kept (ho _ (by omega))
  have hr5 := hr5.kept (ho _ (by omega))
  have hr6 := hr6.kept (ho _ (by omega))
  have hr7 := hr7.kept (ho _ (by omega))
  have hsz := hz.trans hsz
  refine lv_aload_n hx hb dX9_init_68 rfl (lv_at hl 0 rfl) ?_
  refine lv_bipush (v := (-9)) hx hb dX9_init_69 (by decide) ?_
  refine pf_X9_36 hB hq0 (Or.inl (by omega)) hS rfl rfl (Nat.le_of_ble_eq_true rfl) dX9_init_71 (fun H locs hwr => ?_)
  obtain ⟨hq0, ho, hz, hS⟩ := hwr
  have hr0 := hr0.kept (ho _ (by omega))
  have hr1 := hr1.kept (ho _ (by omega))
  have hr2 := hr2.kept (ho _ (by omega))
  have hr3 := hr3.kept (ho _ (by omega))
  have hr4 := hr4.kept (ho _ (by omega))
  have hr5 := hr5.kept (ho _ (by omega))
  have hr6 := hr6.kept (ho _ (by omega))
  have hr7 := hr7.kept (ho _ (by omega))
  have hsz := hz.trans hsz
  refine mh_vret hB ⟨Nat.le_of_ble_eq_true rfl, Nat.le_of_ble_eq_true rfl⟩ hS dX9_init_74 ⟨?_, ?_, ?_⟩
  · rfl
  · exact ⟨_, _, _, _, _, _, _, _, _, hq0, hr0, hr1, hr2, hr3, hr4, hr5, hr6, hr7⟩
  · exact hsz

def rm_c_X5_init : Room := { frames := 1, cells := 2, slots := 512, locals := 20 }
set_option maxRecDepth 100000 in
set_option maxHeartbeats 400000 in
theorem c_X5_init (l : Launch) (g : GG) (H0 : Heap) (pb : Nat) (hq0 : at_ g H0 pb (eO 5 [.null, .null, .int (nI 0)])) (hsz : H0.size = pb + 1) : Ct l yX5_init cX5_init 1 none rm_c_X5_init g [.ref pb] H0 (ftA (fun q9 => pb ≤ q9 ∧ q9 < pb + 3) H0.size) (fun v H1 => v = none ∧ PfC g pb H1 ∧ H1.size = pb + 3) := by
  refine Ct.of (by decide) (fun _ h => Or.inr h) (Nat.le_of_ble_eq_true rfl) ?_
  intro p e s m below meth c ls hB hin hS hH hl
  have hx := hB.x
  have hb := hB.b
  have hl : lv_has ls 1 [(0, .ref pb)] := hl
  refine lv_aload_n hx hb dX5_init_0 rfl (lv_at hl 0 rfl) ?_
  refine ob_X5_3 hB hl.1 dX5_init_1 ⟨Nat.le_of_ble_eq_true rfl, Nat.le_of_ble_eq_true rfl⟩ ?_
  refine lv_aload_n hx hb dX5_init_4 rfl (lv_at hl 0 rfl) ?_
  refine lv_sipush (v := nI 256) hx hb dX5_init_5 (by decide +kernel) ?_
  refine mh_newa (atype := .boolean) (a0 := (256, .inl (fun _ => 0))) (N' := 256) hB 2 rfl rfl (fun _ h => by cases h) kw_217 (fun _ => rfl) (nI_pos (by omega)) (nI_clamp (by omega)) (Nat.le_of_ble_eq_true rfl) hS (Nat.le_of_ble_eq_true rfl) (Nat.le_of_ble_eq_true rfl) dX5_init_8 (fun H1 hwr => ?_)
  obtain ⟨hr0, ho, hz, hS⟩ := hwr
  have hq0 := hq0.kept (ho _ hq0.lt)
  rw [hsz] at hr0 hz
  refine mh_top (congrArg Value.ref hsz) ?_
  have hsz := hz
  generalize H1 = H at hr0 hS hsz hq0 ⊢
  refine W.widen (k := 1) (n := 256) (Nat.le_of_ble_eq_true rfl) (Nat.le_of_ble_eq_true rfl) ?_
  refine pf_X5_9 hB hin hq0 (Or.inl (by omega)) hS rfl rfl (Nat.le_of_ble_eq_true rfl) dX5_init_10 (fun H locs hwr => ?_)
  obtain ⟨hq0, ho, hz, hS⟩ := hwr
  have hr0 := hr0.kept (ho _ (by omega))
  have hsz := hz.trans hsz
  refine lv_aload_n hx hb dX5_init_13 rfl (lv_at hl 0 rfl) ?_
  refine lv_sipush (v := nI 256) hx hb dX5_init_14 (by decide +kernel) ?_
  refine mh_newa (atype := .int) (a0 := (256, .inl (fun _ => 0))) (N' := 256) hB 0 rfl rfl (fun _ h => by cases h) kw_67 (fun _ => rfl) (nI_pos (by omega)) (nI_clamp (by omega)) (Nat.le_of_ble_eq_true rfl) hS (Nat.le_of_ble_eq_true rfl) (Nat.le_of_ble_eq_true rfl) dX5_init_17 (fun H1 hwr => ?_)
  obtain ⟨hr1, ho, hz, hS⟩ := hwr
  have hq0 := hq0.kept (ho _ hq0.lt)
  have hr0 := hr0.kept (ho _ hr0.lt)
  rw [hsz] at hr1 hz
  refine mh_top (congrArg Value.ref hsz) ?_
  have hsz := hz
  generalize H1 = H at hr1 hS hsz hq0 hr0 ⊢
  refine W.widen (k := 2) (n := 512) (Nat.le_of_ble_eq_true rfl) (Nat.le_of_ble_eq_true rfl) ?_
  refine pf_X5_15 hB hin hq0 (Or.inl (by omega)) hS rfl rfl (Nat.le_of_ble_eq_true rfl) dX5_init_19 (fun H locs hwr => ?_)
  obtain ⟨hq0, ho, hz, hS⟩ := hwr
  have hr0 := hr0.kept (ho _ (by omega))
  have hr1 := hr1.kept (ho _ (by omega))
  have hsz := hz.trans hsz
  refine mh_vret hB ⟨Nat.le_of_ble_eq_true rfl, Nat.le_of_ble_eq_true rfl⟩ hS dX5_init_22 ⟨?_, ?_, ?_⟩
  · rfl
  · exact ⟨_, _, _, hq0, hr0, hr1⟩
  · exact hsz

def rm_c_X9_isFull : Room := { frames := 0, cells := 0, slots := 0, locals := 0 }
set_option maxRecDepth 100000 in
set_option maxHeartbeats 400000 in
theorem c_X9_isFull (l : Launch) (g : GG) (H0 : Heap) (tb : Nat) (ln : Nat) (oc : Int32) (wh : Int32) (hto : at_ g H0 tb (eO 7 [.ref (tb + 1), .int (nI ln), .ref (tb + 2), .ref (tb + 3), .ref (tb + 4), .ref (tb + 5), .ref (tb + 6), .ref (tb + 7), .ref (tb + 8), .int oc, .int wh])) (hl6 : ln ≤ 60) : Ct l yX9_isFull cX9_isFull 1 (some .boolean) rm_c_X9_isFull g [.ref tb] H0 (ftA (fun _ => False) H0.size) (fun v H1 => v = some (.int (bI (decide (ln = 60)))) ∧ H0 = H1) := by
  refine Ct.of (by decide) (fun _ h => Or.inr h) (Nat.le_of_ble_eq_true rfl) ?_
  intro p e s m below meth c ls hB hin hS hH hl
  have hx := hB.x
  have hb := hB.b
  have hl : lv_has ls 1 [(0, .ref tb)] := hl
  refine lv_aload_n hx hb dX9_isFull_0 rfl (lv_at hl 0 rfl) ?_
  refine gf_X9_40 hB hto rfl dX9_isFull_1 ?_
  refine lv_bipush (v := nI 60) hx hb dX9_isFull_4 (by decide) ?_
  refine mn_icmp_lt (tgt := 13) hB dX9_isFull_6 (by decide) (by omega) (by omega) (fun h_6 => ?_) (fun h_6 => ?_)
  · skip
    refine lv_iconst (v := nI 0) hx hb dX9_isFull_13 (by decide) ?_
    refine mh_zret hB ⟨Nat.le_of_ble_eq_true rfl, Nat.le_of_ble_eq_true rfl⟩ hS dX9_isFull_14 (by first | rfl | decide | (split <;> rfl)) ⟨?_, rfl⟩
    · first | (rw [show decide (ln = 60) = true from decide_eq_true (by omega)]; rfl) | (rw [show decide (ln = 60) = false from decide_eq_false (by omega)]; rfl)
  · skip
    refine lv_iconst (v := nI 1) hx hb dX9_isFull_9 (by decide) ?_
    refine lv_goto (tgt := 14) hx hb dX9_isFull_10 (by decide) ?_
    refine mh_zret hB ⟨Nat.le_of_ble_eq_true rfl, Nat.le_of_ble_eq_true rfl⟩ hS dX9_isFull_14 (by first | rfl | decide | (split <;> rfl)) ⟨?_, rfl⟩
    · first | (rw [show decide (ln = 60) = true from decide_eq_true (by omega)]; rfl) | (rw [show decide (ln = 60) = false from decide_eq_false (by omega)]; rfl)

def rm_c_X9_add : Room := { frames := 1, cells := 0, slots := 0, locals := 22 }
set_option maxRecDepth 100000 in
set_option maxHeartbeats 400000 in
theorem c_X9_add (l : Launch) (g : GG) (H0 : Heap) (tb : Nat) (ln : Nat) (oc : Int32) (wh : Int32) (tx : Nat → Int32) (k : Nat) (hto : at_ g H0 tb (eO 7 [.ref (tb + 1), .int (nI ln), .ref (tb + 2), .ref (tb + 3), .ref (tb + 4), .ref (tb + 5), .ref (tb + 6), .ref (tb + 7), .ref (tb + 8), .int oc, .int wh])) (htc : at_ g H0 (tb + 1) (eI g 60 tx)) (hl6 : ln < 60) : Ct l yX9_add cX9_add 2 (some .int) rm_c_X9_add g [.ref tb, .int (nI k)] H0 (ftA (fun q9 => q9 = tb ∨ q9 = tb + 1) H0.size) (fun v H1 => v = some (.int (nI (ln + 1))) ∧ at_ g H1 tb (eO 7 [.ref (tb + 1), .int (nI (ln + 1)), .ref (tb + 2), .ref (tb + 3), .ref (tb + 4), .ref (tb + 5), .ref (tb + 6), .ref (tb + 7), .ref (tb + 8), .int oc, .int wh]) ∧ at_ g H1 (tb + 1) (eI g 60 (upd tx ln (nI k)))) := by
  refine Ct.of (by decide) (fun _ h => Or.inr h) (Nat.le_of_ble_eq_true rfl) ?_
  intro p e s m below meth c ls hB hin hS hH hl
  have hx := hB.x
  have hb := hB.b
  have hl : lv_has ls 2 [(0, .ref tb), (1, .int (nI k))] := hl
  refine lv_aload_n hx hb dX9_add_0 rfl (lv_at hl 0 rfl) ?_
  refine gf_X9_9 hB hto rfl dX9_add_1 ?_
  refine lv_aload_n hx hb dX9_add_4 rfl (lv_at hl 0 rfl) ?_
  refine gf_X9_40 hB hto rfl dX9_add_5 ?_
  refine lv_iload_n hx hb dX9_add_8 rfl (lv_at hl 1 rfl) ?_
  refine cl_X9_43 (As := [.ref (tb + 1), .int (nI ln), .int (nI k)]) (rest := []) hB (c_X6_put l g H0 (tb + 1) 60 tx ln (nI k) htc (by first | assumption | omega) (by first | assumption | omega)) rfl hl.1 (Nat.le_of_ble_eq_true rfl) dX9_add_9 ⟨Nat.le_of_ble_eq_true rfl, Nat.le_of_ble_eq_true rfl⟩ ⟨Nat.le_of_ble_eq_true rfl, Nat.le_of_ble_eq_true rfl⟩ hS (by have hz9 := hS.1; rintro q (h | h) <;> first | exact Or.inr (by omega) | exact h.elim | exact Or.inl h | (simp only [ftA] at h ⊢; omega)) (fun v H1 locs hpo hfr hS => ?_)
  obtain ⟨rfl, htc⟩ := hpo
  have hto := Fr.keep hfr hto (by first | omega | exact fun y => y.elim)
  generalize H1 = H at hfr hS hto htc ⊢
  refine W.widen (k := 0) (n := 0) (Nat.le_of_ble_eq_true rfl) (Nat.le_of_ble_eq_true rfl) ?_
  refine lv_aload_n hx hb dX9_add_12 rfl (lv_at hl 0 rfl) ?_
  refine lv_dup hx hb dX9_add_13 rfl ?_
  refine gf_X9_40 hB hto rfl dX9_add_14 ?_
  refine lv_iconst (v := nI 1) hx hb dX9_add_17 (by decide) ?_
  refine mn_iadd hB dX9_add_18 ?_
  refine pf_X9_40 hB hto (Or.inl (Or.inl rfl)) hS rfl rfl (Nat.le_of_ble_eq_true rfl) dX9_add_19 (fun H locs hwr => ?_)
  obtain ⟨hto, ho, hz, hS⟩ := hwr
  have htc := htc.kept (ho _ (by omega))
  refine lv_aload_n hx hb dX9_add_22 rfl (lv_at hl 0 rfl) ?_
  refine gf_X9_40 hB hto rfl dX9_add_23 ?_
  refine mh_iret hB ⟨Nat.le_of_ble_eq_true rfl, Nat.le_of_ble_eq_true rfl⟩ hS dX9_add_26 ⟨?_, ?_, ?_⟩
  · rfl
  · exact hto
  · exact htc

def rm_c_X9_empty : Room := { frames := 0, cells := 0, slots := 0, locals := 0 }
set_option maxRecDepth 100000 in
set_option maxHeartbeats 400000 in
theorem c_X9_empty (l : Launch) (g : GG) (H0 : Heap) (tb : Nat) (ln : Nat) (oc : Int32) (wh : Int32) (hto : at_ g H0 tb (eO 7 [.ref (tb + 1), .int (nI ln), .ref (tb + 2), .ref (tb + 3), .ref (tb + 4), .ref (tb + 5), .ref (tb + 6), .ref (tb + 7), .ref (tb + 8), .int oc, .int wh])) : Ct l yX9_empty cX9_empty 2 (some .int) rm_c_X9_empty g [.ref tb] H0 (ftA (fun q9 => q9 = tb) H0.size) (fun v H1 => v = some (.int (nI ln)) ∧ at_ g H1 tb (eO 7 [.ref (tb + 1), .int (nI 0), .ref (tb + 2), .ref (tb + 3), .ref (tb + 4), .ref (tb + 5), .ref (tb + 6), .ref (tb + 7), .ref (tb + 8), .int oc, .int wh])) := by
  refine Ct.of (by decide) (fun _ h => Or.inr h) (Nat.le_of_ble_eq_true rfl) ?_
  intro p e s m below meth c ls hB hin hS hH hl
  have hx := hB.x
  have hb := hB.b
  have hl : lv_has ls 2 [(0, .ref tb)] := hl
  refine lv_aload_n hx hb dX9_empty_0 rfl (lv_at hl 0 rfl) ?_
  refine gf_X9_40 hB hto rfl dX9_empty_1 ?_
  refine lv_istore_n (lv' := [(1, .int (nI ln)), (0, .ref tb)]) hx hb dX9_empty_4 rfl hl (by decide) rfl (fun ls hl => ?_)
  refine lv_aload_n hx hb dX9_empty_5 rfl (lv_at hl 1 rfl) ?_
  refine lv_iconst (v := nI 0) hx hb dX9_empty_6 (by decide) ?_
  refine pf_X9_40 hB hto (by first | exact Or.inl rfl | (simp only [ftA]; omega) | (simp [ftA]; omega)) hS rfl rfl (Nat.le_of_ble_eq_true rfl) dX9_empty_7 (fun H locs hwr => ?_)
  obtain ⟨hto, ho, hz, hS⟩ := hwr
  refine lv_iload_n hx hb dX9_empty_10 rfl (lv_at hl 0 rfl) ?_
  refine mh_iret hB ⟨Nat.le_of_ble_eq_true rfl, Nat.le_of_ble_eq_true rfl⟩ hS dX9_empty_11 ⟨?_, ?_⟩
  · rfl
  · exact hto

def rm_f_X10_append : Room := { frames := 2, cells := 0, slots := 0, locals := 43 }
set_option maxRecDepth 100000 in
set_option maxHeartbeats 400000 in
theorem f_X10_append (l : Launch) (g : GG) (H0 : Heap) (xb : Nat) (lim : Nat) (q : Nat → Int32) (n : Nat) (rm : Nat → Int32) (sl : Nat → Int32) (sv : Nat → Int32) (tx : Nat → Int32) (ln : Nat) (k : Nat) (hC : CLS g xb lim q n rm sl sv tx ln H0) (hk : k < 256) (hl60 : ln < 60) : Ct l yX10_append cX10_append 2 (some .int) rm_f_X10_append g [.ref xb, .int (nI k)] H0 (ftA (CF xb lim) H0.size) (fun v H1 => v = some (.int (nI (ln + 1))) ∧ CLS g xb lim (q) (n) (rm) (sl) (sv) (upd tx ln (nI k)) (ln + 1) H1) := by
  refine Ct.of (by decide) (fun _ h => Or.inr h) (Nat.le_of_ble_eq_true rfl) ?_
  intro p e s m below meth c ls hB hin hS hH hl
  have hx := hB.x
  have hb := hB.b
  have hl : lv_has ls 2 [(0, .ref xb), (1, .int (nI k))] := hl
  obtain ⟨D, P, T, Zr, Pr, zt, Pt, nx, hCi⟩ := hC
  have hS1 := hCi.2.2.1
  have hPT := hCi.2.2.2.1
  have hD : ∀ q9, xb + 10 ≤ q9 → q9 < xb + 10 + 26 → D q9 := fun q9 h1 h2 => hCi.2.2.2.2.2.2.2.2.2.2.2.2.1 q9 (by omega) (Nat.lt_of_lt_of_le (show q9 < xb + 68 by omega) hCi.2.2.2.2.2.2.2.2.2.2.2.2.2.2.2.2.1)
  have hW : WF q := hCi.2.2.2.2.2.2.2.2.2.2.2.2.2.2.1
  have hZ : WZ q := hCi.2.2.2.2.2.2.2.2.2.2.2.2.2.2.2.1
  have hnm5 := hW.2.2.1
  have hz0 : (zOf q) 0 = nI (nmQ q) := by rw [zOf_lo (by omega), hW.1]
  obtain ⟨wd, ht, fi, la, nx9, di, op, oc, wh, hTx⟩ := hCi.2.1
  have hto := hTx.1
  have htc := hTx.2.1
  have hln := hCi.2.2.2.2.2.2.2.2.2.2.2.2.2.2.2.2.2.2
  refine lv_iload_n hx hb dX10_append_0 rfl (lv_at hl 1 rfl) ?_
  refine lv_iconst (v := nI 0) hx hb dX10_append_1 (by decide) ?_
  refine lv_sipush (v := nI 255) hx hb dX10_append_2 (by decide +kernel) ?_
  refine cl_X10_44 (As := [.int (nI k), .int (nI 0), .int (nI 255)]) (rest := []) hB (c_X10_requireRange l g H0 k 0 255 (by first | assumption | omega) (by first | assumption | omega) (by first | assumption | omega)) rfl hl.1 (Nat.le_of_ble_eq_true rfl) dX10_append_5 ⟨Nat.le_of_ble_eq_true rfl, Nat.le_of_ble_eq_true rfl⟩ ⟨Nat.le_of_ble_eq_true rfl, Nat.le_of_ble_eq_true rfl⟩ hS (by have hz9 := hS.1; rintro q (h | h) <;> first | exact Or.inr (by omega) | exact h.elim | exact Or.inl h | (simp only [ftA] at h ⊢; omega)) (fun v H1 locs hpo hfr hS => ?_)
  obtain ⟨rfl, rfl⟩ := hpo
  refine W.widen (k := 0) (n := 0) (Nat.le_of_ble_eq_true rfl) (Nat.le_of_ble_eq_true rfl) ?_
  refine lv_aload_n hx hb dX10_append_8 rfl (lv_at hl 0 rfl) ?_
  refine gf_X10_10 hB hCi.1 rfl dX10_append_9 ?_
  refine cl_X10_48 (As := []) (rest := []) hB (c_X9_isFull l g H0 (xb + 1) ln oc wh hto (hln)) hto rfl hl.1 (Nat.le_of_ble_eq_true rfl) dX10_append_12 ⟨Nat.le_of_ble_eq_true rfl, Nat.le_of_ble_eq_true rfl⟩ ⟨Nat.le_of_ble_eq_true rfl, Nat.le_of_ble_eq_true rfl⟩ hS (by have hz9 := hS.1; rintro q (h | h) <;> first | exact Or.inr (by omega) | exact h.elim | exact Or.inl h | (simp only [ftA] at h ⊢; omega)) (fun v H1 locs hpo hfr hS => ?_)
  obtain ⟨rfl, rfl⟩ := hpo
  refine W.widen (k := 0) (n := 0) (Nat.le_of_ble_eq_true rfl) (Nat.le_of_ble_eq_true rfl) ?_
  refine mh_top (y := .int (nI 0)) (by rw [decide_eq_false (by omega)]; rfl) ?_
  refine mn_if_ne (tgt := 22) hB dX10_append_15 (by decide) (by omega) (fun h => by exfalso; omega) (fun h_15 => ?_)
  refine lv_iconst (v := nI 1) hx hb dX10_append_18 (by decide) ?_
  refine lv_goto (tgt := 23) hx hb dX10_append_19 (by decide) ?_
  refine cl_X10_52 (As := [.int (nI 1)]) (rest := []) hB (c_X10_requireState l g H0 ) rfl hl.1 (Nat.le_of_ble_eq_true rfl) dX10_append_23 ⟨Nat.le_of_ble_eq_true rfl, Nat.le_of_ble_eq_true rfl⟩ ⟨Nat.le_of_ble_eq_true rfl, Nat.le_of_ble_eq_true rfl⟩ hS (by have hz9 := hS.1; rintro q (h | h) <;> first | exact Or.inr (by omega) | exact h.elim | exact Or.inl h | (simp only [ftA] at h ⊢; omega)) (fun v H1 locs hpo hfr hS => ?_)
  obtain ⟨rfl, rfl⟩ := hpo
  refine W.widen (k := 0) (n := 0) (Nat.le_of_ble_eq_true rfl) (Nat.le_of_ble_eq_true rfl) ?_
  refine lv_aload_n hx hb dX10_append_26 rfl (lv_at hl 0 rfl) ?_
  refine gf_X10_10 hB hCi.1 rfl dX10_append_27 ?_
  refine lv_iload_n hx hb dX10_append_30 rfl (lv_at hl 1 rfl) ?_
  refine cl_X10_56 (As := [.int (nI k)]) (rest := []) hB (c_X9_add l g H0 (xb + 1) ln oc wh tx k hto htc (by first | assumption | omega)) hto rfl hl.1 (Nat.le_of_ble_eq_true rfl) dX10_append_31 ⟨Nat.le_of_ble_eq_true rfl, Nat.le_of_ble_eq_true rfl⟩ ⟨Nat.le_of_ble_eq_true rfl, Nat.le_of_ble_eq_true rfl⟩ hS (by have hz9 := hS.1; rintro q9 (h | h); exact Or.inl (CF.a (by omega)); exact Or.inr (by omega)) (fun v H1 locs hpo hfr hS => ?_)
  obtain ⟨rfl, hto, htc⟩ := hpo
  have hCi := hCi.text ⟨hfr.1, fun a h1 h2 => hfr.2 a h1 (fun y => h2 (y.elim (fun y => Or.inl (by omega)) Or.inr))⟩ ⟨wd, ht, fi, la, nx9, di, op, oc, wh, hTx.two hfr hto htc⟩ (by omega)
  generalize H1 = H at hfr hS hCi hto htc ⊢
  refine W.widen (k := 0) (n := 0) (Nat.le_of_ble_eq_true rfl) (Nat.le_of_ble_eq_true rfl) ?_
  refine mh_iret hB ⟨Nat.le_of_ble_eq_true rfl, Nat.le_of_ble_eq_true rfl⟩ hS dX10_append_34 ⟨?_, ?_⟩
  · rfl
  · exact ⟨_, _, _, _, _, _, _, _, hCi⟩

def rm_f_X10_clearText : Room := { frames := 1, cells := 0, slots := 0, locals := 21 }
set_option maxRecDepth 100000 in
set_option maxHeartbeats 400000 in
theorem f_X10_clearText (l : Launch) (g : GG) (H0 : Heap) (xb : Nat) (lim : Nat) (q : Nat → Int32) (n : Nat) (rm : Nat → Int32) (sl : Nat → Int32) (sv : Nat → Int32) (tx : Nat → Int32) (ln : Nat) (hC : CLS g xb lim q n rm sl sv tx ln H0) : Ct l yX10_clearText cX10_clearText 1 (some .int) rm_f_X10_clearText g [.ref xb] H0 (ftA (CF xb lim) H0.size) (fun v H1 => v = some (.int (nI ln)) ∧ CLS g xb lim (q) (n) (rm) (sl) (sv) (tx) (0) H1) := by
  refine Ct.of (by decide) (fun _ h => Or.inr h) (Nat.le_of_ble_eq_true rfl) ?_
  intro p e s m below meth c ls hB hin hS hH hl
  have hx := hB.x
  have hb := hB.b
  have hl : lv_has ls 1 [(0, .ref xb)] := hl
  obtain ⟨D, P, T, Zr, Pr, zt, Pt, nx, hCi⟩ := hC
  have hS1 := hCi.2.2.1
  have hPT := hCi.2.2.2.1
  have hD : ∀ q9, xb + 10 ≤ q9 → q9 < xb + 10 + 26 → D q9 := fun q9 h1 h2 => hCi.2.2.2.2.2.2.2.2.2.2.2.2.1 q9 (by omega) (Nat.lt_of_lt_of_le (show q9 < xb + 68 by omega) hCi.2.2.2.2.2.2.2.2.2.2.2.2.2.2.2.2.1)
  have hW : WF q := hCi.2.2.2.2.2.2.2.2.2.2.2.2.2.2.1
  have hZ : WZ q := hCi.2.2.2.2.2.2.2.2.2.2.2.2.2.2.2.1
  have hnm5 := hW.2.2.1
  have hz0 : (zOf q) 0 = nI (nmQ q) := by rw [zOf_lo (by omega), hW.1]
  obtain ⟨wd, ht, fi, la, nx9, di, op, oc, wh, hTx⟩ := hCi.2.1
  have hto := hTx.1
  have htc := hTx.2.1
  have hln := hCi.2.2.2.2.2.2.2.2.2.2.2.2.2.2.2.2.2.2
  refine lv_aload_n hx hb dX10_clearText_0 rfl (lv_at hl 0 rfl) ?_
  refine gf_X10_10 hB hCi.1 rfl dX10_clearText_1 ?_
  refine cl_X10_60 (As := []) (rest := []) hB (c_X9_empty l g H0 (xb + 1) ln oc wh hto) hto rfl hl.1 (Nat.le_of_ble_eq_true rfl) dX10_clearText_4 ⟨Nat.le_of_ble_eq_true rfl, Nat.le_of_ble_eq_true rfl⟩ ⟨Nat.le_of_ble_eq_true rfl, Nat.le_of_ble_eq_true rfl⟩ hS (by have hz9 := hS.1; rintro q9 (h | h); exact Or.inl (CF.a (by omega)); exact Or.inr (by omega)) (fun v H1 locs hpo hfr hS => ?_)
  obtain ⟨rfl, hto⟩ := hpo
  have hCi := hCi.text ⟨hfr.1, fun a h1 h2 => hfr.2 a h1 (fun y => h2 (y.elim (fun y => Or.inl (by omega)) Or.inr))⟩ ⟨wd, ht, fi, la, nx9, di, op, oc, wh, hTx.two (hfr.sub (fun _ y => Or.inl y)) hto (htc.kept (hfr.2 _ htc.lt (fun y => y.elim (fun y => by omega) (fun y => by have := htc.lt; omega))))⟩ (by omega)
  generalize H1 = H at hfr hS hCi hto ⊢
  refine W.widen (k := 0) (n := 0) (Nat.le_of_ble_eq_true rfl) (Nat.le_of_ble_eq_true rfl) ?_
  refine mh_iret hB ⟨Nat.le_of_ble_eq_true rfl, Nat.le_of_ble_eq_true rfl⟩ hS dX10_clearText_7 ⟨?_, ?_⟩
  · rfl
  · exact ⟨_, _, _, _, _, _, _, _, hCi⟩
