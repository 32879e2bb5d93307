/-! the class's cloth, member, frame: pure words -/
def clV (z : Nat → Int32) (k : Nat) : Nat → Int32
  | 0 => z (50 + k)
  | 1 => z (74 + k)
  | 2 => z (68 + k)
  | 3 => z (56 + k)
  | _ => z (62 + k)
def cpC1 (z y : Nat → Int32) (k : Nat) : Nat → Int32 := upd (upd (upd (upd (upd z (50 + k) (y (50 + k))) (74 + k) (y (74 + k))) (68 + k) (y (68 + k))) (56 + k) (y (56 + k))) (62 + k) (y (62 + k))
def cpM1 (z y : Nat → Int32) (k : Nat) : Nat → Int32 := layR (upd (upd (upd z (5 + k) (y (5 + k))) (10 + k) (y (10 + k))) (45 + k) (y (45 + k))) (15 + 6 * k) 6 (fun j7 => y (15 + 6 * k + j7))
def cpF1 (z y : Nat → Int32) (k : Nat) : Nat → Int32 := layR (upd z (80 + k) (y (80 + k))) (83 + 5 * k) 5 (fun j7 => y (83 + 5 * k + j7))
def putZ (z : Nat → Int32) (k : Nat) : Nat → Int32 := layR (upd z (80 + k) (nI 0)) (83 + 5 * k) 5 (fun _ => 0)
theorem sub_pos {a b : Nat} (ha : a < 1073741824) (hb : b < 1073741824) : (nI a - nI b).toInt = (a : Int) - b := pk_sub_toInt (by omega) (by omega)
theorem sub_gt {a b : Nat} (ha : a < 1073741824) (hb : b < 1073741824) : 0 < nI a - nI b ↔ b < a := by
  rw [Int32.lt_iff_toInt_lt, sub_pos ha hb, show (0 : Int32).toInt = 0 from rfl]
  omega
theorem sub_eq0 {a b : Nat} (ha : a < 1073741824) (hb : b < 1073741824) : nI a - nI b = 0 ↔ a = b := by
  rw [← Int32.toInt_inj, sub_pos ha hb, show (0 : Int32).toInt = 0 from rfl]
  omega

def rm_c_X0_init : Room := { frames := 1, cells := 0, slots := 0, locals := 20 }
set_option maxRecDepth 100000 in
set_option maxHeartbeats 400000 in
theorem c_X0_init (l : Launch) (g : GG) (H0 : Heap) (a : Nat) : Ct l yX0_init cX0_init 1 none rm_c_X0_init g [.ref a] H0 (ftA (fun _ => False) H0.size) (fun v H1 => v = none ∧ H0 = H1) := by
  refine Ct.of (by decide) (fun _ h => Or.inr h) (Nat.le_of_ble_eq_true rfl) ?_
  intro p e s m below meth c ls hB hin hS hH hl
  have hx := hB.x
  have hb := hB.b
  have hl : lv_has ls 1 [(0, .ref a)] := hl
  refine lv_aload_n hx hb dX0_init_0 rfl (lv_at hl 0 rfl) ?_
  refine ob_X0_1 hB hl.1 dX0_init_1 ⟨Nat.le_of_ble_eq_true rfl, Nat.le_of_ble_eq_true rfl⟩ ?_
  refine mh_vret hB ⟨Nat.le_of_ble_eq_true rfl, Nat.le_of_ble_eq_true rfl⟩ hS dX0_init_4 ⟨?_, rfl⟩
  · rfl

def rm_c_X0_pieces : Room := { frames := 0, cells := 0, slots := 0, locals := 0 }
set_option maxRecDepth 100000 in
set_option maxHeartbeats 400000 in
theorem c_X0_pieces (l : Launch) (g : GG) (H0 : Heap) (sb : Nat) (z : Nat → Int32) (P : Nat → Option Nat) (k : Nat) (w9 : Nat) (hS1 : StAt g sb z P H0) (hk : k < 6) (hw : w9 < 5) : Ct l yX0_pieces cX0_pieces 2 (some .int) rm_c_X0_pieces g [.ref (sb + (14 + k)), .int (nI w9)] H0 (ftA (fun _ => False) H0.size) (fun v H1 => v = some (.int (clV z k w9)) ∧ H0 = H1) := by
  refine Ct.of (by decide) (fun _ h => Or.inr h) (Nat.le_of_ble_eq_true rfl) ?_
  intro p e s m below meth c ls hB hin hS hH hl
  have hx := hB.x
  have hb := hB.b
  have hl : lv_has ls 2 [(0, .ref (sb + (14 + k))), (1, .int (nI w9))] := hl
  refine lv_iload_n hx hb dX0_pieces_0 rfl (lv_at hl 1 rfl) ?_
  rcases (show w9 = 0 ∨ w9 = 1 ∨ w9 = 2 ∨ w9 = 3 ∨ w9 = 4 by omega) with rfl | rfl | rfl | rfl | rfl
  · skip
    refine lv_tableIn (tgt := 32) (off := 31) hx hb dX0_pieces_1 (by decide) (by decide) (by decide) (by decide) ?_
    refine lv_aload_n hx hb dX0_pieces_32 rfl (lv_at hl 0 rfl) ?_
    refine gf_X0_7 hB (hS1.oc (k := k) (by omega)) rfl dX0_pieces_33 ?_
    refine mh_iret hB ⟨Nat.le_of_ble_eq_true rfl, Nat.le_of_ble_eq_true rfl⟩ hS dX0_pieces_36 ⟨?_, rfl⟩
    · rfl
  · skip
    refine lv_tableIn (tgt := 37) (off := 36) hx hb dX0_pieces_1 (by decide) (by decide) (by decide) (by decide) ?_
    refine lv_aload_n hx hb dX0_pieces_37 rfl (lv_at hl 0 rfl) ?_
    refine gf_X0_13 hB (hS1.oc (k := k) (by omega)) rfl dX0_pieces_38 ?_
    refine mh_iret hB ⟨Nat.le_of_ble_eq_true rfl, Nat.le_of_ble_eq_true rfl⟩ hS dX0_pieces_41 ⟨?_, rfl⟩
    · rfl
  · skip
    refine lv_tableIn (tgt := 42) (off := 41) hx hb dX0_pieces_1 (by decide) (by decide) (by decide) (by decide) ?_
    refine lv_aload_n hx hb dX0_pieces_42 rfl (lv_at hl 0 rfl) ?_
    refine gf_X0_16 hB (hS1.oc (k := k) (by omega)) rfl dX0_pieces_43 ?_
    refine mh_iret hB ⟨Nat.le_of_ble_eq_true rfl, Nat.le_of_ble_eq_true rfl⟩ hS dX0_pieces_46 ⟨?_, rfl⟩
    · rfl
  · skip
    refine lv_tableIn (tgt := 47) (off := 46) hx hb dX0_pieces_1 (by decide) (by decide) (by decide) (by decide) ?_
    refine lv_aload_n hx hb dX0_pieces_47 rfl (lv_at hl 0 rfl) ?_
    refine gf_X0_19 hB (hS1.oc (k := k) (by omega)) rfl dX0_pieces_48 ?_
    refine mh_iret hB ⟨Nat.le_of_ble_eq_true rfl, Nat.le_of_ble_eq_true rfl⟩ hS dX0_pieces_51 ⟨?_, rfl⟩
    · rfl
  · skip
    refine lv_tableOut (tgt := 52) hx hb dX0_pieces_1 (by decide) (by decide) ?_
    refine lv_aload_n hx hb dX0_pieces_52 rfl (lv_at hl 0 rfl) ?_
    refine gf_X0_22 hB (hS1.oc (k := k) (by omega)) rfl dX0_pieces_53 ?_
    refine mh_iret hB ⟨Nat.le_of_ble_eq_true rfl, Nat.le_of_ble_eq_true rfl⟩ hS dX0_pieces_56 ⟨?_, rfl⟩
    · rfl

def rm_c_X0_copyFrom : Room := { frames := 0, cells := 0, slots := 0, locals := 0 }
set_option maxRecDepth 100000 in
set_option maxHeartbeats 400000 in
theorem c_X0_copyFrom (l : Launch) (g : GG) (H0 : Heap) (sb : Nat) (z : Nat → Int32) (P : Nat → Option Nat) (ob : Nat) (z2 : Nat → Int32) (P2 : Nat → Option Nat) (k : Nat) (hS1 : StAt g sb z P H0) (hS2 : StAt g ob z2 P2 H0) (hdis : sb + 26 ≤ ob ∨ ob + 26 ≤ sb) (hk : k < 6) : Ct l yX0_copyFrom cX0_copyFrom 2 none rm_c_X0_copyFrom g [.ref (sb + (14 + k)), .ref (ob + (14 + k))] H0 (ftA (fun q9 => sb ≤ q9 ∧ q9 < sb + 26) H0.size) (fun v H1 => v = none ∧ StAt g sb (cpC1 z z2 k) P H1) := by
  refine Ct.of (by decide) (fun _ h => Or.inr h) (Nat.le_of_ble_eq_true rfl) ?_
  intro p e s m below meth c ls hB hin hS hH hl
  have hx := hB.x
  have hb := hB.b
  have hl : lv_has ls 2 [(0, .ref (sb + (14 + k))), (1, .ref (ob + (14 + k)))] := hl
  refine lv_aload_n hx hb dX0_copyFrom_0 rfl (lv_at hl 0 rfl) ?_
  refine lv_aload_n hx hb dX0_copyFrom_1 rfl (lv_at hl 1 rfl) ?_
  refine gf_X0_7 hB (hS2.oc (k := k) (by omega)) rfl dX0_copyFrom_2 ?_
  refine pf_X0_7 hB (hS1.oc (k := k) (by omega)) (by first | exact Or.inl rfl | (simp only [ftA]; omega) | (simp [ftA]; omega)) hS rfl rfl (Nat.le_of_ble_eq_true rfl) dX0_copyFrom_5 (fun H locs hwr => ?_)
  have ho := hwr.2.1
  have hz := hwr.2.2.1
  obtain ⟨hS1, hS⟩ := hS1.w_cS (by omega) hwr
  have hS2 := hS2.kept (fun q9 h1 h2 => ho q9 (by omega))
  refine lv_aload_n hx hb dX0_copyFrom_8 rfl (lv_at hl 0 rfl) ?_
  refine lv_aload_n hx hb dX0_copyFrom_9 rfl (lv_at hl 1 rfl) ?_
  refine gf_X0_13 hB (hS2.oc (k := k) (by omega)) rfl dX0_copyFrom_10 ?_
  refine pf_X0_13 hB (hS1.oc (k := k) (by omega)) (by first | exact Or.inl rfl | (simp only [ftA]; omega) | (simp [ftA]; omega)) hS rfl rfl (Nat.le_of_ble_eq_true rfl) dX0_copyFrom_13 (fun H locs hwr => ?_)
  have ho := hwr.2.1
  have hz := hwr.2.2.1
  obtain ⟨hS1, hS⟩ := hS1.w_cG (by omega) hwr
  have hS2 := hS2.kept (fun q9 h1 h2 => ho q9 (by omega))
  refine lv_aload_n hx hb dX0_copyFrom_16 rfl (lv_at hl 0 rfl) ?_
  refine lv_aload_n hx hb dX0_copyFrom_17 rfl (lv_at hl 1 rfl) ?_
  refine gf_X0_16 hB (hS2.oc (k := k) (by omega)) rfl dX0_copyFrom_18 ?_
  refine pf_X0_16 hB (hS1.oc (k := k) (by omega)) (by first | exact Or.inl rfl | (simp only [ftA]; omega) | (simp [ftA]; omega)) hS rfl rfl (Nat.le_of_ble_eq_true rfl) dX0_copyFrom_21 (fun H locs hwr => ?_)
  have ho := hwr.2.1
  have hz := hwr.2.2.1
  obtain ⟨hS1, hS⟩ := hS1.w_cQ (by omega) hwr
  have hS2 := hS2.kept (fun q9 h1 h2 => ho q9 (by omega))
  refine lv_aload_n hx hb dX0_copyFrom_24 rfl (lv_at hl 0 rfl) ?_
  refine lv_aload_n hx hb dX0_copyFrom_25 rfl (lv_at hl 1 rfl) ?_
  refine gf_X0_19 hB (hS2.oc (k := k) (by omega)) rfl dX0_copyFrom_26 ?_
  refine pf_X0_19 hB (hS1.oc (k := k) (by omega)) (by first | exact Or.inl rfl | (simp only [ftA]; omega) | (simp [ftA]; omega)) hS rfl rfl (Nat.le_of_ble_eq_true rfl) dX0_copyFrom_29 (fun H locs hwr => ?_)
  have ho := hwr.2.1
  have hz := hwr.2.2.1
  obtain ⟨hS1, hS⟩ := hS1.w_cX (by omega) hwr
  have hS2 := hS2.kept (fun q9 h1 h2 => ho q9 (by omega))
  refine lv_aload_n hx hb dX0_copyFrom_32 rfl (lv_at hl 0 rfl) ?_
  refine lv_aload_n hx hb dX0_copyFrom_33 rfl (lv_at hl 1 rfl) ?_
  refine gf_X0_22 hB (hS2.oc (k := k) (by omega)) rfl dX0_copyFrom_34 ?_
  refine pf_X0_22 hB (hS1.oc (k := k) (by omega)) (by first | exact Or.inl rfl | (simp only [ftA]; omega) | (simp [ftA]; omega)) hS rfl rfl (Nat.le_of_ble_eq_true rfl) dX0_copyFrom_37 (fun H locs hwr => ?_)
  have ho := hwr.2.1
  have hz := hwr.2.2.1
  obtain ⟨hS1, hS⟩ := hS1.w_cR (by omega) hwr
  have hS2 := hS2.kept (fun q9 h1 h2 => ho q9 (by omega))
  refine mh_vret hB ⟨Nat.le_of_ble_eq_true rfl, Nat.le_of_ble_eq_true rfl⟩ hS dX0_copyFrom_40 ⟨?_, ?_⟩
  · rfl
  · exact hS1

def rm_c_X3_init : Room := { frames := 1, cells := 1, slots := 6, locals := 20 }
set_option maxRecDepth 100000 in
set_option maxHeartbeats 400000 in
theorem c_X3_init (l : Launch) (g : GG) (H0 : Heap) (p0 : Nat) (n0 : Nat) (hq0 : at_ g H0 p0 (eO 3 [.int (nI 0), .int (nI 0), .int (nI 0), .null])) (hsz : H0.size = n0) : Ct l yX3_init cX3_init 1 none rm_c_X3_init g [.ref p0] H0 (ftA (fun q => q = p0) H0.size) (fun v H1 => v = none ∧ at_ g H1 p0 (eO 3 [.int (nI 0), .int (nI 0), .int (nI 0), .ref n0]) ∧ at_ g H1 n0 (eI g 6 (fun _ => 0)) ∧ H1.size = n0 + 1) := by
  refine Ct.of (by decide) (fun _ h => Or.inr h) (Nat.le_of_ble_eq_true rfl) ?_
  intro p e s m below meth c ls hB hin hS hH hl
  have hx := hB.x
  have hb := hB.b
  have hl : lv_has ls 1 [(0, .ref p0)] := hl
  have hpl := hq0.lt
  refine lv_aload_n hx hb dX3_init_0 rfl (lv_at hl 0 rfl) ?_
  refine ob_X3_3 hB hl.1 dX3_init_1 ⟨Nat.le_of_ble_eq_true rfl, Nat.le_of_ble_eq_true rfl⟩ ?_
  refine lv_aload_n hx hb dX3_init_4 rfl (lv_at hl 0 rfl) ?_
  refine lv_bipush (v := nI 6) hx hb dX3_init_5 (by decide) ?_
  refine mh_newa (atype := .int) (a0 := (6, .inl (fun _ => 0))) (N' := 6) hB 0 rfl rfl (fun _ h => by cases h) kw_67 (fun _ => rfl) (nI_pos (by omega)) (nI_clamp (by omega)) (Nat.le_of_ble_eq_true rfl) hS (Nat.le_of_ble_eq_true rfl) (Nat.le_of_ble_eq_true rfl) dX3_init_7 (fun H1 hwr => ?_)
  obtain ⟨hq1, ho, hz, hS⟩ := hwr
  have hq0 := hq0.kept (ho _ hq0.lt)
  rw [hsz] at hq1 hz
  refine mh_top (congrArg Value.ref hsz) ?_
  have hsz := hz
  generalize H1 = H at hq1 hS hsz hq0 ⊢
  refine W.widen (k := 1) (n := 6) (Nat.le_of_ble_eq_true rfl) (Nat.le_of_ble_eq_true rfl) ?_
  refine pf_X3_9 hB hin hq0 (by first | exact Or.inl rfl | (simp only [ftA]; omega) | (simp [ftA]; omega)) hS rfl rfl (Nat.le_of_ble_eq_true rfl) dX3_init_9 (fun H locs hwr => ?_)
  obtain ⟨hq0, ho, hz, hS⟩ := hwr
  have hq1 := hq1.kept (ho _ (by omega))
  have hsz := hz.trans hsz
  refine mh_vret hB ⟨Nat.le_of_ble_eq_true rfl, Nat.le_of_ble_eq_true rfl⟩ hS dX3_init_12 ⟨?_, ?_, ?_, ?_⟩
  · rfl
  · exact hq0
  · exact hq1
  · exact hsz

def rm_c_X1_init : Room := { frames := 1, cells := 1, slots := 5, locals := 20 }
set_option maxRecDepth 100000 in
set_option maxHeartbeats 400000 in
theorem c_X1_init (l : Launch) (g : GG) (H0 : Heap) (p0 : Nat) (n0 : Nat) (hq0 : at_ g H0 p0 (eO 1 [.null, .int (nI 0), .null])) (hsz : H0.size = n0) : Ct l yX1_init cX1_init 1 none rm_c_X1_init g [.ref p0] H0 (ftA (fun q => q = p0) H0.size) (fun v H1 => v = none ∧ at_ g H1 p0 (eO 1 [.null, .int (nI 0), .ref n0]) ∧ at_ g H1 n0 (eI g 5 (fun _ => 0)) ∧ H1.size = n0 + 1) := by
  refine Ct.of (by decide) (fun _ h => Or.inr h) (Nat.le_of_ble_eq_true rfl) ?_
  intro p e s m below meth c ls hB hin hS hH hl
  have hx := hB.x
  have hb := hB.b
  have hl : lv_has ls 1 [(0, .ref p0)] := hl
  have hpl := hq0.lt
  refine lv_aload_n hx hb dX1_init_0 rfl (lv_at hl 0 rfl) ?_
  refine ob_X1_3 hB hl.1 dX1_init_1 ⟨Nat.le_of_ble_eq_true rfl, Nat.le_of_ble_eq_true rfl⟩ ?_
  refine lv_aload_n hx hb dX1_init_4 rfl (lv_at hl 0 rfl) ?_
  refine lv_iconst (v := nI 5) hx hb dX1_init_5 (by decide) ?_
  refine mh_newa (atype := .int) (a0 := (5, .inl (fun _ => 0))) (N' := 5) hB 0 rfl rfl (fun _ h => by cases h) kw_67 (fun _ => rfl) (nI_pos (by omega)) (nI_clamp (by omega)) (Nat.le_of_ble_eq_true rfl) hS (Nat.le_of_ble_eq_true rfl) (Nat.le_of_ble_eq_true rfl) dX1_init_6 (fun H1 hwr => ?_)
  obtain ⟨hq1, ho, hz, hS⟩ := hwr
  have hq0 := hq0.kept (ho _ hq0.lt)
  rw [hsz] at hq1 hz
  refine mh_top (congrArg Value.ref hsz) ?_
  have hsz := hz
  generalize H1 = H at hq1 hS hsz hq0 ⊢
  refine W.widen (k := 1) (n := 5) (Nat.le_of_ble_eq_true rfl) (Nat.le_of_ble_eq_true rfl) ?_
  refine pf_X1_9 hB hin hq0 (by first | exact Or.inl rfl | (simp only [ftA]; omega) | (simp [ftA]; omega)) hS rfl rfl (Nat.le_of_ble_eq_true rfl) dX1_init_8 (fun H locs hwr => ?_)
  obtain ⟨hq0, ho, hz, hS⟩ := hwr
  have hq1 := hq1.kept (ho _ (by omega))
  have hsz := hz.trans hsz
  refine mh_vret hB ⟨Nat.le_of_ble_eq_true rfl, Nat.le_of_ble_eq_true rfl⟩ hS dX1_init_11 ⟨?_, ?_, ?_, ?_⟩
  · rfl
  · exact hq0
  · exact hq1
  · exact hsz

def rm_c_X3_copyFrom : Room := { frames := 1, cells := 0, slots := 0, locals := 22 }
set_option maxRecDepth 100000 in
set_option maxHeartbeats 400000 in
theorem c_X3_copyFrom (l : Launch) (g : GG) (H0 : Heap) (sb : Nat) (z : Nat → Int32) (P : Nat → Option Nat) (ob : Nat) (z2 : Nat → Int32) (P2 : Nat → Option Nat) (k : Nat) (hS1 : StAt g sb z P H0) (hS2 : StAt g ob z2 P2 H0) (hdis : sb + 26 ≤ ob ∨ ob + 26 ≤ sb) (hk : k < 5) : Ct l yX3_copyFrom cX3_copyFrom 2 none rm_c_X3_copyFrom g [.ref (sb + (4 + 2 * k)), .ref (ob + (4 + 2 * k))] H0 (ftA (fun q9 => sb ≤ q9 ∧ q9 < sb + 26) H0.size) (fun v H1 => v = none ∧ StAt g sb (cpM1 z z2 k) P H1) := by
  refine Ct.of (by decide) (fun _ h => Or.inr h) (Nat.le_of_ble_eq_true rfl) ?_
  intro p e s m below meth c ls hB hin hS hH hl
  have hx := hB.x
  have hb := hB.b
  have hl : lv_has ls 2 [(0, .ref (sb + (4 + 2 * k))), (1, .ref (ob + (4 + 2 * k)))] := hl
  refine lv_aload_n hx hb dX3_copyFrom_0 rfl (lv_at hl 0 rfl) ?_
  refine lv_aload_n hx hb dX3_copyFrom_1 rfl (lv_at hl 1 rfl) ?_
  refine gf_X3_15 hB (hS2.om (k := k) (by omega)) rfl dX3_copyFrom_2 ?_
  refine pf_X3_15 hB (hS1.om (k := k) (by omega)) (by first | exact Or.inl rfl | (simp only [ftA]; omega) | (simp [ftA]; omega)) hS rfl rfl (Nat.le_of_ble_eq_true rfl) dX3_copyFrom_5 (fun H locs hwr => ?_)
  have ho := hwr.2.1
  have hz := hwr.2.2.1
  obtain ⟨hS1, hS⟩ := hS1.w_mS (by omega) hwr
  have hS2 := hS2.kept (fun q9 h1 h2 => ho q9 (by omega))
  refine lv_aload_n hx hb dX3_copyFrom_8 rfl (lv_at hl 0 rfl) ?_
  refine lv_aload_n hx hb dX3_copyFrom_9 rfl (lv_at hl 1 rfl) ?_
  refine gf_X3_19 hB (hS2.om (k := k) (by omega)) rfl dX3_copyFrom_10 ?_
  refine pf_X3_19 hB (hS1.om (k := k) (by omega)) (by first | exact Or.inl rfl | (simp only [ftA]; omega) | (simp [ftA]; omega)) hS rfl rfl (Nat.le_of_ble_eq_true rfl) dX3_copyFrom_13 (fun H locs hwr => ?_)
  have ho := hwr.2.1
  have hz := hwr.2.2.1
  obtain ⟨hS1, hS⟩ := hS1.w_mP (by omega) hwr
  have hS2 := hS2.kept (fun q9 h1 h2 => ho q9 (by omega))
  refine lv_aload_n hx hb dX3_copyFrom_16 rfl (lv_at hl 0 rfl) ?_
  refine lv_aload_n hx hb dX3_copyFrom_17 rfl (lv_at hl 1 rfl) ?_
  refine gf_X3_22 hB (hS2.om (k := k) (by omega)) rfl dX3_copyFrom_18 ?_
  refine pf_X3_22 hB (hS1.om (k := k) (by omega)) (by first | exact Or.inl rfl | (simp only [ftA]; omega) | (simp [ftA]; omega)) hS rfl rfl (Nat.le_of_ble_eq_true rfl) dX3_copyFrom_21 (fun H locs hwr => ?_)
  have ho := hwr.2.1
  have hz := hwr.2.2.1
  obtain ⟨hS1, hS⟩ := hS1.w_mR (by omega) hwr
  have hS2 := hS2.kept (fun q9 h1 h2 => ho q9 (by omega))
  refine lv_aload_n hx hb dX3_copyFrom_24 rfl (lv_at hl 1 rfl) ?_
  refine gf_X3_9 hB (hS2.om (k := k) (by omega)) rfl dX3_copyFrom_25 ?_
  refine lv_aload_n hx hb dX3_copyFrom_28 rfl (lv_at hl 0 rfl) ?_
  refine gf_X3_9 hB (hS1.om (k := k) (by omega)) rfl dX3_copyFrom_29 ?_
  refine cl_X3_25 (As := [.ref (ob + (5 + 2 * k)), .ref (sb + (5 + 2 * k))]) (rest := []) hB (c_X6_copy l g H (ob + (5 + 2 * k)) (sb + (5 + 2 * k)) 6 (fun j7 => z2 (15 + 6 * k + j7)) (fun j7 => (upd (upd (upd z (5 + k) (z2 (5 + k))) (10 + k) (z2 (10 + k))) (45 + k) (z2 (45 + k))) (15 + 6 * k + j7)) (hS2.om2 (k := k) (by omega)) (hS1.om2 (k := k) (by omega)) (by omega) (by omega)) rfl hl.1 (Nat.le_of_ble_eq_true rfl) dX3_copyFrom_32 ⟨Nat.le_of_ble_eq_true rfl, Nat.le_of_ble_eq_true rfl⟩ ⟨Nat.le_of_ble_eq_true rfl, Nat.le_of_ble_eq_true rfl⟩ hS (by have hz9 := hS.1; rintro q (h | h) <;> first | exact Or.inr (by omega) | exact h.elim | exact Or.inl h | (simp only [ftA] at h ⊢; omega)) (fun v H1 locs hpo hfr hS => ?_)
  obtain ⟨rfl, hb9⟩ := hpo
  have hS1 := hS1.f_mG (by omega) hfr hb9
  have hS2 := hS2.keptF hfr (fun q9 h1 h2 => by first | omega | exact fun y => y.elim)
  generalize H1 = H at hfr hS hS1 hS2 ⊢
  refine W.widen (k := 0) (n := 0) (Nat.le_of_ble_eq_true rfl) (Nat.le_of_ble_eq_true rfl) ?_
  refine mh_vret hB ⟨Nat.le_of_ble_eq_true rfl, Nat.le_of_ble_eq_true rfl⟩ hS dX3_copyFrom_35 ⟨?_, ?_⟩
  · rfl
  · exact hS1

def rm_c_X1_copyFrom : Room := { frames := 1, cells := 0, slots := 0, locals := 22 }
set_option maxRecDepth 100000 in
set_option maxHeartbeats 400000 in
theorem c_X1_copyFrom (l : Launch) (g : GG) (H0 : Heap) (sb : Nat) (z : Nat → Int32) (P : Nat → Option Nat) (ob : Nat) (z2 : Nat → Int32) (P2 : Nat → Option Nat) (f : Nat) (hS1 : StAt g sb z P H0) (hS2 : StAt g ob z2 P2 H0) (hdis : sb + 26 ≤ ob ∨ ob + 26 ≤ sb) (hf : f < 3) : Ct l yX1_copyFrom cX1_copyFrom 2 none rm_c_X1_copyFrom g [.ref (sb + (20 + 2 * f)), .ref (ob + (20 + 2 * f))] H0 (ftA (fun q9 => sb ≤ q9 ∧ q9 < sb + 26) H0.size) (fun v H1 => v = none ∧ StAt g sb (cpF1 z z2 f) (va_up P f (P2 f)) H1) := by
  refine Ct.of (by decide) (fun _ h => Or.inr h) (Nat.le_of_ble_eq_true rfl) ?_
  intro p e s m below meth c ls hB hin hS hH hl
  have hx := hB.x
  have hb := hB.b
  have hl : lv_has ls 2 [(0, .ref (sb + (20 + 2 * f))), (1, .ref (ob + (20 + 2 * f)))] := hl
  refine lv_aload_n hx hb dX1_copyFrom_0 rfl (lv_at hl 0 rfl) ?_
  refine lv_aload_n hx hb dX1_copyFrom_1 rfl (lv_at hl 1 rfl) ?_
  refine gf_X1_15 hB (hS2.of (k := f) (by omega)) rfl dX1_copyFrom_2 ?_
  refine pf_X1_15 hB (hS1.of (k := f) (by omega)) (by first | exact Or.inl rfl | (simp only [ftA]; omega) | (simp [ftA]; omega)) hS va_rf_nar va_rf_fit (Nat.le_of_ble_eq_true rfl) dX1_copyFrom_5 (fun H locs hwr => ?_)
  have ho := hwr.2.1
  have hz := hwr.2.2.1
  obtain ⟨hS1, hS⟩ := hS1.w_fP (by omega) hwr
  have hS2 := hS2.kept (fun q9 h1 h2 => ho q9 (by omega))
  refine lv_aload_n hx hb dX1_copyFrom_8 rfl (lv_at hl 0 rfl) ?_
  refine lv_aload_n hx hb dX1_copyFrom_9 rfl (lv_at hl 1 rfl) ?_
  refine gf_X1_19 hB (hS2.of (k := f) (by omega)) rfl dX1_copyFrom_10 ?_
  refine pf_X1_19 hB (hS1.of (k := f) (by omega)) (by first | exact Or.inl rfl | (simp only [ftA]; omega) | (simp [ftA]; omega)) hS rfl rfl (Nat.le_of_ble_eq_true rfl) dX1_copyFrom_13 (fun H locs hwr => ?_)
  have ho := hwr.2.1
  have hz := hwr.2.2.1
  obtain ⟨hS1, hS⟩ := hS1.w_fS (by omega) hwr
  have hS2 := hS2.kept (fun q9 h1 h2 => ho q9 (by omega))
  refine lv_aload_n hx hb dX1_copyFrom_16 rfl (lv_at hl 1 rfl) ?_
  refine gf_X1_9 hB (hS2.of (k := f) (by omega)) rfl dX1_copyFrom_17 ?_
  refine lv_aload_n hx hb dX1_copyFrom_20 rfl (lv_at hl 0 rfl) ?_
  refine gf_X1_9 hB (hS1.of (k := f) (by omega)) rfl dX1_copyFrom_21 ?_
  refine cl_X1_53 (As := [.ref (ob + (21 + 2 * f)), .ref (sb + (21 + 2 * f))]) (rest := []) hB (c_X6_copy l g H (ob + (21 + 2 * f)) (sb + (21 + 2 * f)) 5 (fun j7 => z2 (83 + 5 * f + j7)) (fun j7 => (upd z (80 + f) (z2 (80 + f))) (83 + 5 * f + j7)) (hS2.of2 (k := f) (by omega)) (hS1.of2 (k := f) (by omega)) (by omega) (by omega)) rfl hl.1 (Nat.le_of_ble_eq_true rfl) dX1_copyFrom_24 ⟨Nat.le_of_ble_eq_true rfl, Nat.le_of_ble_eq_true rfl⟩ ⟨Nat.le_of_ble_eq_true rfl, Nat.le_of_ble_eq_true rfl⟩ hS (by have hz9 := hS.1; rintro q (h | h) <;> first | exact Or.inr (by omega) | exact h.elim | exact Or.inl h | (simp only [ftA] at h ⊢; omega)) (fun v H1 locs hpo hfr hS => ?_)
  obtain ⟨rfl, hb9⟩ := hpo
  have hS1 := hS1.f_fB (by omega) hfr hb9
  have hS2 := hS2.keptF hfr (fun q9 h1 h2 => by first | omega | exact fun y => y.elim)
  generalize H1 = H at hfr hS hS1 hS2 ⊢
  refine W.widen (k := 0) (n := 0) (Nat.le_of_ble_eq_true rfl) (Nat.le_of_ble_eq_true rfl) ?_
  refine mh_vret hB ⟨Nat.le_of_ble_eq_true rfl, Nat.le_of_ble_eq_true rfl⟩ hS dX1_copyFrom_27 ⟨?_, ?_⟩
  · rfl
  · exact hS1

def rm_c_X1_isEmpty : Room := { frames := 0, cells := 0, slots := 0, locals := 0 }
set_option maxRecDepth 100000 in
set_option maxHeartbeats 400000 in
theorem c_X1_isEmpty (l : Launch) (g : GG) (H0 : Heap) (sb : Nat) (z : Nat → Int32) (P : Nat → Option Nat) (D : Nat → Prop) (q : Nat → Int32) (f : Nat) (hS1 : StAt g sb z P H0) (hPT : PT g D P q H0) (hf : f < 3) : Ct l yX1_isEmpty cX1_isEmpty 1 (some .boolean) rm_c_X1_isEmpty g [.ref (sb + (20 + 2 * f))] H0 (ftA (fun _ => False) H0.size) (fun v H1 => v = some (.int (bI (decide (szF q f = 0)))) ∧ H0 = H1) := by
  refine Ct.of (by decide) (fun _ h => Or.inr h) (Nat.le_of_ble_eq_true rfl) ?_
  intro p e s m below meth c ls hB hin hS hH hl
  have hx := hB.x
  have hb := hB.b
  have hl : lv_has ls 1 [(0, .ref (sb + (20 + 2 * f)))] := hl
  rcases hPf : P f with _ | p9
  · skip
    have hz0 := hPT.none0 hf hPf
    refine lv_aload_n hx hb dX1_isEmpty_0 rfl (lv_at hl 0 rfl) ?_
    refine gf_X1_15 hB (hS1.ofN (k := f) (by omega) hPf) rfl dX1_isEmpty_1 ?_
    refine lv_ifnonnullN hx hb dX1_isEmpty_4 ?_
    refine lv_iconst (v := nI 1) hx hb dX1_isEmpty_7 (by decide) ?_
    refine lv_goto (tgt := 12) hx hb dX1_isEmpty_8 (by decide) ?_
    refine mh_zret hB ⟨Nat.le_of_ble_eq_true rfl, Nat.le_of_ble_eq_true rfl⟩ hS dX1_isEmpty_12 (by first | rfl | decide | (split <;> rfl)) ⟨?_, rfl⟩
    · first | (rw [show decide (szF q f = 0) = true from decide_eq_true (by omega)]; rfl) | (rw [show decide (szF q f = 0) = false from decide_eq_false (by omega)]; rfl)
  · skip
    have hz0 := hPT.pos hf hPf
    obtain ⟨b9, hd1, hd2, hpb⟩ := hPT.some0 hf hPf
    have hw0 := hpb.2.2.1
    have hw16 := hpb.2.2.2.1
    have hh0 := hpb.2.2.2.2.1
    have hh16 := hpb.2.2.2.2.2.1
    have hwh := hpb.2.2.2.2.2.2.1
    have hcol := hpb.2.2.2.2.2.2.2
    have hzz : szF q f = wdF q f * htF q f := rfl
    refine lv_aload_n hx hb dX1_isEmpty_0 rfl (lv_at hl 0 rfl) ?_
    refine gf_X1_15 hB (hS1.ofS (k := f) (by omega) hPf) rfl dX1_isEmpty_1 ?_
    refine lv_ifnonnull (tgt := 11) hx hb dX1_isEmpty_4 (by decide) ?_
    refine lv_iconst (v := nI 0) hx hb dX1_isEmpty_11 (by decide) ?_
    refine mh_zret hB ⟨Nat.le_of_ble_eq_true rfl, Nat.le_of_ble_eq_true rfl⟩ hS dX1_isEmpty_12 (by first | rfl | decide | (split <;> rfl)) ⟨?_, rfl⟩
    · first | (rw [show decide (szF q f = 0) = true from decide_eq_true (by omega)]; rfl) | (rw [show decide (szF q f = 0) = false from decide_eq_false (by omega)]; rfl)

def rm_c_X1_patches : Room := { frames := 1, cells := 0, slots := 0, locals := 20 }
set_option maxRecDepth 100000 in
set_option maxHeartbeats 400000 in
theorem c_X1_patches (l : Launch) (g : GG) (H0 : Heap) (sb : Nat) (z : Nat → Int32) (P : Nat → Option Nat) (D : Nat → Prop) (q : Nat → Int32) (f : Nat) (hS1 : StAt g sb z P H0) (hPT : PT g D P q H0) (hf : f < 3) : Ct l yX1_patches cX1_patches 1 (some .int) rm_c_X1_patches g [.ref (sb + (20 + 2 * f))] H0 (ftA (fun _ => False) H0.size) (fun v H1 => v = some (.int (nI (szF q f))) ∧ H0 = H1) := by
  refine Ct.of (by decide) (fun _ h => Or.inr h) (Nat.le_of_ble_eq_true rfl) ?_
  intro p e s m below meth c ls hB hin hS hH hl
  have hx := hB.x
  have hb := hB.b
  have hl : lv_has ls 1 [(0, .ref (sb + (20 + 2 * f)))] := hl
  rcases hPf : P f with _ | p9
  · skip
    have hz0 := hPT.none0 hf hPf
    refine lv_aload_n hx hb dX1_patches_0 rfl (lv_at hl 0 rfl) ?_
    refine gf_X1_15 hB (hS1.ofN (k := f) (by omega) hPf) rfl dX1_patches_1 ?_
    refine lv_ifnonnullN hx hb dX1_patches_4 ?_
    refine lv_iconst (v := nI 0) hx hb dX1_patches_7 (by decide) ?_
    refine lv_goto (tgt := 18) hx hb dX1_patches_8 (by decide) ?_
    refine mh_iret hB ⟨Nat.le_of_ble_eq_true rfl, Nat.le_of_ble_eq_true rfl⟩ hS dX1_patches_18 ⟨?_, rfl⟩
    · first | rfl | rw [hz0]
  · skip
    have hz0 := hPT.pos hf hPf
    obtain ⟨b9, hd1, hd2, hpb⟩ := hPT.some0 hf hPf
    have hw0 := hpb.2.2.1
    have hw16 := hpb.2.2.2.1
    have hh0 := hpb.2.2.2.2.1
    have hh16 := hpb.2.2.2.2.2.1
    have hwh := hpb.2.2.2.2.2.2.1
    have hcol := hpb.2.2.2.2.2.2.2
    have hzz : szF q f = wdF q f * htF q f := rfl
    refine lv_aload_n hx hb dX1_patches_0 rfl (lv_at hl 0 rfl) ?_
    refine gf_X1_15 hB (hS1.ofS (k := f) (by omega) hPf) rfl dX1_patches_1 ?_
    refine lv_ifnonnull (tgt := 11) hx hb dX1_patches_4 (by decide) ?_
    refine lv_aload_n hx hb dX1_patches_11 rfl (lv_at hl 0 rfl) ?_
    refine gf_X1_15 hB (hS1.ofS (k := f) (by omega) hPf) rfl dX1_patches_12 ?_
    refine cl_X1_27 (As := []) (rest := []) hB (c_X4_patches l g H0 p9 b9 (wdF q f) (htF q f) (clF q f) hpb) hpb.1 rfl hl.1 (Nat.le_of_ble_eq_true rfl) dX1_patches_15 ⟨Nat.le_of_ble_eq_true rfl, Nat.le_of_ble_eq_true rfl⟩ ⟨Nat.le_of_ble_eq_true rfl, Nat.le_of_ble_eq_true rfl⟩ hS (by have hz9 := hS.1; rintro q (h | h) <;> first | exact Or.inr (by omega) | exact h.elim | exact Or.inl h | (simp only [ftA] at h ⊢; omega)) (fun v H1 locs hpo hfr hS => ?_)
    obtain ⟨rfl, rfl⟩ := hpo
    refine W.widen (k := 0) (n := 0) (Nat.le_of_ble_eq_true rfl) (Nat.le_of_ble_eq_true rfl) ?_
    refine mh_iret hB ⟨Nat.le_of_ble_eq_true rfl, Nat.le_of_ble_eq_true rfl⟩ hS dX1_patches_18 ⟨?_, rfl⟩
    · first | rfl | rw [hz0]

def rm_c_X1_isFinished : Room := { frames := 2, cells := 0, slots := 0, locals := 40 }
set_option maxRecDepth 100000 in
set_option maxHeartbeats 400000 in
theorem c_X1_isFinished (l : Launch) (g : GG) (H0 : Heap) (sb : Nat) (z : Nat → Int32) (P : Nat → Option Nat) (D : Nat → Prop) (q : Nat → Int32) (f : Nat) (sw : Nat) (hS1 : StAt g sb z P H0) (hPT : PT g D P q H0) (hf : f < 3) (hsw : z (80 + f) = nI sw) (hsl : sw ≤ szF q f) (hs9 : szF q f ≤ 256) : Ct l yX1_isFinished cX1_isFinished 1 (some .boolean) rm_c_X1_isFinished g [.ref (sb + (20 + 2 * f))] H0 (ftA (fun _ => False) H0.size) (fun v H1 => v = some (.int (bI (decide (0 < szF q f ∧ szF q f ≤ sw)))) ∧ H0 = H1) := by
  refine Ct.of (by decide) (fun _ h => Or.inr h) (Nat.le_of_ble_eq_true rfl) ?_
  intro p e s m below meth c ls hB hin hS hH hl
  have hx := hB.x
  have hb := hB.b
  have hl : lv_has ls 1 [(0, .ref (sb + (20 + 2 * f)))] := hl
  rcases hPf : P f with _ | p9
  · skip
    have hz0 := hPT.none0 hf hPf
    refine lv_aload_n hx hb dX1_isFinished_0 rfl (lv_at hl 0 rfl) ?_
    refine gf_X1_15 hB (hS1.ofN (k := f) (by omega) hPf) rfl dX1_isFinished_1 ?_
    refine lv_ifnullN (tgt := 22) hx hb dX1_isFinished_4 (by decide) ?_
    refine lv_iconst (v := nI 0) hx hb dX1_isFinished_22 (by decide) ?_
    refine mh_zret hB ⟨Nat.le_of_ble_eq_true rfl, Nat.le_of_ble_eq_true rfl⟩ hS dX1_isFinished_23 (by first | rfl | decide | (split <;> rfl)) ⟨?_, rfl⟩
    · first | (rw [show decide (0 < szF q f ∧ szF q f ≤ sw) = true from decide_eq_true (by omega)]; rfl) | (rw [show decide (0 < szF q f ∧ szF q f ≤ sw) = false from decide_eq_false (by omega)]; rfl)
  · skip
    have hz0 := hPT.pos hf hPf
    obtain ⟨b9, hd1, hd2, hpb⟩ := hPT.some0 hf hPf
    have hw0 := hpb.2.2.1
    have hw16 := hpb.2.2.2.1
    have hh0 := hpb.2.2.2.2.1
    have hh16 := hpb.2.2.2.2.2.1
    have hwh := hpb.2.2.2.2.2.2.1
    have hcol := hpb.2.2.2.2.2.2.2
    have hzz : szF q f = wdF q f * htF q f := rfl
    refine lv_aload_n hx hb dX1_isFinished_0 rfl (lv_at hl 0 rfl) ?_
    refine gf_X1_15 hB (hS1.ofS (k := f) (by omega) hPf) rfl dX1_isFinished_1 ?_
    refine lv_ifnull hx hb dX1_isFinished_4 ?_
    refine lv_aload_n hx hb dX1_isFinished_7 rfl (lv_at hl 0 rfl) ?_
    refine gf_X1_19 hB (hS1.ofS (k := f) (by omega) hPf) rfl dX1_isFinished_8 ?_
    refine mh_top (y := .int (nI sw)) (by rw [hsw]) ?_
    refine lv_aload_n hx hb dX1_isFinished_11 rfl (lv_at hl 0 rfl) ?_
    refine cl_X1_23 (As := []) (rest := [.int (nI sw)]) hB (c_X1_patches l g H0 sb z P D q f hS1 hPT (by first | assumption | omega)) (hS1.ofS (k := f) (by omega) hPf) rfl hl.1 (Nat.le_of_ble_eq_true rfl) dX1_isFinished_12 ⟨Nat.le_of_ble_eq_true rfl, Nat.le_of_ble_eq_true rfl⟩ ⟨Nat.le_of_ble_eq_true rfl, Nat.le_of_ble_eq_true rfl⟩ hS (by have hz9 := hS.1; rintro q (h | h) <;> first | exact Or.inr (by omega) | exact h.elim | exact Or.inl h | (simp only [ftA] at h ⊢; omega)) (fun v H1 locs hpo hfr hS => ?_)
    obtain ⟨rfl, rfl⟩ := hpo
    refine W.widen (k := 0) (n := 0) (Nat.le_of_ble_eq_true rfl) (Nat.le_of_ble_eq_true rfl) ?_
    refine mn_icmp_lt (tgt := 22) hB dX1_isFinished_15 (by decide) (by omega) (by omega) (fun h_15 => ?_) (fun h_15 => ?_)
    · skip
      refine lv_iconst (v := nI 0) hx hb dX1_isFinished_22 (by decide) ?_
      refine mh_zret hB ⟨Nat.le_of_ble_eq_true rfl, Nat.le_of_ble_eq_true rfl⟩ hS dX1_isFinished_23 (by first | rfl | decide | (split <;> rfl)) ⟨?_, rfl⟩
      · first | (rw [show decide (0 < szF q f ∧ szF q f ≤ sw) = true from decide_eq_true (by omega)]; rfl) | (rw [show decide (0 < szF q f ∧ szF q f ≤ sw) = false from decide_eq_false (by omega)]; rfl)
    · skip
      refine lv_iconst (v := nI 1) hx hb dX1_isFinished_18 (by decide) ?_
      refine lv_goto (tgt := 23) hx hb dX1_isFinished_19 (by decide) ?_
      refine mh_zret hB ⟨Nat.le_of_ble_eq_true rfl, Nat.le_of_ble_eq_true rfl⟩ hS dX1_isFinished_23 (by first | rfl | decide | (split <;> rfl)) ⟨?_, rfl⟩
      · first | (rw [show decide (0 < szF q f ∧ szF q f ≤ sw) = true from decide_eq_true (by omega)]; rfl) | (rw [show decide (0 < szF q f ∧ szF q f ≤ sw) = false from decide_eq_false (by omega)]; rfl)

def rm_c_X1_canBeRecoloured : Room := { frames := 0, cells := 0, slots := 0, locals := 0 }
set_option maxRecDepth 100000 in
set_option maxHeartbeats 400000 in
theorem c_X1_canBeRecoloured (l : Launch) (g : GG) (H0 : Heap) (sb : Nat) (z : Nat → Int32) (P : Nat → Option Nat) (D : Nat → Prop) (q : Nat → Int32) (f : Nat) (sw : Nat) (hS1 : StAt g sb z P H0) (hPT : PT g D P q H0) (hf : f < 3) (hsw : z (80 + f) = nI sw) (hsl : sw ≤ szF q f) (hs9 : szF q f ≤ 256) : Ct l yX1_canBeRecoloured cX1_canBeRecoloured 1 (some .boolean) rm_c_X1_canBeRecoloured g [.ref (sb + (20 + 2 * f))] H0 (ftA (fun _ => False) H0.size) (fun v H1 => v = some (.int (bI (decide (0 < szF q f ∧ sw = 0)))) ∧ H0 = H1) := by
  refine Ct.of (by decide) (fun _ h => Or.inr h) (Nat.le_of_ble_eq_true rfl) ?_
  intro p e s m below meth c ls hB hin hS hH hl
  have hx := hB.x
  have hb := hB.b
  have hl : lv_has ls 1 [(0, .ref (sb + (20 + 2 * f)))] := hl
  rcases hPf : P f with _ | p9
  · skip
    have hz0 := hPT.none0 hf hPf
    refine lv_aload_n hx hb dX1_canBeRecoloured_0 rfl (lv_at hl 0 rfl) ?_
    refine gf_X1_15 hB (hS1.ofN (k := f) (by omega) hPf) rfl dX1_canBeRecoloured_1 ?_
    refine lv_ifnullN (tgt := 18) hx hb dX1_canBeRecoloured_4 (by decide) ?_
    refine lv_iconst (v := nI 0) hx hb dX1_canBeRecoloured_18 (by decide) ?_
    refine mh_zret hB ⟨Nat.le_of_ble_eq_true rfl, Nat.le_of_ble_eq_true rfl⟩ hS dX1_canBeRecoloured_19 (by first | rfl | decide | (split <;> rfl)) ⟨?_, rfl⟩
    · first | (rw [show decide (0 < szF q f ∧ sw = 0) = true from decide_eq_true (by omega)]; rfl) | (rw [show decide (0 < szF q f ∧ sw = 0) = false from decide_eq_false (by omega)]; rfl)
  · skip
    have hz0 := hPT.pos hf hPf
    obtain ⟨b9, hd1, hd2, hpb⟩ := hPT.some0 hf hPf
    have hw0 := hpb.2.2.1
    have hw16 := hpb.2.2.2.1
    have hh0 := hpb.2.2.2.2.1
    have hh16 := hpb.2.2.2.2.2.1
    have hwh := hpb.2.2.2.2.2.2.1
    have hcol := hpb.2.2.2.2.2.2.2
    have hzz : szF q f = wdF q f * htF q f := rfl
    refine lv_aload_n hx hb dX1_canBeRecoloured_0 rfl (lv_at hl 0 rfl) ?_
    refine gf_X1_15 hB (hS1.ofS (k := f) (by omega) hPf) rfl dX1_canBeRecoloured_1 ?_
    refine lv_ifnull hx hb dX1_canBeRecoloured_4 ?_
    refine lv_aload_n hx hb dX1_canBeRecoloured_7 rfl (lv_at hl 0 rfl) ?_
    refine gf_X1_19 hB (hS1.ofS (k := f) (by omega) hPf) rfl dX1_canBeRecoloured_8 ?_
    refine mh_top (y := .int (nI sw)) (by rw [hsw]) ?_
    refine mn_if_ne (tgt := 18) hB dX1_canBeRecoloured_11 (by decide) (by omega) (fun h_11 => ?_) (fun h_11 => ?_)
    · skip
      refine lv_iconst (v := nI 0) hx hb dX1_canBeRecoloured_18 (by decide) ?_
      refine mh_zret hB ⟨Nat.le_of_ble_eq_true rfl, Nat.le_of_ble_eq_true rfl⟩ hS dX1_canBeRecoloured_19 (by first | rfl | decide | (split <;> rfl)) ⟨?_, rfl⟩
      · first | (rw [show decide (0 < szF q f ∧ sw = 0) = true from decide_eq_true (by omega)]; rfl) | (rw [show decide (0 < szF q f ∧ sw = 0) = false from decide_eq_false (by omega)]; rfl)
    · skip
      refine lv_iconst (v := nI 1) hx hb dX1_canBeRecoloured_14 (by decide) ?_
      refine lv_goto (tgt := 19) hx hb dX1_canBeRecoloured_15 (by decide) ?_
      refine mh_zret hB ⟨Nat.le_of_ble_eq_true rfl, Nat.le_of_ble_eq_true rfl⟩ hS dX1_canBeRecoloured_19 (by first | rfl | decide | (split <;> rfl)) ⟨?_, rfl⟩
      · first | (rw [show decide (0 < szF q f ∧ sw = 0) = true from decide_eq_true (by omega)]; rfl) | (rw [show decide (0 < szF q f ∧ sw = 0) = false from decide_eq_false (by omega)]; rfl)

def rm_c_X1_patchesOf : Room := { frames := 2, cells := 0, slots := 0, locals := 46 }
set_option maxRecDepth 100000 in
set_option maxHeartbeats 400000 in
theorem c_X1_patchesOf (l : Launch) (g : GG) (H0 : Heap) (sb : Nat) (z : Nat → Int32) (P : Nat → Option Nat) (D : Nat → Prop) (q : Nat → Int32) (f : Nat) (c0 : Nat) (a : Nat) (z9 : Nat) (hS1 : StAt g sb z P H0) (hPT : PT g D P q H0) (hf : f < 3) (hc : c0 < 2147483648) (hab : a ≤ z9) (hz9 : z9 ≤ szF q f) : Ct l yX1_patchesOf cX1_patchesOf 4 (some .int) rm_c_X1_patchesOf g [.ref (sb + (20 + 2 * f)), .int (nI c0), .int (nI a), .int (nI z9)] H0 (ftA (fun _ => False) H0.size) (fun v H1 => v = some (.int (nI (cntC q f c0 a (z9 - a)))) ∧ H0 = H1) := by
  refine Ct.of (by decide) (fun _ h => Or.inr h) (Nat.le_of_ble_eq_true rfl) ?_
  intro p e s m below meth c ls hB hin hS hH hl
  have hx := hB.x
  have hb := hB.b
  have hl : lv_has ls 4 [(0, .ref (sb + (20 + 2 * f))), (1, .int (nI c0)), (2, .int (nI a)), (3, .int (nI z9))] := hl
  rcases hPf : P f with _ | p9
  · skip
    have hz0 := hPT.none0 hf hPf
    refine lv_aload_n hx hb dX1_patchesOf_0 rfl (lv_at hl 0 rfl) ?_
    refine gf_X1_15 hB (hS1.ofN (k := f) (by omega) hPf) rfl dX1_patchesOf_1 ?_
    refine lv_ifnonnullN hx hb dX1_patchesOf_4 ?_
    refine lv_iconst (v := nI 0) hx hb dX1_patchesOf_7 (by decide) ?_
    refine lv_goto (tgt := 21) hx hb dX1_patchesOf_8 (by decide) ?_
    refine mh_iret hB ⟨Nat.le_of_ble_eq_true rfl, Nat.le_of_ble_eq_true rfl⟩ hS dX1_patchesOf_21 ⟨?_, rfl⟩
    · first | rfl | (rw [show z9 - a = 0 by omega]; rfl)
  · skip
    have hz0 := hPT.pos hf hPf
    obtain ⟨b9, hd1, hd2, hpb⟩ := hPT.some0 hf hPf
    have hw0 := hpb.2.2.1
    have hw16 := hpb.2.2.2.1
    have hh0 := hpb.2.2.2.2.1
    have hh16 := hpb.2.2.2.2.2.1
    have hwh := hpb.2.2.2.2.2.2.1
    have hcol := hpb.2.2.2.2.2.2.2
    have hzz : szF q f = wdF q f * htF q f := rfl
    refine lv_aload_n hx hb dX1_patchesOf_0 rfl (lv_at hl 0 rfl) ?_
    refine gf_X1_15 hB (hS1.ofS (k := f) (by omega) hPf) rfl dX1_patchesOf_1 ?_
    refine lv_ifnonnull (tgt := 11) hx hb dX1_patchesOf_4 (by decide) ?_
    refine lv_aload_n hx hb dX1_patchesOf_11 rfl (lv_at hl 0 rfl) ?_
    refine gf_X1_15 hB (hS1.ofS (k := f) (by omega) hPf) rfl dX1_patchesOf_12 ?_
    refine lv_iload_n hx hb dX1_patchesOf_15 rfl (lv_at hl 1 rfl) ?_
    refine lv_iload_n hx hb dX1_patchesOf_16 rfl (lv_at hl 2 rfl) ?_
    refine lv_iload_n hx hb dX1_patchesOf_17 rfl (lv_at hl 3 rfl) ?_
    refine cl_X1_30 (As := [.int (nI c0), .int (nI a), .int (nI z9)]) (rest := []) hB (c_X4_patchesOf l g H0 p9 b9 (wdF q f) (htF q f) (clF q f) c0 a z9 hpb (by first | assumption | omega) (by first | assumption | omega) (by omega)) hpb.1 rfl hl.1 (Nat.le_of_ble_eq_true rfl) dX1_patchesOf_18 ⟨Nat.le_of_ble_eq_true rfl, Nat.le_of_ble_eq_true rfl⟩ ⟨Nat.le_of_ble_eq_true rfl, Nat.le_of_ble_eq_true rfl⟩ hS (by have hz9 := hS.1; rintro q (h | h) <;> first | exact Or.inr (by omega) | exact h.elim | exact Or.inl h | (simp only [ftA] at h ⊢; omega)) (fun v H1 locs hpo hfr hS => ?_)
    obtain ⟨rfl, rfl⟩ := hpo
    refine W.widen (k := 0) (n := 0) (Nat.le_of_ble_eq_true rfl) (Nat.le_of_ble_eq_true rfl) ?_
    refine mh_iret hB ⟨Nat.le_of_ble_eq_true rfl, Nat.le_of_ble_eq_true rfl⟩ hS dX1_patchesOf_21 ⟨?_, rfl⟩
    · first | rfl | (rw [show z9 - a = 0 by omega]; rfl)

def rm_c_X1_colourOfNext : Room := { frames := 1, cells := 0, slots := 0, locals := 21 }
set_option maxRecDepth 100000 in
set_option maxHeartbeats 400000 in
theorem c_X1_colourOfNext (l : Launch) (g : GG) (H0 : Heap) (sb : Nat) (z : Nat → Int32) (P : Nat → Option Nat) (D : Nat → Prop) (q : Nat → Int32) (f : Nat) (sw : Nat) (hS1 : StAt g sb z P H0) (hPT : PT g D P q H0) (hf : f < 3) (hsw : z (80 + f) = nI sw) (hlt : sw < szF q f) (hs9 : szF q f ≤ 256) : Ct l yX1_colourOfNext cX1_colourOfNext 1 (some .int) rm_c_X1_colourOfNext g [.ref (sb + (20 + 2 * f))] H0 (ftA (fun _ => False) H0.size) (fun v H1 => v = some (.int (nI (clF q f sw))) ∧ H0 = H1) := by
  refine Ct.of (by decide) (fun _ h => Or.inr h) (Nat.le_of_ble_eq_true rfl) ?_
  intro p e s m below meth c ls hB hin hS hH hl
  have hx := hB.x
  have hb := hB.b
  have hl : lv_has ls 1 [(0, .ref (sb + (20 + 2 * f)))] := hl
  rcases hPf : P f with _ | p9
  · skip
    have hz0 := hPT.none0 hf hPf
    refine lv_aload_n hx hb dX1_colourOfNext_0 rfl (lv_at hl 0 rfl) ?_
    refine gf_X1_15 hB (hS1.ofN (k := f) (by omega) hPf) rfl dX1_colourOfNext_1 ?_
    refine lv_ifnonnullN hx hb dX1_colourOfNext_4 ?_
    refine lv_bipush (v := (-9)) hx hb dX1_colourOfNext_7 (by decide) ?_
    refine lv_goto (tgt := 23) hx hb dX1_colourOfNext_9 (by decide) ?_
    refine mh_iret hB ⟨Nat.le_of_ble_eq_true rfl, Nat.le_of_ble_eq_true rfl⟩ hS dX1_colourOfNext_23 ⟨?_, rfl⟩
    · first | (exfalso; omega) | (unfold clO; rw [if_pos (by omega)])
  · skip
    have hz0 := hPT.pos hf hPf
    obtain ⟨b9, hd1, hd2, hpb⟩ := hPT.some0 hf hPf
    have hw0 := hpb.2.2.1
    have hw16 := hpb.2.2.2.1
    have hh0 := hpb.2.2.2.2.1
    have hh16 := hpb.2.2.2.2.2.1
    have hwh := hpb.2.2.2.2.2.2.1
    have hcol := hpb.2.2.2.2.2.2.2
    have hzz : szF q f = wdF q f * htF q f := rfl
    refine lv_aload_n hx hb dX1_colourOfNext_0 rfl (lv_at hl 0 rfl) ?_
    refine gf_X1_15 hB (hS1.ofS (k := f) (by omega) hPf) rfl dX1_colourOfNext_1 ?_
    refine lv_ifnonnull (tgt := 12) hx hb dX1_colourOfNext_4 (by decide) ?_
    refine lv_aload_n hx hb dX1_colourOfNext_12 rfl (lv_at hl 0 rfl) ?_
    refine gf_X1_15 hB (hS1.ofS (k := f) (by omega) hPf) rfl dX1_colourOfNext_13 ?_
    refine lv_aload_n hx hb dX1_colourOfNext_16 rfl (lv_at hl 0 rfl) ?_
    refine gf_X1_19 hB (hS1.ofS (k := f) (by omega) hPf) rfl dX1_colourOfNext_17 ?_
    refine mh_top (y := .int (nI sw)) (by rw [hsw]) ?_
    refine cl_X1_34 (As := [.int (nI sw)]) (rest := []) hB (c_X4_colourOf l g H0 p9 b9 (wdF q f) (htF q f) (clF q f) sw hpb (by first | assumption | omega)) hpb.1 rfl hl.1 (Nat.le_of_ble_eq_true rfl) dX1_colourOfNext_20 ⟨Nat.le_of_ble_eq_true rfl, Nat.le_of_ble_eq_true rfl⟩ ⟨Nat.le_of_ble_eq_true rfl, Nat.le_of_ble_eq_true rfl⟩ hS (by have hz9 := hS.1; rintro q (h | h) <;> first | exact Or.inr (by omega) | exact h.elim | exact Or.inl h | (simp only [ftA] at h ⊢; omega)) (fun v H1 locs hpo hfr hS => ?_)
    obtain ⟨rfl, rfl⟩ := hpo
    refine W.widen (k := 0) (n := 0) (Nat.le_of_ble_eq_true rfl) (Nat.le_of_ble_eq_true rfl) ?_
    refine mh_iret hB ⟨Nat.le_of_ble_eq_true rfl, Nat.le_of_ble_eq_true rfl⟩ hS dX1_colourOfNext_23 ⟨?_, rfl⟩
    · first | (exfalso; omega) | (unfold clO; rw [if_pos (by omega)])

def rm_c_X1_colourOfNext_o : Room := { frames := 1, cells := 0, slots := 0, locals := 21 }
set_option maxRecDepth 100000 in
set_option maxHeartbeats 400000 in
theorem c_X1_colourOfNext_o (l : Launch) (g : GG) (H0 : Heap) (sb : Nat) (z : Nat → Int32) (P : Nat → Option Nat) (D : Nat → Prop) (q : Nat → Int32) (f : Nat) (sw : Nat) (hS1 : StAt g sb z P H0) (hPT : PT g D P q H0) (hf : f < 3) (hsw : z (80 + f) = nI sw) (hlt : sw = szF q f) (hs9 : szF q f ≤ 256) : Ct l yX1_colourOfNext cX1_colourOfNext 1 (some .int) rm_c_X1_colourOfNext_o g [.ref (sb + (20 + 2 * f))] H0 (ftA (fun _ => False) H0.size) (fun v H1 => v = some (.int (-9)) ∧ H0 = H1) := by
  refine Ct.of (by decide) (fun _ h => Or.inr h) (Nat.le_of_ble_eq_true rfl) ?_
  intro p e s m below meth c ls hB hin hS hH hl
  have hx := hB.x
  have hb := hB.b
  have hl : lv_has ls 1 [(0, .ref (sb + (20 + 2 * f)))] := hl
  rcases hPf : P f with _ | p9
  · skip
    have hz0 := hPT.none0 hf hPf
    refine lv_aload_n hx hb dX1_colourOfNext_0 rfl (lv_at hl 0 rfl) ?_
    refine gf_X1_15 hB (hS1.ofN (k := f) (by omega) hPf) rfl dX1_colourOfNext_1 ?_
    refine lv_ifnonnullN hx hb dX1_colourOfNext_4 ?_
    refine lv_bipush (v := (-9)) hx hb dX1_colourOfNext_7 (by decide) ?_
    refine lv_goto (tgt := 23) hx hb dX1_colourOfNext_9 (by decide) ?_
    refine mh_iret hB ⟨Nat.le_of_ble_eq_true rfl, Nat.le_of_ble_eq_true rfl⟩ hS dX1_colourOfNext_23 ⟨?_, rfl⟩
    · first | rfl | (unfold clO; rw [if_neg (by omega)])
  · skip
    have hz0 := hPT.pos hf hPf
    obtain ⟨b9, hd1, hd2, hpb⟩ := hPT.some0 hf hPf
    have hw0 := hpb.2.2.1
    have hw16 := hpb.2.2.2.1
    have hh0 := hpb.2.2.2.2.1
    have hh16 := hpb.2.2.2.2.2.1
    have hwh := hpb.2.2.2.2.2.2.1
    have hcol := hpb.2.2.2.2.2.2.2
    have hzz : szF q f = wdF q f * htF q f := rfl
    refine lv_aload_n hx hb dX1_colourOfNext_0 rfl (lv_at hl 0 rfl) ?_
    refine gf_X1_15 hB (hS1.ofS (k := f) (by omega) hPf) rfl dX1_colourOfNext_1 ?_
    refine lv_ifnonnull (tgt := 12) hx hb dX1_colourOfNext_4 (by decide) ?_
    refine lv_aload_n hx hb dX1_colourOfNext_12 rfl (lv_at hl 0 rfl) ?_
    refine gf_X1_15 hB (hS1.ofS (k := f) (by omega) hPf) rfl dX1_colourOfNext_13 ?_
    refine lv_aload_n hx hb dX1_colourOfNext_16 rfl (lv_at hl 0 rfl) ?_
    refine gf_X1_19 hB (hS1.ofS (k := f) (by omega) hPf) rfl dX1_colourOfNext_17 ?_
    refine mh_top (y := .int (nI sw)) (by rw [hsw]) ?_
    refine cl_X1_34 (As := [.int (nI sw)]) (rest := []) hB (c_X4_colourOf l g H0 p9 b9 (wdF q f) (htF q f) (clF q f) sw hpb (by first | assumption | omega)) hpb.1 rfl hl.1 (Nat.le_of_ble_eq_true rfl) dX1_colourOfNext_20 ⟨Nat.le_of_ble_eq_true rfl, Nat.le_of_ble_eq_true rfl⟩ ⟨Nat.le_of_ble_eq_true rfl, Nat.le_of_ble_eq_true rfl⟩ hS (by have hz9 := hS.1; rintro q (h | h) <;> first | exact Or.inr (by omega) | exact h.elim | exact Or.inl h | (simp only [ftA] at h ⊢; omega)) (fun v H1 locs hpo hfr hS => ?_)
    obtain ⟨rfl, rfl⟩ := hpo
    refine W.widen (k := 0) (n := 0) (Nat.le_of_ble_eq_true rfl) (Nat.le_of_ble_eq_true rfl) ?_
    refine mh_iret hB ⟨Nat.le_of_ble_eq_true rfl, Nat.le_of_ble_eq_true rfl⟩ hS dX1_colourOfNext_23 ⟨?_, rfl⟩
    · first | rfl | (unfold clO; rw [if_neg (by omega)])

def rm_c_X1_putOn_n : Room := { frames := 1, cells := 0, slots := 0, locals := 21 }
set_option maxRecDepth 100000 in
set_option maxHeartbeats 400000 in
theorem c_X1_putOn_n (l : Launch) (g : GG) (H0 : Heap) (sb : Nat) (z : Nat → Int32) (P : Nat → Option Nat) (f : Nat) (hS1 : StAt g sb z P H0) (hf : f < 3) : Ct l yX1_putOn cX1_putOn 2 none rm_c_X1_putOn_n g [.ref (sb + (20 + 2 * f)), .null] H0 (ftA (fun q9 => sb ≤ q9 ∧ q9 < sb + 26) H0.size) (fun v H1 => v = none ∧ StAt g sb (putZ z f) (va_up P f none) H1) := by
  refine Ct.of (by decide) (fun _ h => Or.inr h) (Nat.le_of_ble_eq_true rfl) ?_
  intro p e s m below meth c ls hB hin hS hH hl
  have hx := hB.x
  have hb := hB.b
  have hl : lv_has ls 2 [(0, .ref (sb + (20 + 2 * f))), (1, .null)] := hl
  refine lv_aload_n hx hb dX1_putOn_0 rfl (lv_at hl 0 rfl) ?_
  refine lv_aload_nN hx hb dX1_putOn_1 rfl (lv_at hl 1 rfl) ?_
  refine pf_X1_15 hB (hS1.of (k := f) (by omega)) (by first | exact Or.inl rfl | (simp only [ftA]; omega) | (simp [ftA]; omega)) hS rfl rfl (Nat.le_of_ble_eq_true rfl) dX1_putOn_2 (fun H locs hwr => ?_)
  have ho := hwr.2.1
  have hz := hwr.2.2.1
  obtain ⟨hS1, hS⟩ := hS1.w_fPn (by omega) hwr
  refine lv_aload_n hx hb dX1_putOn_5 rfl (lv_at hl 0 rfl) ?_
  refine lv_iconst (v := nI 0) hx hb dX1_putOn_6 (by decide) ?_
  refine pf_X1_19 hB (hS1.of (k := f) (by omega)) (by first | exact Or.inl rfl | (simp only [ftA]; omega) | (simp [ftA]; omega)) hS rfl rfl (Nat.le_of_ble_eq_true rfl) dX1_putOn_7 (fun H locs hwr => ?_)
  have ho := hwr.2.1
  have hz := hwr.2.2.1
  obtain ⟨hS1, hS⟩ := hS1.w_fS (by omega) hwr
  refine lv_aload_n hx hb dX1_putOn_10 rfl (lv_at hl 0 rfl) ?_
  refine gf_X1_9 hB (hS1.of (k := f) (by omega)) rfl dX1_putOn_11 ?_
  refine cl_X1_38 (As := [.ref (sb + (21 + 2 * f))]) (rest := []) hB (c_X6_clear l g H (sb + (21 + 2 * f)) 5 (fun j7 => (upd z (80 + f) (nI 0)) (83 + 5 * f + j7)) (hS1.of2 (k := f) (by omega)) (by omega)) rfl hl.1 (Nat.le_of_ble_eq_true rfl) dX1_putOn_14 ⟨Nat.le_of_ble_eq_true rfl, Nat.le_of_ble_eq_true rfl⟩ ⟨Nat.le_of_ble_eq_true rfl, Nat.le_of_ble_eq_true rfl⟩ hS (by have hz9 := hS.1; rintro q (h | h) <;> first | exact Or.inr (by omega) | exact h.elim | exact Or.inl h | (simp only [ftA] at h ⊢; omega)) (fun v H1 locs hpo hfr hS => ?_)
  obtain ⟨rfl, ha⟩ := hpo
  have hS1 := hS1.f_fB (by omega) hfr ha
  generalize H1 = H at hfr hS hS1 ⊢
  refine W.widen (k := 0) (n := 0) (Nat.le_of_ble_eq_true rfl) (Nat.le_of_ble_eq_true rfl) ?_
  refine mh_vret hB ⟨Nat.le_of_ble_eq_true rfl, Nat.le_of_ble_eq_true rfl⟩ hS dX1_putOn_17 ⟨?_, ?_⟩
  · rfl
  · exact hS1

def rm_c_X1_putOn : Room := { frames := 1, cells := 0, slots := 0, locals := 21 }
set_option maxRecDepth 100000 in
set_option maxHeartbeats 400000 in
theorem c_X1_putOn (l : Launch) (g : GG) (H0 : Heap) (sb : Nat) (z : Nat → Int32) (P : Nat → Option Nat) (f : Nat) (p1 : Nat) (hS1 : StAt g sb z P H0) (hf : f < 3) : Ct l yX1_putOn cX1_putOn 2 none rm_c_X1_putOn g [.ref (sb + (20 + 2 * f)), .ref p1] H0 (ftA (fun q9 => sb ≤ q9 ∧ q9 < sb + 26) H0.size) (fun v H1 => v = none ∧ StAt g sb (putZ z f) (va_up P f (some p1)) H1) := by
  refine Ct.of (by decide) (fun _ h => Or.inr h) (Nat.le_of_ble_eq_true rfl) ?_
  intro p e s m below meth c ls hB hin hS hH hl
  have hx := hB.x
  have hb := hB.b
  have hl : lv_has ls 2 [(0, .ref (sb + (20 + 2 * f))), (1, .ref p1)] := hl
  refine lv_aload_n hx hb dX1_putOn_0 rfl (lv_at hl 0 rfl) ?_
  refine lv_aload_n hx hb dX1_putOn_1 rfl (lv_at hl 1 rfl) ?_
  refine pf_X1_15 hB (hS1.of (k := f) (by omega)) (by first | exact Or.inl rfl | (simp only [ftA]; omega) | (simp [ftA]; omega)) hS rfl rfl (Nat.le_of_ble_eq_true rfl) dX1_putOn_2 (fun H locs hwr => ?_)
  have ho := hwr.2.1
  have hz := hwr.2.2.1
  obtain ⟨hS1, hS⟩ := hS1.w_fPr (by omega) hwr
  refine lv_aload_n hx hb dX1_putOn_5 rfl (lv_at hl 0 rfl) ?_
  refine lv_iconst (v := nI 0) hx hb dX1_putOn_6 (by decide) ?_
  refine pf_X1_19 hB (hS1.of (k := f) (by omega)) (by first | exact Or.inl rfl | (simp only [ftA]; omega) | (simp [ftA]; omega)) hS rfl rfl (Nat.le_of_ble_eq_true rfl) dX1_putOn_7 (fun H locs hwr => ?_)
  have ho := hwr.2.1
  have hz := hwr.2.2.1
  obtain ⟨hS1, hS⟩ := hS1.w_fS (by omega) hwr
  refine lv_aload_n hx hb dX1_putOn_10 rfl (lv_at hl 0 rfl) ?_
  refine gf_X1_9 hB (hS1.of (k := f) (by omega)) rfl dX1_putOn_11 ?_
  refine cl_X1_38 (As := [.ref (sb + (21 + 2 * f))]) (rest := []) hB (c_X6_clear l g H (sb + (21 + 2 * f)) 5 (fun j7 => (upd z (80 + f) (nI 0)) (83 + 5 * f + j7)) (hS1.of2 (k := f) (by omega)) (by omega)) rfl hl.1 (Nat.le_of_ble_eq_true rfl) dX1_putOn_14 ⟨Nat.le_of_ble_eq_true rfl, Nat.le_of_ble_eq_true rfl⟩ ⟨Nat.le_of_ble_eq_true rfl, Nat.le_of_ble_eq_true rfl⟩ hS (by have hz9 := hS.1; rintro q (h | h) <;> first | exact Or.inr (by omega) | exact h.elim | exact Or.inl h | (simp only [ftA] at h ⊢; omega)) (fun v H1 locs hpo hfr hS => ?_)
  obtain ⟨rfl, ha⟩ := hpo
  have hS1 := hS1.f_fB (by omega) hfr ha
  generalize H1 = H at hfr hS hS1 ⊢
  refine W.widen (k := 0) (n := 0) (Nat.le_of_ble_eq_true rfl) (Nat.le_of_ble_eq_true rfl) ?_
  refine mh_vret hB ⟨Nat.le_of_ble_eq_true rfl, Nat.le_of_ble_eq_true rfl⟩ hS dX1_putOn_17 ⟨?_, ?_⟩
  · rfl
  · exact hS1
