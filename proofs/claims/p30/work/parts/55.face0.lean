theorem rng_ix {x : Int32} {b : Nat} (h : isIx x (b + 1) = false) (hb : b < 2147483647) : x < nI 0 ∨ nI b < x := by
  rcases isIx_f h with y | y
  · left; rw [Int32.lt_iff_toInt_lt, nI_toInt (by omega)]; exact y
  · right; rw [Int32.lt_iff_toInt_lt, nI_toInt (by omega)]; omega
theorem rng_inL {x : Int32} {b : Nat} (hb : b < 2147483647) (c : Int64) (hc : c.toInt = (b : Int)) (h : inL x.toInt64 1 c = false) : x < nI 1 ∨ nI b < x := by
  unfold inL at h
  have h1 := of_decide_eq_false h
  rw [Int32.toInt_toInt64, hc, show (1 : Int64).toInt = 1 from rfl] at h1
  by_cases y : x.toInt < 1
  · left; rw [Int32.lt_iff_toInt_lt, nI_toInt (by omega)]; exact y
  · right; rw [Int32.lt_iff_toInt_lt, nI_toInt (by omega)]; omega

def rm_c_X10_requireArgument : Room := { frames := 0, cells := 0, slots := 0, locals := 0 }
set_option maxRecDepth 100000 in
set_option maxHeartbeats 400000 in
theorem c_X10_requireArgument (l : Launch) (g : GG) (H0 : Heap) : Ct l yX10_requireArgument cX10_requireArgument 1 none rm_c_X10_requireArgument g [.int (nI 1)] H0 (ftA (fun _ => False) H0.size) (fun v H1 => v = none ∧ H0 = H1) := by
  refine Ct.of (by decide) (fun _ h => Or.inr h) (Nat.le_of_ble_eq_true rfl) ?_
  intro p e s m below meth c ls hB hin hS hH hl
  have hx := hB.x
  have hb := hB.b
  have hl : lv_has ls 1 [(0, .int (nI 1))] := hl
  refine lv_iload_n hx hb dX10_requireArgument_0 rfl (lv_at hl 0 rfl) ?_
  refine mn_if_ne (tgt := 12) hB dX10_requireArgument_1 (by decide) (by omega) (fun h_1 => ?_) (fun h => by exfalso; omega)
  refine mh_vret hB ⟨Nat.le_of_ble_eq_true rfl, Nat.le_of_ble_eq_true rfl⟩ hS dX10_requireArgument_12 ⟨?_, rfl⟩
  · rfl

def rm_c_X10_requireState : Room := { frames := 0, cells := 0, slots := 0, locals := 0 }
set_option maxRecDepth 100000 in
set_option maxHeartbeats 400000 in
theorem c_X10_requireState (l : Launch) (g : GG) (H0 : Heap) : Ct l yX10_requireState cX10_requireState 1 none rm_c_X10_requireState g [.int (nI 1)] H0 (ftA (fun _ => False) H0.size) (fun v H1 => v = none ∧ H0 = H1) := by
  refine Ct.of (by decide) (fun _ h => Or.inr h) (Nat.le_of_ble_eq_true rfl) ?_
  intro p e s m below meth c ls hB hin hS hH hl
  have hx := hB.x
  have hb := hB.b
  have hl : lv_has ls 1 [(0, .int (nI 1))] := hl
  refine lv_iload_n hx hb dX10_requireState_0 rfl (lv_at hl 0 rfl) ?_
  refine mn_if_ne (tgt := 12) hB dX10_requireState_1 (by decide) (by omega) (fun h_1 => ?_) (fun h => by exfalso; omega)
  refine mh_vret hB ⟨Nat.le_of_ble_eq_true rfl, Nat.le_of_ble_eq_true rfl⟩ hS dX10_requireState_12 ⟨?_, rfl⟩
  · rfl

def rm_c_X10_requireSlot : Room := { frames := 0, cells := 0, slots := 0, locals := 0 }
set_option maxRecDepth 100000 in
set_option maxHeartbeats 400000 in
theorem c_X10_requireSlot (l : Launch) (g : GG) (H0 : Heap) (k : Nat) (hk : k < 2) : Ct l yX10_requireSlot cX10_requireSlot 1 none rm_c_X10_requireSlot g [.int (nI k)] H0 (ftA (fun _ => False) H0.size) (fun v H1 => v = none ∧ H0 = H1) := by
  refine Ct.of (by decide) (fun _ h => Or.inr h) (Nat.le_of_ble_eq_true rfl) ?_
  intro p e s m below meth c ls hB hin hS hH hl
  have hx := hB.x
  have hb := hB.b
  have hl : lv_has ls 1 [(0, .int (nI k))] := hl
  refine lv_iload_n hx hb dX10_requireSlot_0 rfl (lv_at hl 0 rfl) ?_
  refine mn_if_lt (tgt := 9) hB dX10_requireSlot_1 (by decide) (by omega) (fun h => by exfalso; omega) (fun h_1 => ?_)
  refine lv_iload_n hx hb dX10_requireSlot_4 rfl (lv_at hl 0 rfl) ?_
  refine lv_iconst (v := nI 2) hx hb dX10_requireSlot_5 (by decide) ?_
  refine mn_icmp_lt (tgt := 17) hB dX10_requireSlot_6 (by decide) (by omega) (by omega) (fun h_6 => ?_) (fun h => by exfalso; omega)
  refine mh_vret hB ⟨Nat.le_of_ble_eq_true rfl, Nat.le_of_ble_eq_true rfl⟩ hS dX10_requireSlot_17 ⟨?_, rfl⟩
  · rfl

def rm_c_X10_requireRange : Room := { frames := 1, cells := 0, slots := 0, locals := 20 }
set_option maxRecDepth 100000 in
set_option maxHeartbeats 400000 in
theorem c_X10_requireRange (l : Launch) (g : GG) (H0 : Heap) (k : Nat) (a : Nat) (b : Nat) (h1 : a ≤ k) (h2 : k ≤ b) (h3 : b < 2147483648) : Ct l yX10_requireRange cX10_requireRange 3 none rm_c_X10_requireRange g [.int (nI k), .int (nI a), .int (nI b)] H0 (ftA (fun _ => False) H0.size) (fun v H1 => v = none ∧ H0 = H1) := by
  refine Ct.of (by decide) (fun _ h => Or.inr h) (Nat.le_of_ble_eq_true rfl) ?_
  intro p e s m below meth c ls hB hin hS hH hl
  have hx := hB.x
  have hb := hB.b
  have hl : lv_has ls 3 [(0, .int (nI k)), (1, .int (nI a)), (2, .int (nI b))] := hl
  refine lv_iload_n hx hb dX10_requireRange_0 rfl (lv_at hl 0 rfl) ?_
  refine lv_iload_n hx hb dX10_requireRange_1 rfl (lv_at hl 1 rfl) ?_
  refine mn_icmp_lt (tgt := 14) hB dX10_requireRange_2 (by decide) (by omega) (by omega) (fun h => by exfalso; omega) (fun h_2 => ?_)
  refine lv_iload_n hx hb dX10_requireRange_5 rfl (lv_at hl 0 rfl) ?_
  refine lv_iload_n hx hb dX10_requireRange_6 rfl (lv_at hl 2 rfl) ?_
  refine mn_icmp_gt (tgt := 14) hB dX10_requireRange_7 (by decide) (by omega) (by omega) (fun h => by exfalso; omega) (fun h_7 => ?_)
  refine lv_iconst (v := nI 1) hx hb dX10_requireRange_10 (by decide) ?_
  refine lv_goto (tgt := 15) hx hb dX10_requireRange_11 (by decide) ?_
  refine cl_X10_155 (As := [.int (nI 1)]) (rest := []) hB (c_X10_requireArgument l g H0 ) rfl hl.1 (Nat.le_of_ble_eq_true rfl) dX10_requireRange_15 ⟨Nat.le_of_ble_eq_true rfl, Nat.le_of_ble_eq_true rfl⟩ ⟨Nat.le_of_ble_eq_true rfl, Nat.le_of_ble_eq_true rfl⟩ hS (by have hz9 := hS.1; rintro q (h | h) <;> first | exact Or.inr (by omega) | exact h.elim | exact Or.inl h | (simp only [ftA] at h ⊢; omega)) (fun v H1 locs hpo hfr hS => ?_)
  obtain ⟨rfl, rfl⟩ := hpo
  refine W.widen (k := 0) (n := 0) (Nat.le_of_ble_eq_true rfl) (Nat.le_of_ble_eq_true rfl) ?_
  refine mh_vret hB ⟨Nat.le_of_ble_eq_true rfl, Nat.le_of_ble_eq_true rfl⟩ hS dX10_requireRange_18 ⟨?_, rfl⟩
  · rfl

def rm_c_X10_existingMember : Room := { frames := 1, cells := 0, slots := 0, locals := 21 }
set_option maxRecDepth 100000 in
set_option maxHeartbeats 400000 in
theorem c_X10_existingMember (l : Launch) (g : GG) (H0 : Heap) (xb : Nat) (z : Nat → Int32) (P : Nat → Option Nat) (k : Nat) (nm : Nat) (hxo : at_ g H0 xb (eO 8 [.ref (xb + 1), .ref (xb + 10), .ref (xb + 36), .ref (xb + 62), .ref (xb + 64), .ref (xb + 65)])) (hS1 : StAt g (xb + 10) z P H0) (hk : k < nm) (hnm : z 0 = nI nm) (h5 : nm ≤ 5) : Ct l yX10_existingMember cX10_existingMember 3 (some (.object "QuiltGuild$Member")) rm_c_X10_existingMember g [.ref xb, .int (nI k)] H0 (ftA (fun _ => False) H0.size) (fun v H1 => v = some (.ref ((xb + 10) + (4 + 2 * k))) ∧ H0 = H1) := by
  refine Ct.of (by decide) (fun _ h => Or.inr h) (Nat.le_of_ble_eq_true rfl) ?_
  intro p e s m below meth c ls hB hin hS hH hl
  have hx := hB.x
  have hb := hB.b
  have hl : lv_has ls 3 [(0, .ref xb), (1, .int (nI k))] := hl
  refine lv_aload_n hx hb dX10_existingMember_0 rfl (lv_at hl 0 rfl) ?_
  refine gf_X10_19 hB hxo rfl dX10_existingMember_1 ?_
  refine lv_iload_n hx hb dX10_existingMember_4 rfl (lv_at hl 1 rfl) ?_
  refine cl_X10_298 (As := [.int (nI k)]) (rest := []) hB (c_X8_memberAt l g H0 (xb + 10) z P k nm hS1 (by first | assumption | omega) (by first | assumption | omega) (by first | assumption | omega)) hS1.o rfl hl.1 (Nat.le_of_ble_eq_true rfl) dX10_existingMember_5 ⟨Nat.le_of_ble_eq_true rfl, Nat.le_of_ble_eq_true rfl⟩ ⟨Nat.le_of_ble_eq_true rfl, Nat.le_of_ble_eq_true rfl⟩ hS (by have hz9 := hS.1; rintro q (h | h) <;> first | exact Or.inr (by omega) | exact h.elim | exact Or.inl h | (simp only [ftA] at h ⊢; omega)) (fun v H1 locs hpo hfr hS => ?_)
  obtain ⟨rfl, rfl⟩ := hpo
  refine W.widen (k := 0) (n := 0) (Nat.le_of_ble_eq_true rfl) (Nat.le_of_ble_eq_true rfl) ?_
  refine lv_astore_n (lv' := [(2, .ref ((xb + 10) + (4 + 2 * k))), (0, .ref xb), (1, .int (nI k))]) hx hb dX10_existingMember_8 rfl hl (by decide) rfl (fun ls hl => ?_)
  refine lv_aload_n hx hb dX10_existingMember_9 rfl (lv_at hl 0 rfl) ?_
  refine lv_ifnonnull (tgt := 21) hx hb dX10_existingMember_10 (by decide) ?_
  refine lv_aload_n hx hb dX10_existingMember_21 rfl (lv_at hl 0 rfl) ?_
  refine mh_aret hB (Or.inr ⟨_, rfl⟩) ⟨Nat.le_of_ble_eq_true rfl, Nat.le_of_ble_eq_true rfl⟩ hS dX10_existingMember_22 ⟨?_, rfl⟩
  · rfl

def rm_c_X10_existingCloth : Room := { frames := 1, cells := 0, slots := 0, locals := 21 }
set_option maxRecDepth 100000 in
set_option maxHeartbeats 400000 in
theorem c_X10_existingCloth (l : Launch) (g : GG) (H0 : Heap) (xb : Nat) (z : Nat → Int32) (P : Nat → Option Nat) (k : Nat) (hxo : at_ g H0 xb (eO 8 [.ref (xb + 1), .ref (xb + 10), .ref (xb + 36), .ref (xb + 62), .ref (xb + 64), .ref (xb + 65)])) (hS1 : StAt g (xb + 10) z P H0) (hk : k < 6) : Ct l yX10_existingCloth cX10_existingCloth 3 (some (.object "QuiltGuild$Cloth")) rm_c_X10_existingCloth g [.ref xb, .int (nI k)] H0 (ftA (fun _ => False) H0.size) (fun v H1 => v = some (.ref ((xb + 10) + (14 + k))) ∧ H0 = H1) := by
  refine Ct.of (by decide) (fun _ h => Or.inr h) (Nat.le_of_ble_eq_true rfl) ?_
  intro p e s m below meth c ls hB hin hS hH hl
  have hx := hB.x
  have hb := hB.b
  have hl : lv_has ls 3 [(0, .ref xb), (1, .int (nI k))] := hl
  refine lv_aload_n hx hb dX10_existingCloth_0 rfl (lv_at hl 0 rfl) ?_
  refine gf_X10_19 hB hxo rfl dX10_existingCloth_1 ?_
  refine lv_iload_n hx hb dX10_existingCloth_4 rfl (lv_at hl 1 rfl) ?_
  refine cl_X10_301 (As := [.int (nI k)]) (rest := []) hB (c_X8_clothAt l g H0 (xb + 10) z P k hS1 (by first | assumption | omega)) hS1.o rfl hl.1 (Nat.le_of_ble_eq_true rfl) dX10_existingCloth_5 ⟨Nat.le_of_ble_eq_true rfl, Nat.le_of_ble_eq_true rfl⟩ ⟨Nat.le_of_ble_eq_true rfl, Nat.le_of_ble_eq_true rfl⟩ hS (by have hz9 := hS.1; rintro q (h | h) <;> first | exact Or.inr (by omega) | exact h.elim | exact Or.inl h | (simp only [ftA] at h ⊢; omega)) (fun v H1 locs hpo hfr hS => ?_)
  obtain ⟨rfl, rfl⟩ := hpo
  refine W.widen (k := 0) (n := 0) (Nat.le_of_ble_eq_true rfl) (Nat.le_of_ble_eq_true rfl) ?_
  refine lv_astore_n (lv' := [(2, .ref ((xb + 10) + (14 + k))), (0, .ref xb), (1, .int (nI k))]) hx hb dX10_existingCloth_8 rfl hl (by decide) rfl (fun ls hl => ?_)
  refine lv_aload_n hx hb dX10_existingCloth_9 rfl (lv_at hl 0 rfl) ?_
  refine lv_ifnonnull (tgt := 21) hx hb dX10_existingCloth_10 (by decide) ?_
  refine lv_aload_n hx hb dX10_existingCloth_21 rfl (lv_at hl 0 rfl) ?_
  refine mh_aret hB (Or.inr ⟨_, rfl⟩) ⟨Nat.le_of_ble_eq_true rfl, Nat.le_of_ble_eq_true rfl⟩ hS dX10_existingCloth_22 ⟨?_, rfl⟩
  · rfl

def rm_c_X10_existingFrame : Room := { frames := 1, cells := 0, slots := 0, locals := 21 }
set_option maxRecDepth 100000 in
set_option maxHeartbeats 400000 in
theorem c_X10_existingFrame (l : Launch) (g : GG) (H0 : Heap) (xb : Nat) (z : Nat → Int32) (P : Nat → Option Nat) (k : Nat) (hxo : at_ g H0 xb (eO 8 [.ref (xb + 1), .ref (xb + 10), .ref (xb + 36), .ref (xb + 62), .ref (xb + 64), .ref (xb + 65)])) (hS1 : StAt g (xb + 10) z P H0) (hk : k < 3) : Ct l yX10_existingFrame cX10_existingFrame 3 (some (.object "QuiltGuild$Frame")) rm_c_X10_existingFrame g [.ref xb, .int (nI k)] H0 (ftA (fun _ => False) H0.size) (fun v H1 => v = some (.ref ((xb + 10) + (20 + 2 * k))) ∧ H0 = H1) := by
  refine Ct.of (by decide) (fun _ h => Or.inr h) (Nat.le_of_ble_eq_true rfl) ?_
  intro p e s m below meth c ls hB hin hS hH hl
  have hx := hB.x
  have hb := hB.b
  have hl : lv_has ls 3 [(0, .ref xb), (1, .int (nI k))] := hl
  refine lv_aload_n hx hb dX10_existingFrame_0 rfl (lv_at hl 0 rfl) ?_
  refine gf_X10_19 hB hxo rfl dX10_existingFrame_1 ?_
  refine lv_iload_n hx hb dX10_existingFrame_4 rfl (lv_at hl 1 rfl) ?_
  refine cl_X10_304 (As := [.int (nI k)]) (rest := []) hB (c_X8_frameAt l g H0 (xb + 10) z P k hS1 (by first | assumption | omega)) hS1.o rfl hl.1 (Nat.le_of_ble_eq_true rfl) dX10_existingFrame_5 ⟨Nat.le_of_ble_eq_true rfl, Nat.le_of_ble_eq_true rfl⟩ ⟨Nat.le_of_ble_eq_true rfl, Nat.le_of_ble_eq_true rfl⟩ hS (by have hz9 := hS.1; rintro q (h | h) <;> first | exact Or.inr (by omega) | exact h.elim | exact Or.inl h | (simp only [ftA] at h ⊢; omega)) (fun v H1 locs hpo hfr hS => ?_)
  obtain ⟨rfl, rfl⟩ := hpo
  refine W.widen (k := 0) (n := 0) (Nat.le_of_ble_eq_true rfl) (Nat.le_of_ble_eq_true rfl) ?_
  refine lv_astore_n (lv' := [(2, .ref ((xb + 10) + (20 + 2 * k))), (0, .ref xb), (1, .int (nI k))]) hx hb dX10_existingFrame_8 rfl hl (by decide) rfl (fun ls hl => ?_)
  refine lv_aload_n hx hb dX10_existingFrame_9 rfl (lv_at hl 0 rfl) ?_
  refine lv_ifnonnull (tgt := 21) hx hb dX10_existingFrame_10 (by decide) ?_
  refine lv_aload_n hx hb dX10_existingFrame_21 rfl (lv_at hl 0 rfl) ?_
  refine mh_aret hB (Or.inr ⟨_, rfl⟩) ⟨Nat.le_of_ble_eq_true rfl, Nat.le_of_ble_eq_true rfl⟩ hS dX10_existingFrame_22 ⟨?_, rfl⟩
  · rfl
