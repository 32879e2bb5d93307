def rm_c_X8_memberAt : Room := { frames := 0, cells := 0, slots := 0, locals := 0 }
set_option maxRecDepth 100000 in
set_option maxHeartbeats 400000 in
theorem c_X8_memberAt (l : Launch) (g : GG) (H0 : Heap) (sb : Nat) (z : Nat → Int32) (P : Nat → Option Nat) (k : Nat) (nm : Nat) (hS1 : StAt g sb z P H0) (hk : k < nm) (hnm : z 0 = nI nm) (h5 : nm ≤ 5) : Ct l yX8_memberAt cX8_memberAt 2 (some (.object "QuiltGuild$Member")) rm_c_X8_memberAt g [.ref sb, .int (nI k)] H0 (ftA (fun _ => False) H0.size) (fun v H1 => v = some (.ref (sb + (4 + 2 * k))) ∧ H0 = H1) := by
  refine Ct.of (by decide) (fun _ h => Or.inr h) (Nat.le_of_ble_eq_true rfl) ?_
  intro p e s m below meth c ls hB hin hS hH hl
  have hx := hB.x
  have hb := hB.b
  have hl : lv_has ls 2 [(0, .ref sb), (1, .int (nI k))] := hl
  refine lv_iload_n hx hb dX8_memberAt_0 rfl (lv_at hl 1 rfl) ?_
  refine mn_if_lt (tgt := 30) hB dX8_memberAt_1 (by decide) (by omega) (fun h => by exfalso; omega) (fun h_1 => ?_)
  refine lv_iload_n hx hb dX8_memberAt_4 rfl (lv_at hl 1 rfl) ?_
  refine lv_aload_n hx hb dX8_memberAt_5 rfl (lv_at hl 0 rfl) ?_
  refine gf_X8_32 hB hS1.o rfl dX8_memberAt_6 ?_
  refine mh_top (y := .int (nI nm)) (by rw [hnm]) ?_
  refine mn_icmp_ge (tgt := 30) hB dX8_memberAt_9 (by decide) (by omega) (by omega) (fun h => by exfalso; omega) (fun h_9 => ?_)
  refine lv_iload_n hx hb dX8_memberAt_12 rfl (lv_at hl 1 rfl) ?_
  refine lv_aload_n hx hb dX8_memberAt_13 rfl (lv_at hl 0 rfl) ?_
  refine gf_X8_11 hB hS1.o rfl dX8_memberAt_14 ?_
  refine mh_alen hB 4 rfl hS1.q1 dX8_memberAt_17 ?_
  refine mn_icmp_ge (tgt := 30) hB dX8_memberAt_18 (by decide) (by omega) (by omega) (fun h => by exfalso; omega) (fun h_18 => ?_)
  refine lv_aload_n hx hb dX8_memberAt_21 rfl (lv_at hl 0 rfl) ?_
  refine gf_X8_11 hB hS1.o rfl dX8_memberAt_22 ?_
  refine lv_iload_n hx hb dX8_memberAt_25 rfl (lv_at hl 1 rfl) ?_
  refine mn_qald 4 rfl hB hS1.q1 (by omega) (by omega) (y := (sb + (4 + 2 * k))) (rfl) dX8_memberAt_26 ?_
  refine lv_goto (tgt := 31) hx hb dX8_memberAt_27 (by decide) ?_
  refine mh_aret hB (Or.inr ⟨_, rfl⟩) ⟨Nat.le_of_ble_eq_true rfl, Nat.le_of_ble_eq_true rfl⟩ hS dX8_memberAt_31 ⟨?_, rfl⟩
  · rfl

def rm_c_X8_memberAt_o : Room := { frames := 0, cells := 0, slots := 0, locals := 0 }
set_option maxRecDepth 100000 in
set_option maxHeartbeats 400000 in
theorem c_X8_memberAt_o (l : Launch) (g : GG) (H0 : Heap) (sb : Nat) (z : Nat → Int32) (P : Nat → Option Nat) (x : Int32) (nm : Nat) (hS1 : StAt g sb z P H0) (hx1 : isIx x nm = false) (hnm : z 0 = nI nm) (h5 : nm ≤ 5) : Ct l yX8_memberAt cX8_memberAt 2 (some (.object "QuiltGuild$Member")) rm_c_X8_memberAt_o g [.ref sb, .int x] H0 (ftA (fun _ => False) H0.size) (fun v H1 => v = some (.null) ∧ H0 = H1) := by
  refine Ct.of (by decide) (fun _ h => Or.inr h) (Nat.le_of_ble_eq_true rfl) ?_
  intro p e s m below meth c ls hB hin hS hH hl
  have hx := hB.x
  have hb := hB.b
  have hl : lv_has ls 2 [(0, .ref sb), (1, .int x)] := hl
  refine lv_iload_n hx hb dX8_memberAt_0 rfl (lv_at hl 1 rfl) ?_
  refine lv_if_lt (tgt := 30) hx hb dX8_memberAt_1 (by decide) (fun h_1 => ?_) (fun h_1 => ?_)
  · skip
    refine lv_null hx hb dX8_memberAt_30 ?_
    refine mh_aret hB (Or.inl rfl) ⟨Nat.le_of_ble_eq_true rfl, Nat.le_of_ble_eq_true rfl⟩ hS dX8_memberAt_31 ⟨?_, rfl⟩
    · rfl
  · skip
    refine lv_iload_n hx hb dX8_memberAt_4 rfl (lv_at hl 1 rfl) ?_
    refine lv_aload_n hx hb dX8_memberAt_5 rfl (lv_at hl 0 rfl) ?_
    refine gf_X8_32 hB hS1.o rfl dX8_memberAt_6 ?_
    refine mh_top (y := .int (nI nm)) (by rw [hnm]) ?_
    refine lv_icmp_ge (tgt := 30) hx hb dX8_memberAt_9 (by decide) (fun h_9 => ?_) (fun h => absurd (isIx_n hx1 (by omega) h_1) h)
    refine lv_null hx hb dX8_memberAt_30 ?_
    refine mh_aret hB (Or.inl rfl) ⟨Nat.le_of_ble_eq_true rfl, Nat.le_of_ble_eq_true rfl⟩ hS dX8_memberAt_31 ⟨?_, rfl⟩
    · rfl

def rm_c_X8_clothAt : Room := { frames := 0, cells := 0, slots := 0, locals := 0 }
set_option maxRecDepth 100000 in
set_option maxHeartbeats 400000 in
theorem c_X8_clothAt (l : Launch) (g : GG) (H0 : Heap) (sb : Nat) (z : Nat → Int32) (P : Nat → Option Nat) (k : Nat) (hS1 : StAt g sb z P H0) (hk : k < 6) : Ct l yX8_clothAt cX8_clothAt 2 (some (.object "QuiltGuild$Cloth")) rm_c_X8_clothAt g [.ref sb, .int (nI k)] H0 (ftA (fun _ => False) H0.size) (fun v H1 => v = some (.ref (sb + (14 + k))) ∧ H0 = H1) := by
  refine Ct.of (by decide) (fun _ h => Or.inr h) (Nat.le_of_ble_eq_true rfl) ?_
  intro p e s m below meth c ls hB hin hS hH hl
  have hx := hB.x
  have hb := hB.b
  have hl : lv_has ls 2 [(0, .ref sb), (1, .int (nI k))] := hl
  refine lv_iload_n hx hb dX8_clothAt_0 rfl (lv_at hl 1 rfl) ?_
  refine mn_if_lt (tgt := 22) hB dX8_clothAt_1 (by decide) (by omega) (fun h => by exfalso; omega) (fun h_1 => ?_)
  refine lv_iload_n hx hb dX8_clothAt_4 rfl (lv_at hl 1 rfl) ?_
  refine lv_aload_n hx hb dX8_clothAt_5 rfl (lv_at hl 0 rfl) ?_
  refine gf_X8_19 hB hS1.o rfl dX8_clothAt_6 ?_
  refine mh_alen hB 5 rfl hS1.q2 dX8_clothAt_9 ?_
  refine mn_icmp_ge (tgt := 22) hB dX8_clothAt_10 (by decide) (by omega) (by omega) (fun h => by exfalso; omega) (fun h_10 => ?_)
  refine lv_aload_n hx hb dX8_clothAt_13 rfl (lv_at hl 0 rfl) ?_
  refine gf_X8_19 hB hS1.o rfl dX8_clothAt_14 ?_
  refine lv_iload_n hx hb dX8_clothAt_17 rfl (lv_at hl 1 rfl) ?_
  refine mn_qald 5 rfl hB hS1.q2 (by omega) (by omega) (y := (sb + (14 + k))) (rfl) dX8_clothAt_18 ?_
  refine lv_goto (tgt := 23) hx hb dX8_clothAt_19 (by decide) ?_
  refine mh_aret hB (Or.inr ⟨_, rfl⟩) ⟨Nat.le_of_ble_eq_true rfl, Nat.le_of_ble_eq_true rfl⟩ hS dX8_clothAt_23 ⟨?_, rfl⟩
  · rfl

def rm_c_X8_clothAt_o : Room := { frames := 0, cells := 0, slots := 0, locals := 0 }
set_option maxRecDepth 100000 in
set_option maxHeartbeats 400000 in
theorem c_X8_clothAt_o (l : Launch) (g : GG) (H0 : Heap) (sb : Nat) (z : Nat → Int32) (P : Nat → Option Nat) (x : Int32) (hS1 : StAt g sb z P H0) (hx1 : isIx x 6 = false) : Ct l yX8_clothAt cX8_clothAt 2 (some (.object "QuiltGuild$Cloth")) rm_c_X8_clothAt_o g [.ref sb, .int x] H0 (ftA (fun _ => False) H0.size) (fun v H1 => v = some (.null) ∧ H0 = H1) := by
  refine Ct.of (by decide) (fun _ h => Or.inr h) (Nat.le_of_ble_eq_true rfl) ?_
  intro p e s m below meth c ls hB hin hS hH hl
  have hx := hB.x
  have hb := hB.b
  have hl : lv_has ls 2 [(0, .ref sb), (1, .int x)] := hl
  refine lv_iload_n hx hb dX8_clothAt_0 rfl (lv_at hl 1 rfl) ?_
  refine lv_if_lt (tgt := 22) hx hb dX8_clothAt_1 (by decide) (fun h_1 => ?_) (fun h_1 => ?_)
  · skip
    refine lv_null hx hb dX8_clothAt_22 ?_
    refine mh_aret hB (Or.inl rfl) ⟨Nat.le_of_ble_eq_true rfl, Nat.le_of_ble_eq_true rfl⟩ hS dX8_clothAt_23 ⟨?_, rfl⟩
    · rfl
  · skip
    refine lv_iload_n hx hb dX8_clothAt_4 rfl (lv_at hl 1 rfl) ?_
    refine lv_aload_n hx hb dX8_clothAt_5 rfl (lv_at hl 0 rfl) ?_
    refine gf_X8_19 hB hS1.o rfl dX8_clothAt_6 ?_
    refine mh_alen hB 5 rfl hS1.q2 dX8_clothAt_9 ?_
    refine lv_icmp_ge (tgt := 22) hx hb dX8_clothAt_10 (by decide) (fun h_10 => ?_) (fun h => absurd (isIx_n hx1 (by omega) h_1) h)
    refine lv_null hx hb dX8_clothAt_22 ?_
    refine mh_aret hB (Or.inl rfl) ⟨Nat.le_of_ble_eq_true rfl, Nat.le_of_ble_eq_true rfl⟩ hS dX8_clothAt_23 ⟨?_, rfl⟩
    · rfl

def rm_c_X8_frameAt : Room := { frames := 0, cells := 0, slots := 0, locals := 0 }
set_option maxRecDepth 100000 in
set_option maxHeartbeats 400000 in
theorem c_X8_frameAt (l : Launch) (g : GG) (H0 : Heap) (sb : Nat) (z : Nat → Int32) (P : Nat → Option Nat) (k : Nat) (hS1 : StAt g sb z P H0) (hk : k < 3) : Ct l yX8_frameAt cX8_frameAt 2 (some (.object "QuiltGuild$Frame")) rm_c_X8_frameAt g [.ref sb, .int (nI k)] H0 (ftA (fun _ => False) H0.size) (fun v H1 => v = some (.ref (sb + (20 + 2 * k))) ∧ H0 = H1) := by
  refine Ct.of (by decide) (fun _ h => Or.inr h) (Nat.le_of_ble_eq_true rfl) ?_
  intro p e s m below meth c ls hB hin hS hH hl
  have hx := hB.x
  have hb := hB.b
  have hl : lv_has ls 2 [(0, .ref sb), (1, .int (nI k))] := hl
  refine lv_iload_n hx hb dX8_frameAt_0 rfl (lv_at hl 1 rfl) ?_
  refine mn_if_lt (tgt := 22) hB dX8_frameAt_1 (by decide) (by omega) (fun h => by exfalso; omega) (fun h_1 => ?_)
  refine lv_iload_n hx hb dX8_frameAt_4 rfl (lv_at hl 1 rfl) ?_
  refine lv_aload_n hx hb dX8_frameAt_5 rfl (lv_at hl 0 rfl) ?_
  refine gf_X8_25 hB hS1.o rfl dX8_frameAt_6 ?_
  refine mh_alen hB 6 rfl hS1.q3 dX8_frameAt_9 ?_
  refine mn_icmp_ge (tgt := 22) hB dX8_frameAt_10 (by decide) (by omega) (by omega) (fun h => by exfalso; omega) (fun h_10 => ?_)
  refine lv_aload_n hx hb dX8_frameAt_13 rfl (lv_at hl 0 rfl) ?_
  refine gf_X8_25 hB hS1.o rfl dX8_frameAt_14 ?_
  refine lv_iload_n hx hb dX8_frameAt_17 rfl (lv_at hl 1 rfl) ?_
  refine mn_qald 6 rfl hB hS1.q3 (by omega) (by omega) (y := (sb + (20 + 2 * k))) (rfl) dX8_frameAt_18 ?_
  refine lv_goto (tgt := 23) hx hb dX8_frameAt_19 (by decide) ?_
  refine mh_aret hB (Or.inr ⟨_, rfl⟩) ⟨Nat.le_of_ble_eq_true rfl, Nat.le_of_ble_eq_true rfl⟩ hS dX8_frameAt_23 ⟨?_, rfl⟩
  · rfl

def rm_c_X8_frameAt_o : Room := { frames := 0, cells := 0, slots := 0, locals := 0 }
set_option maxRecDepth 100000 in
set_option maxHeartbeats 400000 in
theorem c_X8_frameAt_o (l : Launch) (g : GG) (H0 : Heap) (sb : Nat) (z : Nat → Int32) (P : Nat → Option Nat) (x : Int32) (hS1 : StAt g sb z P H0) (hx1 : isIx x 3 = false) : Ct l yX8_frameAt cX8_frameAt 2 (some (.object "QuiltGuild$Frame")) rm_c_X8_frameAt_o g [.ref sb, .int x] H0 (ftA (fun _ => False) H0.size) (fun v H1 => v = some (.null) ∧ H0 = H1) := by
  refine Ct.of (by decide) (fun _ h => Or.inr h) (Nat.le_of_ble_eq_true rfl) ?_
  intro p e s m below meth c ls hB hin hS hH hl
  have hx := hB.x
  have hb := hB.b
  have hl : lv_has ls 2 [(0, .ref sb), (1, .int x)] := hl
  refine lv_iload_n hx hb dX8_frameAt_0 rfl (lv_at hl 1 rfl) ?_
  refine lv_if_lt (tgt := 22) hx hb dX8_frameAt_1 (by decide) (fun h_1 => ?_) (fun h_1 => ?_)
  · skip
    refine lv_null hx hb dX8_frameAt_22 ?_
    refine mh_aret hB (Or.inl rfl) ⟨Nat.le_of_ble_eq_true rfl, Nat.le_of_ble_eq_true rfl⟩ hS dX8_frameAt_23 ⟨?_, rfl⟩
    · rfl
  · skip
    refine lv_iload_n hx hb dX8_frameAt_4 rfl (lv_at hl 1 rfl) ?_
    refine lv_aload_n hx hb dX8_frameAt_5 rfl (lv_at hl 0 rfl) ?_
    refine gf_X8_25 hB hS1.o rfl dX8_frameAt_6 ?_
    refine mh_alen hB 6 rfl hS1.q3 dX8_frameAt_9 ?_
    refine lv_icmp_ge (tgt := 22) hx hb dX8_frameAt_10 (by decide) (fun h_10 => ?_) (fun h => absurd (isIx_n hx1 (by omega) h_1) h)
    refine lv_null hx hb dX8_frameAt_22 ?_
    refine mh_aret hB (Or.inl rfl) ⟨Nat.le_of_ble_eq_true rfl, Nat.le_of_ble_eq_true rfl⟩ hS dX8_frameAt_23 ⟨?_, rfl⟩
    · rfl

def rm_c_X8_usedFrames : Room := { frames := 1, cells := 0, slots := 0, locals := 21 }
set_option maxRecDepth 100000 in
set_option maxHeartbeats 400000 in
theorem c_X8_usedFrames (l : Launch) (g : GG) (H0 : Heap) (sb : Nat) (z : Nat → Int32) (P : Nat → Option Nat) (D : Nat → Prop) (q : Nat → Int32) (hS1 : StAt g sb z P H0) (hPT : PT g D P q H0) : Ct l yX8_usedFrames cX8_usedFrames 4 (some .int) rm_c_X8_usedFrames g [.ref sb] H0 (ftA (fun _ => False) H0.size) (fun v H1 => v = some (.int (nI (cntR (fun j9 => decide (0 < szF q j9)) 0 3))) ∧ H0 = H1) := by
  refine Ct.of (by decide) (fun _ h => Or.inr h) (Nat.le_of_ble_eq_true rfl) ?_
  intro p e s m below meth c ls hB hin hS hH hl
  have hx := hB.x
  have hb := hB.b
  have hl : lv_has ls 4 [(0, .ref sb)] := hl
  refine lv_iconst (v := nI 0) hx hb dX8_usedFrames_0 (by decide) ?_
  refine lv_istore_n (lv' := [(1, .int (nI 0)), (0, .ref sb)]) hx hb dX8_usedFrames_1 rfl hl (by decide) rfl (fun ls hl => ?_)
  refine lv_iconst (v := nI 0) hx hb dX8_usedFrames_2 (by decide) ?_
  refine lv_istore_n (lv' := [(2, .int (nI 0)), (1, .int (nI 0)), (0, .ref sb)]) hx hb dX8_usedFrames_3 rfl hl (by decide) rfl (fun ls hl => ?_)
  refine mh_loopR (σ := Nat) (fun xx9 locs ls => match xx9 with | f9 => f9 ≤ 3 ∧ va_S (ftA (fun _ => False) H0.size) H0 H0 locs ∧ lv_has ls 4 [(0, .ref sb), (1, .int (nI (cntR (fun j9 => decide (0 < szF q j9)) 0 f9))), (2, .int (nI f9))]) (fun xx9 => match xx9 with | f9 => 3 - f9) ?_ 0 ⟨(by omega), hS, lv_sub hl [2, 1, 0] rfl⟩
  rintro f9 locs ls ⟨hf9, hS, hl⟩ ih
  have ih4 := ih
  refine lv_iload_n hx hb dX8_usedFrames_4 rfl (lv_at hl 2 rfl) ?_
  refine lv_iconst (v := nI 3) hx hb dX8_usedFrames_5 (by decide) ?_
  refine mn_icmp_ge (tgt := 35) hB dX8_usedFrames_6 (by decide) (by omega) (by omega) (fun h_6 => ?_) (fun h_6 => ?_)
  · skip
    have hin9 : f9 = 3 := by omega
    subst hin9
    refine lv_iload_n hx hb dX8_usedFrames_35 rfl (lv_at hl 1 rfl) ?_
    refine mh_iret hB ⟨Nat.le_of_ble_eq_true rfl, Nat.le_of_ble_eq_true rfl⟩ hS dX8_usedFrames_36 ⟨?_, rfl⟩
    · rfl
  · skip
    refine lv_aload_n hx hb dX8_usedFrames_9 rfl (lv_at hl 0 rfl) ?_
    refine lv_iload_n hx hb dX8_usedFrames_10 rfl (lv_at hl 2 rfl) ?_
    refine cl_X8_36 (As := [.int (nI f9)]) (rest := []) hB (c_X8_frameAt l g H0 sb z P f9 hS1 (by omega)) hS1.o rfl hl.1 (Nat.le_of_ble_eq_true rfl) dX8_usedFrames_11 ⟨Nat.le_of_ble_eq_true rfl, Nat.le_of_ble_eq_true rfl⟩ ⟨Nat.le_of_ble_eq_true rfl, Nat.le_of_ble_eq_true rfl⟩ hS (by have hz9 := hS.1; rintro q (h | h) <;> first | exact Or.inr (by omega) | exact h.elim | exact Or.inl h | (simp only [ftA] at h ⊢; omega)) (fun v H1 locs hpo hfr hS => ?_)
    obtain ⟨rfl, rfl⟩ := hpo
    refine W.widen (k := 0) (n := 0) (Nat.le_of_ble_eq_true rfl) (Nat.le_of_ble_eq_true rfl) ?_
    refine lv_astore_n (lv' := [(3, .ref (sb + (20 + 2 * f9))), (0, .ref sb), (1, .int (nI (cntR (fun j9 => decide (0 < szF q j9)) 0 f9))), (2, .int (nI f9))]) hx hb dX8_usedFrames_14 rfl hl (by decide) rfl (fun ls hl => ?_)
    refine lv_aload_n hx hb dX8_usedFrames_15 rfl (lv_at hl 0 rfl) ?_
    refine lv_ifnull hx hb dX8_usedFrames_16 ?_
    refine lv_aload_n hx hb dX8_usedFrames_19 rfl (lv_at hl 0 rfl) ?_
    refine cl_X8_40 (As := []) (rest := []) hB (c_X1_isEmpty l g H0 sb z P D q f9 hS1 hPT (by omega)) (hS1.of (k := f9) (by omega)) rfl hl.1 (Nat.le_of_ble_eq_true rfl) dX8_usedFrames_20 ⟨Nat.le_of_ble_eq_true rfl, Nat.le_of_ble_eq_true rfl⟩ ⟨Nat.le_of_ble_eq_true rfl, Nat.le_of_ble_eq_true rfl⟩ hS (by have hz9 := hS.1; rintro q (h | h) <;> first | exact Or.inr (by omega) | exact h.elim | exact Or.inl h | (simp only [ftA] at h ⊢; omega)) (fun v H1 locs hpo hfr hS => ?_)
    obtain ⟨rfl, rfl⟩ := hpo
    refine W.widen (k := 0) (n := 0) (Nat.le_of_ble_eq_true rfl) (Nat.le_of_ble_eq_true rfl) ?_
    refine mb_if_ne (tgt := 29) hB dX8_usedFrames_23 (by decide) (fun h_23 => ?_) (fun h_23 => ?_)
    · skip
      have h23 := of_decide_eq_true h_23
      have e29 : cntR (fun j9 => decide (0 < szF q j9)) 0 f9 = cntR (fun j9 => decide (0 < szF q j9)) 0 (f9 + 1) := by simp only [cntR, Nat.zero_add, decide_eq_true_eq]; first | (rw [if_pos (by omega)]; done) | (rw [if_neg (by omega), Nat.add_zero]; done)
      rw [e29] at hl
      refine lv_iinc (v := nI (f9 + 1)) (lv' := [(2, .int (nI (f9 + 1))), (3, .ref (sb + (20 + 2 * f9))), (0, .ref sb), (1, .int (nI (cntR (fun j9 => decide (0 < szF q j9)) 0 (f9 + 1))))]) hx hb dX8_usedFrames_29 hl (k := 3) rfl (nI_1 _) (by decide) rfl (fun ls hl => ?_)
      refine lv_goto (tgt := 4) hx hb dX8_usedFrames_32 (by decide) ?_
      refine ih4 (f9 + 1) _ _ ⟨(by omega), hS, lv_sub hl [2, 3, 0] rfl⟩ (by dsimp only; omega)
    · skip
      have h23 := of_decide_eq_false h_23
      refine lv_iinc (v := nI (cntR (fun j9 => decide (0 < szF q j9)) 0 f9 + 1)) (lv' := [(1, .int (nI (cntR (fun j9 => decide (0 < szF q j9)) 0 f9 + 1))), (3, .ref (sb + (20 + 2 * f9))), (0, .ref sb), (2, .int (nI f9))]) hx hb dX8_usedFrames_26 hl (k := 2) rfl (nI_1 _) (by decide) rfl (fun ls hl => ?_)
      have e29 : cntR (fun j9 => decide (0 < szF q j9)) 0 f9 + 1 = cntR (fun j9 => decide (0 < szF q j9)) 0 (f9 + 1) := by simp only [cntR, Nat.zero_add, decide_eq_true_eq]; first | (rw [if_pos (by omega)]; done) | (rw [if_neg (by omega), Nat.add_zero]; done)
      rw [e29] at hl
      refine lv_iinc (v := nI (f9 + 1)) (lv' := [(2, .int (nI (f9 + 1))), (1, .int (nI (cntR (fun j9 => decide (0 < szF q j9)) 0 (f9 + 1)))), (3, .ref (sb + (20 + 2 * f9))), (0, .ref sb)]) hx hb dX8_usedFrames_29 hl (k := 3) rfl (nI_1 _) (by decide) rfl (fun ls hl => ?_)
      refine lv_goto (tgt := 4) hx hb dX8_usedFrames_32 (by decide) ?_
      refine ih4 (f9 + 1) _ _ ⟨(by omega), hS, lv_sub hl [3, 1, 0] rfl⟩ (by dsimp only; omega)

def rm_c_X8_clothInAll : Room := { frames := 1, cells := 0, slots := 0, locals := 21 }
set_option maxRecDepth 100000 in
set_option maxHeartbeats 400000 in
theorem c_X8_clothInAll (l : Launch) (g : GG) (H0 : Heap) (sb : Nat) (z : Nat → Int32) (P : Nat → Option Nat) (w9 : Nat) (hS1 : StAt g sb z P H0) (hw : w9 < 5) : Ct l yX8_clothInAll cX8_clothInAll 5 (some .int) rm_c_X8_clothInAll g [.ref sb, .int (nI w9)] H0 (ftA (fun _ => False) H0.size) (fun v H1 => v = some (.int (bx_sum (fun j9 => clV z j9 w9) 6)) ∧ H0 = H1) := by
  refine Ct.of (by decide) (fun _ h => Or.inr h) (Nat.le_of_ble_eq_true rfl) ?_
  intro p e s m below meth c ls hB hin hS hH hl
  have hx := hB.x
  have hb := hB.b
  have hl : lv_has ls 5 [(0, .ref sb), (1, .int (nI w9))] := hl
  refine lv_iconst (v := nI 0) hx hb dX8_clothInAll_0 (by decide) ?_
  refine lv_istore_n (lv' := [(2, .int (nI 0)), (0, .ref sb), (1, .int (nI w9))]) hx hb dX8_clothInAll_1 rfl hl (by decide) rfl (fun ls hl => ?_)
  refine lv_iconst (v := nI 0) hx hb dX8_clothInAll_2 (by decide) ?_
  refine lv_istore_n (lv' := [(3, .int (nI 0)), (2, .int (nI 0)), (0, .ref sb), (1, .int (nI w9))]) hx hb dX8_clothInAll_3 rfl hl (by decide) rfl (fun ls hl => ?_)
  refine mh_loopR (σ := Nat) (fun xx9 locs ls => match xx9 with | c9 => c9 ≤ 6 ∧ va_S (ftA (fun _ => False) H0.size) H0 H0 locs ∧ lv_has ls 5 [(0, .ref sb), (1, .int (nI w9)), (2, .int (bx_sum (fun j9 => clV z j9 w9) c9)), (3, .int (nI c9))]) (fun xx9 => match xx9 with | c9 => 6 - c9) ?_ 0 ⟨(by omega), hS, lv_sub hl [2, 3, 1, 0] rfl⟩
  rintro c9 locs ls ⟨hc9, hS, hl⟩ ih
  have ih4 := ih
  refine lv_iload_n hx hb dX8_clothInAll_4 rfl (lv_at hl 3 rfl) ?_
  refine lv_bipush (v := nI 6) hx hb dX8_clothInAll_5 (by decide) ?_
  refine mn_icmp_ge (tgt := 37) hB dX8_clothInAll_7 (by decide) (by omega) (by omega) (fun h_7 => ?_) (fun h_7 => ?_)
  · skip
    have hin9 : c9 = 6 := by omega
    subst hin9
    refine lv_iload_n hx hb dX8_clothInAll_37 rfl (lv_at hl 2 rfl) ?_
    refine mh_iret hB ⟨Nat.le_of_ble_eq_true rfl, Nat.le_of_ble_eq_true rfl⟩ hS dX8_clothInAll_38 ⟨?_, rfl⟩
    · rfl
  · skip
    refine lv_aload_n hx hb dX8_clothInAll_10 rfl (lv_at hl 0 rfl) ?_
    refine lv_iload_n hx hb dX8_clothInAll_11 rfl (lv_at hl 3 rfl) ?_
    refine cl_X8_44 (As := [.int (nI c9)]) (rest := []) hB (c_X8_clothAt l g H0 sb z P c9 hS1 (by omega)) hS1.o rfl hl.1 (Nat.le_of_ble_eq_true rfl) dX8_clothInAll_12 ⟨Nat.le_of_ble_eq_true rfl, Nat.le_of_ble_eq_true rfl⟩ ⟨Nat.le_of_ble_eq_true rfl, Nat.le_of_ble_eq_true rfl⟩ hS (by have hz9 := hS.1; rintro q (h | h) <;> first | exact Or.inr (by omega) | exact h.elim | exact Or.inl h | (simp only [ftA] at h ⊢; omega)) (fun v H1 locs hpo hfr hS => ?_)
    obtain ⟨rfl, rfl⟩ := hpo
    refine W.widen (k := 0) (n := 0) (Nat.le_of_ble_eq_true rfl) (Nat.le_of_ble_eq_true rfl) ?_
    refine lv_astore (lv' := [(4, .ref (sb + (14 + c9))), (0, .ref sb), (1, .int (nI w9)), (2, .int (bx_sum (fun j9 => clV z j9 w9) c9)), (3, .int (nI c9))]) hx hb dX8_clothInAll_15 hl (by decide) rfl (fun ls hl => ?_)
    refine lv_aload hx hb dX8_clothInAll_17 (lv_at hl 0 rfl) ?_
    refine lv_ifnull hx hb dX8_clothInAll_19 ?_
    refine lv_iload_n hx hb dX8_clothInAll_22 rfl (lv_at hl 3 rfl) ?_
    refine lv_aload hx hb dX8_clothInAll_23 (lv_at hl 0 rfl) ?_
    refine lv_iload_n hx hb dX8_clothInAll_25 rfl (lv_at hl 2 rfl) ?_
    refine cl_X8_48 (As := [.int (nI w9)]) (rest := [.int (bx_sum (fun j9 => clV z j9 w9) c9)]) hB (c_X0_pieces l g H0 sb z P c9 w9 hS1 (by omega) (by first | assumption | omega)) (hS1.oc (k := c9) (by omega)) rfl hl.1 (Nat.le_of_ble_eq_true rfl) dX8_clothInAll_26 ⟨Nat.le_of_ble_eq_true rfl, Nat.le_of_ble_eq_true rfl⟩ ⟨Nat.le_of_ble_eq_true rfl, Nat.le_of_ble_eq_true rfl⟩ hS (by have hz9 := hS.1; rintro q (h | h) <;> first | exact Or.inr (by omega) | exact h.elim | exact Or.inl h | (simp only [ftA] at h ⊢; omega)) (fun v H1 locs hpo hfr hS => ?_)
    obtain ⟨rfl, rfl⟩ := hpo
    refine W.widen (k := 0) (n := 0) (Nat.le_of_ble_eq_true rfl) (Nat.le_of_ble_eq_true rfl) ?_
    refine lv_iadd hx hb dX8_clothInAll_29 ?_
    refine mh_top (y := .int (bx_sum (fun j9 => clV z j9 w9) (c9 + 1))) (rfl) ?_
    refine lv_istore_n (lv' := [(2, .int (bx_sum (fun j9 => clV z j9 w9) (c9 + 1))), (4, .ref (sb + (14 + c9))), (0, .ref sb), (1, .int (nI w9)), (3, .int (nI c9))]) hx hb dX8_clothInAll_30 rfl hl (by decide) rfl (fun ls hl => ?_)
    refine lv_iinc (v := nI (c9 + 1)) (lv' := [(3, .int (nI (c9 + 1))), (2, .int (bx_sum (fun j9 => clV z j9 w9) (c9 + 1))), (4, .ref (sb + (14 + c9))), (0, .ref sb), (1, .int (nI w9))]) hx hb dX8_clothInAll_31 hl (k := 4) rfl (nI_1 _) (by decide) rfl (fun ls hl => ?_)
    refine lv_goto (tgt := 4) hx hb dX8_clothInAll_34 (by decide) ?_
    refine ih4 (c9 + 1) _ _ ⟨(by omega), hS, lv_sub hl [3, 4, 1, 0] rfl⟩ (by dsimp only; omega)

def rm_c_X8_welcomeMember : Room := { frames := 0, cells := 0, slots := 0, locals := 0 }
set_option maxRecDepth 100000 in
set_option maxHeartbeats 400000 in
theorem c_X8_welcomeMember (l : Launch) (g : GG) (H0 : Heap) (sb : Nat) (z : Nat → Int32) (P : Nat → Option Nat) (nm : Nat) (hS1 : StAt g sb z P H0) (hnm : z 0 = nI nm) (h5 : nm ≤ 5) : Ct l yX8_welcomeMember cX8_welcomeMember 1 (some .int) rm_c_X8_welcomeMember g [.ref sb] H0 (ftA (fun q9 => sb ≤ q9 ∧ q9 < sb + 26) H0.size) (fun v H1 => v = some (.int (nI nm)) ∧ StAt g sb (upd z 0 (nI (nm + 1))) P H1) := by
  refine Ct.of (by decide) (fun _ h => Or.inr h) (Nat.le_of_ble_eq_true rfl) ?_
  intro p e s m below meth c ls hB hin hS hH hl
  have hx := hB.x
  have hb := hB.b
  have hl : lv_has ls 1 [(0, .ref sb)] := hl
  refine lv_aload_n hx hb dX8_welcomeMember_0 rfl (lv_at hl 0 rfl) ?_
  refine lv_dup hx hb dX8_welcomeMember_1 rfl ?_
  refine gf_X8_32 hB hS1.o rfl dX8_welcomeMember_2 ?_
  refine mh_top (y := .int (nI nm)) (by rw [hnm]) ?_
  refine lv_iconst (v := nI 1) hx hb dX8_welcomeMember_5 (by decide) ?_
  refine mn_iadd hB dX8_welcomeMember_6 ?_
  refine pf_X8_32 hB hS1.o (by first | exact Or.inl rfl | (simp only [ftA]; omega) | (simp [ftA]; omega)) hS rfl rfl (Nat.le_of_ble_eq_true rfl) dX8_welcomeMember_7 (fun H locs hwr => ?_)
  have ho := hwr.2.1
  have hz := hwr.2.2.1
  obtain ⟨hS1, hS⟩ := hS1.w_t0 hwr
  refine lv_aload_n hx hb dX8_welcomeMember_10 rfl (lv_at hl 0 rfl) ?_
  refine gf_X8_32 hB hS1.o rfl dX8_welcomeMember_11 ?_
  refine mh_top (y := .int (nI (nm + 1))) (by rw [upd_s (α := Nat)]) ?_
  refine lv_iconst (v := nI 1) hx hb dX8_welcomeMember_14 (by decide) ?_
  refine mn_isub hB dX8_welcomeMember_15 (by omega) ?_
  refine mh_top (y := .int (nI nm)) (by rw [Nat.add_sub_cancel]) ?_
  refine mh_iret hB ⟨Nat.le_of_ble_eq_true rfl, Nat.le_of_ble_eq_true rfl⟩ hS dX8_welcomeMember_16 ⟨?_, ?_⟩
  · rfl
  · exact hS1

def rm_c_X8_takeGift : Room := { frames := 2, cells := 0, slots := 0, locals := 44 }
set_option maxRecDepth 100000 in
set_option maxHeartbeats 400000 in
theorem c_X8_takeGift (l : Launch) (g : GG) (H0 : Heap) (sb : Nat) (z : Nat → Int32) (P : Nat → Option Nat) (k : Nat) (c0 : Nat) (x : Int32) (hS1 : StAt g sb z P H0) (hk : k < 5) (hc : c0 < 6) : Ct l yX8_takeGift cX8_takeGift 5 none rm_c_X8_takeGift g [.ref sb, .ref (sb + (4 + 2 * k)), .int (nI c0), .int x] H0 (ftA (fun q9 => sb ≤ q9 ∧ q9 < sb + 26) H0.size) (fun v H1 => v = none ∧ StAt g sb (upd (upd (upd z (15 + 6 * k + c0) (z (15 + 6 * k + c0) + x)) (74 + c0) (z (74 + c0) + x)) (50 + c0) (z (50 + c0) + x)) P H1) := by
  refine Ct.of (by decide) (fun _ h => Or.inr h) (Nat.le_of_ble_eq_true rfl) ?_
  intro p e s m below meth c ls hB hin hS hH hl
  have hx := hB.x
  have hb := hB.b
  have hl : lv_has ls 5 [(0, .ref sb), (1, .ref (sb + (4 + 2 * k))), (2, .int (nI c0)), (3, .int x)] := hl
  refine lv_aload_n hx hb dX8_takeGift_0 rfl (lv_at hl 0 rfl) ?_
  refine lv_iload_n hx hb dX8_takeGift_1 rfl (lv_at hl 2 rfl) ?_
  refine cl_X8_44 (As := [.int (nI c0)]) (rest := []) hB (c_X8_clothAt l g H0 sb z P c0 hS1 (by omega)) hS1.o rfl hl.1 (Nat.le_of_ble_eq_true rfl) dX8_takeGift_2 ⟨Nat.le_of_ble_eq_true rfl, Nat.le_of_ble_eq_true rfl⟩ ⟨Nat.le_of_ble_eq_true rfl, Nat.le_of_ble_eq_true rfl⟩ hS (by have hz9 := hS.1; rintro q (h | h) <;> first | exact Or.inr (by omega) | exact h.elim | exact Or.inl h | (simp only [ftA] at h ⊢; omega)) (fun v H1 locs hpo hfr hS => ?_)
  obtain ⟨rfl, rfl⟩ := hpo
  refine W.widen (k := 0) (n := 0) (Nat.le_of_ble_eq_true rfl) (Nat.le_of_ble_eq_true rfl) ?_
  refine lv_astore (lv' := [(4, .ref (sb + (14 + c0))), (0, .ref sb), (1, .ref (sb + (4 + 2 * k))), (2, .int (nI c0)), (3, .int x)]) hx hb dX8_takeGift_5 hl (by decide) rfl (fun ls hl => ?_)
  refine lv_aload_n hx hb dX8_takeGift_7 rfl (lv_at hl 2 rfl) ?_
  refine lv_ifnull hx hb dX8_takeGift_8 ?_
  refine lv_aload hx hb dX8_takeGift_11 (lv_at hl 0 rfl) ?_
  refine lv_ifnonnull (tgt := 17) hx hb dX8_takeGift_13 (by decide) ?_
  refine lv_aload_n hx hb dX8_takeGift_17 rfl (lv_at hl 2 rfl) ?_
  refine gf_X8_52 hB (hS1.om (k := k) (by omega)) rfl dX8_takeGift_18 ?_
  refine lv_iload_n hx hb dX8_takeGift_21 rfl (lv_at hl 3 rfl) ?_
  refine lv_iload_n hx hb dX8_takeGift_22 rfl (lv_at hl 4 rfl) ?_
  refine cl_X8_56 (As := [.ref (sb + (5 + 2 * k)), .int (nI c0), .int x]) (rest := []) hB (c_X6_add l g H0 (sb + (5 + 2 * k)) 6 (fun j7 => z (15 + 6 * k + j7)) c0 x (hS1.om2 (k := k) (by omega)) (by omega) (by omega)) rfl hl.1 (Nat.le_of_ble_eq_true rfl) dX8_takeGift_23 ⟨Nat.le_of_ble_eq_true rfl, Nat.le_of_ble_eq_true rfl⟩ ⟨Nat.le_of_ble_eq_true rfl, Nat.le_of_ble_eq_true rfl⟩ hS (by have hz9 := hS.1; rintro q (h | h) <;> first | exact Or.inr (by omega) | exact h.elim | exact Or.inl h | (simp only [ftA] at h ⊢; omega)) (fun v H1 locs hpo hfr hS => ?_)
  obtain ⟨rfl, ha⟩ := hpo
  have hS1 := hS1.f_mG (by omega) hfr ha
  rw [layR_upd (by omega)] at hS1
  generalize H1 = H at hfr hS hS1 ⊢
  refine W.widen (k := 0) (n := 0) (Nat.le_of_ble_eq_true rfl) (Nat.le_of_ble_eq_true rfl) ?_
  refine lv_aload hx hb dX8_takeGift_26 (lv_at hl 0 rfl) ?_
  refine lv_dup hx hb dX8_takeGift_28 rfl ?_
  refine gf_X8_62 hB (hS1.oc (k := c0) (by omega)) rfl dX8_takeGift_29 ?_
  refine mh_top (y := .int (z (74 + c0))) (by rw [upd_n (by omega)]) ?_
  refine lv_iload_n hx hb dX8_takeGift_32 rfl (lv_at hl 4 rfl) ?_
  refine lv_iadd hx hb dX8_takeGift_33 ?_
  refine pf_X8_62 hB (hS1.oc (k := c0) (by omega)) (by first | exact Or.inl rfl | (simp only [ftA]; omega) | (simp [ftA]; omega)) hS rfl rfl (Nat.le_of_ble_eq_true rfl) dX8_takeGift_34 (fun H locs hwr => ?_)
  have ho := hwr.2.1
  have hz := hwr.2.2.1
  obtain ⟨hS1, hS⟩ := hS1.w_cG (by omega) hwr
  refine lv_aload hx hb dX8_takeGift_37 (lv_at hl 0 rfl) ?_
  refine lv_dup hx hb dX8_takeGift_39 rfl ?_
  refine gf_X8_64 hB (hS1.oc (k := c0) (by omega)) rfl dX8_takeGift_40 ?_
  refine mh_top (y := .int (z (50 + c0))) (by rw [upd_n (by omega), upd_n (by omega)]) ?_
  refine lv_iload_n hx hb dX8_takeGift_43 rfl (lv_at hl 4 rfl) ?_
  refine lv_iadd hx hb dX8_takeGift_44 ?_
  refine pf_X8_64 hB (hS1.oc (k := c0) (by omega)) (by first | exact Or.inl rfl | (simp only [ftA]; omega) | (simp [ftA]; omega)) hS rfl rfl (Nat.le_of_ble_eq_true rfl) dX8_takeGift_45 (fun H locs hwr => ?_)
  have ho := hwr.2.1
  have hz := hwr.2.2.1
  obtain ⟨hS1, hS⟩ := hS1.w_cS (by omega) hwr
  refine mh_vret hB ⟨Nat.le_of_ble_eq_true rfl, Nat.le_of_ble_eq_true rfl⟩ hS dX8_takeGift_48 ⟨?_, ?_⟩
  · rfl
  · exact hS1

def rm_c_X8_canSewOn : Room := { frames := 1, cells := 0, slots := 0, locals := 20 }
set_option maxRecDepth 100000 in
set_option maxHeartbeats 400000 in
theorem c_X8_canSewOn (l : Launch) (g : GG) (H0 : Heap) (sb : Nat) (z : Nat → Int32) (P : Nat → Option Nat) (D : Nat → Prop) (q : Nat → Int32) (f : Nat) (nm : Nat) (hS1 : StAt g sb z P H0) (hPT : PT g D P q H0) (hf : f < 3) (hnm : z 0 = nI nm) (h5 : nm ≤ 5) : Ct l yX8_canSewOn cX8_canSewOn 2 (some .boolean) rm_c_X8_canSewOn g [.ref sb, .ref (sb + (20 + 2 * f))] H0 (ftA (fun _ => False) H0.size) (fun v H1 => v = some (.int (bI (decide (0 < szF q f ∧ 0 < nm)))) ∧ H0 = H1) := by
  refine Ct.of (by decide) (fun _ h => Or.inr h) (Nat.le_of_ble_eq_true rfl) ?_
  intro p e s m below meth c ls hB hin hS hH hl
  have hx := hB.x
  have hb := hB.b
  have hl : lv_has ls 2 [(0, .ref sb), (1, .ref (sb + (20 + 2 * f)))] := hl
  refine lv_aload_n hx hb dX8_canSewOn_0 rfl (lv_at hl 1 rfl) ?_
  refine cl_X8_40 (As := []) (rest := []) hB (c_X1_isEmpty l g H0 sb z P D q f hS1 hPT (by first | assumption | omega)) (hS1.of (k := f) (by omega)) rfl hl.1 (Nat.le_of_ble_eq_true rfl) dX8_canSewOn_1 ⟨Nat.le_of_ble_eq_true rfl, Nat.le_of_ble_eq_true rfl⟩ ⟨Nat.le_of_ble_eq_true rfl, Nat.le_of_ble_eq_true rfl⟩ hS (by have hz9 := hS.1; rintro q (h | h) <;> first | exact Or.inr (by omega) | exact h.elim | exact Or.inl h | (simp only [ftA] at h ⊢; omega)) (fun v H1 locs hpo hfr hS => ?_)
  obtain ⟨rfl, rfl⟩ := hpo
  refine W.widen (k := 0) (n := 0) (Nat.le_of_ble_eq_true rfl) (Nat.le_of_ble_eq_true rfl) ?_
  refine mb_if_ne (tgt := 18) hB dX8_canSewOn_4 (by decide) (fun h_4 => ?_) (fun h_4 => ?_)
  · skip
    have h4 := of_decide_eq_true h_4
    refine lv_iconst (v := nI 0) hx hb dX8_canSewOn_18 (by decide) ?_
    refine mh_zret hB ⟨Nat.le_of_ble_eq_true rfl, Nat.le_of_ble_eq_true rfl⟩ hS dX8_canSewOn_19 (by first | rfl | decide | (split <;> rfl)) ⟨?_, rfl⟩
    · first | (rw [show decide (0 < szF q f ∧ 0 < nm) = true from decide_eq_true (by omega)]; rfl) | (rw [show decide (0 < szF q f ∧ 0 < nm) = false from decide_eq_false (by omega)]; rfl)
  · skip
    have h4 := of_decide_eq_false h_4
    refine lv_aload_n hx hb dX8_canSewOn_7 rfl (lv_at hl 0 rfl) ?_
    refine gf_X8_32 hB hS1.o rfl dX8_canSewOn_8 ?_
    refine mh_top (y := .int (nI nm)) (by rw [hnm]) ?_
    refine mn_if_le (tgt := 18) hB dX8_canSewOn_11 (by decide) (by omega) (fun h_11 => ?_) (fun h_11 => ?_)
    · skip
      refine lv_iconst (v := nI 0) hx hb dX8_canSewOn_18 (by decide) ?_
      refine mh_zret hB ⟨Nat.le_of_ble_eq_true rfl, Nat.le_of_ble_eq_true rfl⟩ hS dX8_canSewOn_19 (by first | rfl | decide | (split <;> rfl)) ⟨?_, rfl⟩
      · first | (rw [show decide (0 < szF q f ∧ 0 < nm) = true from decide_eq_true (by omega)]; rfl) | (rw [show decide (0 < szF q f ∧ 0 < nm) = false from decide_eq_false (by omega)]; rfl)
    · skip
      refine lv_iconst (v := nI 1) hx hb dX8_canSewOn_14 (by decide) ?_
      refine lv_goto (tgt := 19) hx hb dX8_canSewOn_15 (by decide) ?_
      refine mh_zret hB ⟨Nat.le_of_ble_eq_true rfl, Nat.le_of_ble_eq_true rfl⟩ hS dX8_canSewOn_19 (by first | rfl | decide | (split <;> rfl)) ⟨?_, rfl⟩
      · first | (rw [show decide (0 < szF q f ∧ 0 < nm) = true from decide_eq_true (by omega)]; rfl) | (rw [show decide (0 < szF q f ∧ 0 < nm) = false from decide_eq_false (by omega)]; rfl)

def rm_c_X8_sewOne : Room := { frames := 2, cells := 0, slots := 0, locals := 41 }
set_option maxRecDepth 100000 in
set_option maxHeartbeats 400000 in
theorem c_X8_sewOne (l : Launch) (g : GG) (H0 : Heap) (sb : Nat) (z : Nat → Int32) (P : Nat → Option Nat) (D : Nat → Prop) (q : Nat → Int32) (f : Nat) (sw : Nat) (hS1 : StAt g sb z P H0) (hPT : PT g D P q H0) (hD : ∀ q9, sb ≤ q9 → q9 < sb + 26 → D q9) (hf : f < 3) (hsw : z (80 + f) = nI sw) (hsl : sw ≤ szF q f) (hs9 : szF q f ≤ 256) (hc6 : sw < szF q f → clF q f sw < 6) : Ct l yX8_sewOne cX8_sewOne 3 (some .boolean) rm_c_X8_sewOne g [.ref sb, .ref (sb + (20 + 2 * f))] H0 (ftA (fun q9 => sb ≤ q9 ∧ q9 < sb + 26) H0.size) (fun v H1 => v = some (.int (bI (sewBz z q f sw))) ∧ StAt g sb (sewZ1 z q f sw) P H1 ∧ PT g D P q H1) := by
  refine Ct.of (by decide) (fun _ h => Or.inr h) (Nat.le_of_ble_eq_true rfl) ?_
  intro p e s m below meth c ls hB hin hS hH hl
  have hx := hB.x
  have hb := hB.b
  have hl : lv_has ls 3 [(0, .ref sb), (1, .ref (sb + (20 + 2 * f)))] := hl
  rcases Nat.lt_or_ge sw (szF q f) with hlt | hge
  · skip
    have hcc := hc6 hlt
    refine lv_aload_n hx hb dX8_sewOne_0 rfl (lv_at hl 0 rfl) ?_
    refine lv_aload_n hx hb dX8_sewOne_1 rfl (lv_at hl 1 rfl) ?_
    refine cl_X8_84 (As := []) (rest := [.ref sb]) hB (c_X1_colourOfNext l g H0 sb z P D q f sw hS1 hPT (by first | assumption | omega) (by first | assumption | omega) (by first | assumption | omega) (by first | assumption | omega)) (hS1.of (k := f) (by omega)) rfl hl.1 (Nat.le_of_ble_eq_true rfl) dX8_sewOne_2 ⟨Nat.le_of_ble_eq_true rfl, Nat.le_of_ble_eq_true rfl⟩ ⟨Nat.le_of_ble_eq_true rfl, Nat.le_of_ble_eq_true rfl⟩ hS (by have hz9 := hS.1; rintro q (h | h) <;> first | exact Or.inr (by omega) | exact h.elim | exact Or.inl h | (simp only [ftA] at h ⊢; omega)) (fun v H1 locs hpo hfr hS => ?_)
    obtain ⟨rfl, rfl⟩ := hpo
    refine W.widen (k := 0) (n := 0) (Nat.le_of_ble_eq_true rfl) (Nat.le_of_ble_eq_true rfl) ?_
    refine cl_X8_44 (As := [.int (nI (clF q f sw))]) (rest := []) hB (c_X8_clothAt l g H0 sb z P (clF q f sw) hS1 (hcc)) hS1.o rfl hl.1 (Nat.le_of_ble_eq_true rfl) dX8_sewOne_5 ⟨Nat.le_of_ble_eq_true rfl, Nat.le_of_ble_eq_true rfl⟩ ⟨Nat.le_of_ble_eq_true rfl, Nat.le_of_ble_eq_true rfl⟩ hS (by have hz9 := hS.1; rintro q (h | h) <;> first | exact Or.inr (by omega) | exact h.elim | exact Or.inl h | (simp only [ftA] at h ⊢; omega)) (fun v H1 locs hpo hfr hS => ?_)
    obtain ⟨rfl, rfl⟩ := hpo
    refine W.widen (k := 0) (n := 0) (Nat.le_of_ble_eq_true rfl) (Nat.le_of_ble_eq_true rfl) ?_
    refine lv_astore_n (lv' := [(2, .ref (sb + (14 + (clF q f sw)))), (0, .ref sb), (1, .ref (sb + (20 + 2 * f)))]) hx hb dX8_sewOne_8 rfl hl (by decide) rfl (fun ls hl => ?_)
    refine lv_aload_n hx hb dX8_sewOne_9 rfl (lv_at hl 0 rfl) ?_
    refine lv_ifnull hx hb dX8_sewOne_10 ?_
    refine lv_aload_n hx hb dX8_sewOne_13 rfl (lv_at hl 0 rfl) ?_
    refine gf_X8_64 hB (hS1.oc (k := (clF q f sw)) (by omega)) rfl dX8_sewOne_14 ?_
    refine lv_if_gt (tgt := 22) hx hb dX8_sewOne_17 (by decide) (fun h_17 => ?_) (fun h_17 => ?_)
    · skip
      have hb1 : sewBz z q f sw = true := by unfold sewBz; rw [decide_eq_true hlt, decide_eq_true (Int32.not_le.mpr h_17)]; rfl
      refine lv_aload_n hx hb dX8_sewOne_22 rfl (lv_at hl 0 rfl) ?_
      refine lv_dup hx hb dX8_sewOne_23 rfl ?_
      refine gf_X8_64 hB (hS1.oc (k := (clF q f sw)) (by omega)) rfl dX8_sewOne_24 ?_
      refine lv_iconst (v := nI 1) hx hb dX8_sewOne_27 (by decide) ?_
      refine lv_isub hx hb dX8_sewOne_28 ?_
      refine pf_X8_64 hB (hS1.oc (k := (clF q f sw)) (by omega)) (by first | exact Or.inl rfl | (simp only [ftA]; omega) | (simp [ftA]; omega)) hS rfl rfl (Nat.le_of_ble_eq_true rfl) dX8_sewOne_29 (fun H locs hwr => ?_)
      have ho := hwr.2.1
      have hz := hwr.2.2.1
      obtain ⟨hS1, hS⟩ := hS1.w_cS (by omega) hwr
      have hPT := hPT.kept (fun q9 hq9 _ => ho q9 (fun e9 => hq9 (by rw [e9]; first | exact hD _ (by omega) (by omega))))
      refine lv_aload_n hx hb dX8_sewOne_32 rfl (lv_at hl 0 rfl) ?_
      refine lv_dup hx hb dX8_sewOne_33 rfl ?_
      refine gf_X8_88 hB (hS1.oc (k := (clF q f sw)) (by omega)) rfl dX8_sewOne_34 ?_
      refine mh_top (y := .int (z (68 + (clF q f sw)))) (by rw [upd_n (by omega)]) ?_
      refine lv_iconst (v := nI 1) hx hb dX8_sewOne_37 (by decide) ?_
      refine lv_iadd hx hb dX8_sewOne_38 ?_
      refine pf_X8_88 hB (hS1.oc (k := (clF q f sw)) (by omega)) (by first | exact Or.inl rfl | (simp only [ftA]; omega) | (simp [ftA]; omega)) hS rfl rfl (Nat.le_of_ble_eq_true rfl) dX8_sewOne_39 (fun H locs hwr => ?_)
      have ho := hwr.2.1
      have hz := hwr.2.2.1
      obtain ⟨hS1, hS⟩ := hS1.w_cQ (by omega) hwr
      have hPT := hPT.kept (fun q9 hq9 _ => ho q9 (fun e9 => hq9 (by rw [e9]; first | exact hD _ (by omega) (by omega))))
      refine lv_aload_n hx hb dX8_sewOne_42 rfl (lv_at hl 2 rfl) ?_
      refine lv_dup hx hb dX8_sewOne_43 rfl ?_
      refine gf_X8_91 hB (hS1.of (k := f) (by omega)) rfl dX8_sewOne_44 ?_
      refine mh_top (y := .int (nI sw)) (by rw [upd_n (by omega), upd_n (by omega), hsw]) ?_
      refine lv_iconst (v := nI 1) hx hb dX8_sewOne_47 (by decide) ?_
      refine mn_iadd hB dX8_sewOne_48 ?_
      refine pf_X8_91 hB (hS1.of (k := f) (by omega)) (by first | exact Or.inl rfl | (simp only [ftA]; omega) | (simp [ftA]; omega)) hS rfl rfl (Nat.le_of_ble_eq_true rfl) dX8_sewOne_49 (fun H locs hwr => ?_)
      have ho := hwr.2.1
      have hz := hwr.2.2.1
      obtain ⟨hS1, hS⟩ := hS1.w_fS (by omega) hwr
      have hPT := hPT.kept (fun q9 hq9 _ => ho q9 (fun e9 => hq9 (by rw [e9]; first | exact hD _ (by omega) (by omega))))
      refine lv_iconst (v := nI 1) hx hb dX8_sewOne_52 (by decide) ?_
      refine mh_zret hB ⟨Nat.le_of_ble_eq_true rfl, Nat.le_of_ble_eq_true rfl⟩ hS dX8_sewOne_53 (by first | rfl | decide | (split <;> rfl)) ⟨?_, ?_, ?_⟩
      · rw [hb1]; rfl
      · unfold sewZ1; rw [if_pos hb1]; exact hS1
      · exact hPT
    · skip
      have hb0 : sewBz z q f sw = false := by unfold sewBz; rw [show decide (¬ z (50 + clF q f sw) ≤ 0) = false from decide_eq_false (fun y => y (Int32.not_lt.mp h_17)), Bool.and_false]
      refine lv_iconst (v := nI 0) hx hb dX8_sewOne_20 (by decide) ?_
      refine mh_zret hB ⟨Nat.le_of_ble_eq_true rfl, Nat.le_of_ble_eq_true rfl⟩ hS dX8_sewOne_21 (by first | rfl | decide | (split <;> rfl)) ⟨?_, ?_, ?_⟩
      · rw [hb0]; rfl
      · rw [show sewZ1 z q f sw = z from if_neg (by rw [hb0]; decide)]; exact hS1
      · exact hPT
  · skip
    have hlt : sw = szF q f := by omega
    have hb0 : sewBz z q f sw = false := by unfold sewBz; rw [decide_eq_false (by omega)]; rfl
    refine lv_aload_n hx hb dX8_sewOne_0 rfl (lv_at hl 0 rfl) ?_
    refine lv_aload_n hx hb dX8_sewOne_1 rfl (lv_at hl 1 rfl) ?_
    refine cl_X8_84 (As := []) (rest := [.ref sb]) hB (c_X1_colourOfNext_o l g H0 sb z P D q f sw hS1 hPT (by first | assumption | omega) (by first | assumption | omega) (by first | assumption | omega) (by first | assumption | omega)) (hS1.of (k := f) (by omega)) rfl hl.1 (Nat.le_of_ble_eq_true rfl) dX8_sewOne_2 ⟨Nat.le_of_ble_eq_true rfl, Nat.le_of_ble_eq_true rfl⟩ ⟨Nat.le_of_ble_eq_true rfl, Nat.le_of_ble_eq_true rfl⟩ hS (by have hz9 := hS.1; rintro q (h | h) <;> first | exact Or.inr (by omega) | exact h.elim | exact Or.inl h | (simp only [ftA] at h ⊢; omega)) (fun v H1 locs hpo hfr hS => ?_)
    obtain ⟨rfl, rfl⟩ := hpo
    refine W.widen (k := 0) (n := 0) (Nat.le_of_ble_eq_true rfl) (Nat.le_of_ble_eq_true rfl) ?_
    refine cl_X8_44 (As := [.int (-9)]) (rest := []) hB (c_X8_clothAt_o l g H0 sb z P (-9) hS1 (by decide)) hS1.o rfl hl.1 (Nat.le_of_ble_eq_true rfl) dX8_sewOne_5 ⟨Nat.le_of_ble_eq_true rfl, Nat.le_of_ble_eq_true rfl⟩ ⟨Nat.le_of_ble_eq_true rfl, Nat.le_of_ble_eq_true rfl⟩ hS (by have hz9 := hS.1; rintro q (h | h) <;> first | exact Or.inr (by omega) | exact h.elim | exact Or.inl h | (simp only [ftA] at h ⊢; omega)) (fun v H1 locs hpo hfr hS => ?_)
    obtain ⟨rfl, rfl⟩ := hpo
    refine W.widen (k := 0) (n := 0) (Nat.le_of_ble_eq_true rfl) (Nat.le_of_ble_eq_true rfl) ?_
    refine lv_astore_nN (lv' := [(2, .null), (0, .ref sb), (1, .ref (sb + (20 + 2 * f)))]) hx hb dX8_sewOne_8 rfl hl (by decide) rfl (fun ls hl => ?_)
    refine lv_aload_nN hx hb dX8_sewOne_9 rfl (lv_at hl 0 rfl) ?_
    refine lv_ifnullN (tgt := 20) hx hb dX8_sewOne_10 (by decide) ?_
    refine lv_iconst (v := nI 0) hx hb dX8_sewOne_20 (by decide) ?_
    refine mh_zret hB ⟨Nat.le_of_ble_eq_true rfl, Nat.le_of_ble_eq_true rfl⟩ hS dX8_sewOne_21 (by first | rfl | decide | (split <;> rfl)) ⟨?_, ?_, ?_⟩
    · rw [hb0]; rfl
    · rw [show sewZ1 z q f sw = z from if_neg (by rw [hb0]; decide)]; exact hS1
    · exact hPT
