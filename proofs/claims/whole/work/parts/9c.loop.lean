/-! the law's loop -/
theorem lgt_lem {L i : Nat} (hL : L ≤ 2048) (hi : i ≤ 2048) : (nI L - nI 4) < nI i ↔ L < i + 4 := by
  rw [Int32.lt_iff_toInt_lt, sub_pos (by omega) (by omega), nI_toInt (by omega)]
  omega
set_option maxRecDepth 100000 in
set_option maxHeartbeats 1600000 in
theorem law_loop {p : Program} {l : Launch} {e : Env} {s : State} {m : MethodId} {below : List Frame} {meth : Method} {c : Code} {g : GG} {b L xb r ob lim : Nat} {xs : Nat → Int32} (hfl : l.stackTraces = false) (hE : LE p s m meth c g b L xs xb r ob lim) : ∀ (k i9 : Nat), L < 4 * i9 + 4 * k → 4 * i9 ≤ L → ∀ (H : Heap) (locs : List Loc) (ls : Array Slot) (q : Nat → Int32) (n : Nat) (rm sl sv tx : Nat → Int32) (ln : Nat), LI g xb r ob lim q n rm sl sv tx ln H → va_S (fun q9 => xb ≤ q9) s.heap H locs → lv_has ls 7 [(0, .ref b), (1, .ref xb), (2, .ref r), (3, .ref ob), (4, .int (nI (4 * i9)))] → W p l e room_1 s m #[Value.ref b] below meth c H locs (85 + 30 * i9) (40000 + 1100 * i9) (lw_Z below #[Value.ref b] s) (F0 m 23 ls []) := by
  intro k
  induction k with
  | zero => intro i9 h1 h2; exact absurd h1 (by omega)
  | succ k ih =>
    intro i9 h1 h2 H locs ls q n rm sl sv tx ln hL hS hl
    have hE2 := hE
    obtain ⟨hB, hZ9, hX, hbl, hL9, hxs, hr9, hob9, hlm9⟩ := hE2
    have hx := hB.x
    have hb := hB.b
    have hbA : ¬ (fun q9 => xb ≤ q9) b := fun y9 => by have y8 : xb ≤ b := y9; omega
    refine lv_iload hx hb dL_law_23 (lv_at hl 4 rfl) ?_
    refine lv_aload_n hx hb dL_law_25 rfl (lv_at hl 0 rfl) ?_
    refine va_slen hx hb hX hbl hbA hS dL_law_26 ?_
    refine lv_iconst (v := nI 4) hx hb dL_law_27 (by decide) ?_
    refine lv_isub hx hb dL_law_28 ?_
    refine lv_icmp_gt (tgt := 1809) hx hb dL_law_29 (by decide) (fun h_29 => ?_) (fun h_29 => ?_)
    · refine lv_iconst (v := 1) hx hb dL_law_1809 (by decide) ?_
      refine va_forget (fun q9 hq9 => by have h9 : xb ≤ q9.base := hS.2.2 q9 hq9; omega) ?_
      refine W.widen (k := 622861) (n := 7227521) (by omega) (by omega) ?_
      exact lw_ret hx hb hB.r hB.lk dL_law_1810
    · have hlt : 4 * i9 + 3 < L := by
        have h9 := mt (lgt_lem (L := L) (i := 4 * i9) (by omega) (by omega)).mpr h_29
        omega
      have hK : ∀ (H1 : Heap) (locs1 : List Loc) (ls1 : Array Slot) (q1 : Nat → Int32) (n1 : Nat) (rm1 sl1 sv1 tx1 : Nat → Int32) (ln1 : Nat), LI g xb r ob lim q1 n1 rm1 sl1 sv1 tx1 ln1 H1 → va_S (fun q9 => xb ≤ q9) s.heap H1 locs1 → lv_has ls1 7 [(0, .ref b), (1, .ref xb), (2, .ref r), (3, .ref ob), (4, .int (nI (4 * i9)))] → W p l e room_1 s m #[Value.ref b] below meth c H1 locs1 (85 + 30 * i9 + 30) (40000 + 1100 * i9 + 1100) (lw_Z below #[Value.ref b] s) (F0 m 1803 ls1 []) := by
        intro H1 locs1 ls1 q1 n1 rm1 sl1 sv1 tx1 ln1 hL1 hS1 hl1
        refine lv_iinc (v := nI (4 * i9 + 4)) (lv' := [(4, .int (nI (4 * i9 + 4))), (0, .ref b), (1, .ref xb), (2, .ref r), (3, .ref ob)]) hx hb dL_law_1803 hl1 (k := 4) rfl (nI_add _ 4) (by decide) rfl (fun ls hl => ?_)
        refine lv_goto (tgt := 23) hx hb dL_law_1806 (by decide) ?_
        have e4 : 4 * i9 + 4 = 4 * (i9 + 1) := by omega
        have e5 : 85 + 30 * i9 + 30 = 85 + 30 * (i9 + 1) := by omega
        have e6 : 40000 + 1100 * i9 + 1100 = 40000 + 1100 * (i9 + 1) := by omega
        rw [e4] at hl
        rw [e5, e6]
        exact ih (i9 + 1) (by omega) (by omega) H1 locs1 ls q1 n1 rm1 sl1 sv1 tx1 ln1 hL1 hS1 (lv_sub hl [1, 2, 3, 4, 0] rfl)
      refine lv_aload_n hx hb dL_law_32 rfl (lv_at hl 0 rfl) ?_
      refine lv_iload hx hb dL_law_33 (lv_at hl 4 rfl) ?_
      refine va_sld hx hb hX hbl hbA hS (vp_in_nI (by omega) (by omega)) dL_law_35 ?_
      refine lv_bipush (v := nI 31) hx hb dL_law_36 (by decide) ?_
      refine lv_iand hx hb dL_law_38 ?_
      obtain ⟨k0, hk0, ek0⟩ := i31 (xs (nI (4 * i9)).toNatClampNeg)
      refine mh_top (y := .int (nI k0)) (congrArg Value.int ek0) ?_
      rcases (show k0 = 0 ∨ k0 = 1 ∨ k0 = 2 ∨ k0 = 3 ∨ k0 = 4 ∨ k0 = 5 ∨ k0 = 6 ∨ k0 = 7 ∨ k0 = 8 ∨ k0 = 9 ∨ k0 = 10 ∨ k0 = 11 ∨ k0 = 12 ∨ k0 = 13 ∨ k0 = 14 ∨ k0 = 15 ∨ k0 = 16 ∨ k0 = 17 ∨ k0 = 18 ∨ k0 = 19 ∨ k0 = 20 ∨ k0 = 21 ∨ k0 = 22 ∨ k0 = 23 ∨ k0 = 24 ∨ k0 = 25 ∨ k0 = 26 ∨ k0 = 27 ∨ k0 = 28 ∨ k0 = 29 ∨ k0 = 30 ∨ k0 = 31 by omega) with rfl | rfl | rfl | rfl | rfl | rfl | rfl | rfl | rfl | rfl | rfl | rfl | rfl | rfl | rfl | rfl | rfl | rfl | rfl | rfl | rfl | rfl | rfl | rfl | rfl | rfl | rfl | rfl | rfl | rfl | rfl | rfl
      · refine lv_tableIn (tgt := 160) (off := 121) hx hb dL_law_39 (by decide) (by decide) (by decide) (by decide) ?_
        exact case_append hfl hE hlt hL hS hl (by omega) (by omega) hK
      · refine lv_tableIn (tgt := 216) (off := 177) hx hb dL_law_39 (by decide) (by decide) (by decide) (by decide) ?_
        exact case_clearText hfl hE hlt hL hS hl (by omega) (by omega) hK
      · refine lv_tableIn (tgt := 229) (off := 190) hx hb dL_law_39 (by decide) (by decide) (by decide) (by decide) ?_
        exact case_errorPosition hfl hE hlt hL hS hl (by omega) (by omega) hK
      · refine lv_tableIn (tgt := 242) (off := 203) hx hb dL_law_39 (by decide) (by decide) (by decide) (by decide) ?_
        exact case_about hfl hE hlt hL hS hl (by omega) (by omega) hK
      · refine lv_tableIn (tgt := 298) (off := 259) hx hb dL_law_39 (by decide) (by decide) (by decide) (by decide) ?_
        exact case_member hfl hE hlt hL hS hl (by omega) (by omega) hK
      · refine lv_tableIn (tgt := 366) (off := 327) hx hb dL_law_39 (by decide) (by decide) (by decide) (by decide) ?_
        exact case_cloth hfl hE hlt hL hS hl (by omega) (by omega) hK
      · refine lv_tableIn (tgt := 434) (off := 395) hx hb dL_law_39 (by decide) (by decide) (by decide) (by decide) ?_
        exact case_frame hfl hE hlt hL hS hl (by omega) (by omega) hK
      · refine lv_tableIn (tgt := 502) (off := 463) hx hb dL_law_39 (by decide) (by decide) (by decide) (by decide) ?_
        exact case_patch hfl hE hlt hL hS hl (by omega) (by omega) hK
      · refine lv_tableIn (tgt := 582) (off := 543) hx hb dL_law_39 (by decide) (by decide) (by decide) (by decide) ?_
        exact case_count hfl hE hlt hL hS hl (by omega) (by omega) hK
      · refine lv_tableIn (tgt := 678) (off := 639) hx hb dL_law_39 (by decide) (by decide) (by decide) (by decide) ?_
        exact case_same hfl hE hlt hL hS hl (by omega) (by omega) hK
      · refine lv_tableIn (tgt := 753) (off := 714) hx hb dL_law_39 (by decide) (by decide) (by decide) (by decide) ?_
        exact case_addMember hfl hE hlt hL hS hl (by omega) (by omega) hK
      · refine lv_tableIn (tgt := 797) (off := 758) hx hb dL_law_39 (by decide) (by decide) (by decide) (by decide) ?_
        exact case_give hfl hE hlt hL hS hl (by omega) (by omega) hK
      · refine lv_tableIn (tgt := 877) (off := 838) hx hb dL_law_39 (by decide) (by decide) (by decide) (by decide) ?_
        exact case_start hfl hE hlt hL hS hl (by omega) (by omega) hK
      · refine lv_tableIn (tgt := 933) (off := 894) hx hb dL_law_39 (by decide) (by decide) (by decide) (by decide) ?_
        exact case_recolour hfl hE hlt hL hS hl (by omega) (by omega) hK
      · refine lv_tableIn (tgt := 1013) (off := 974) hx hb dL_law_39 (by decide) (by decide) (by decide) (by decide) ?_
        exact case_sew hfl hE hlt hL hS hl (by omega) (by omega) hK
      · refine lv_tableIn (tgt := 1081) (off := 1042) hx hb dL_law_39 (by decide) (by decide) (by decide) (by decide) ?_
        exact case_takeApart hfl hE hlt hL hS hl (by omega) (by omega) hK
      · refine lv_tableIn (tgt := 1137) (off := 1098) hx hb dL_law_39 (by decide) (by decide) (by decide) (by decide) ?_
        exact case_raffle hfl hE hlt hL hS hl (by omega) (by omega) hK
      · refine lv_tableIn (tgt := 1205) (off := 1166) hx hb dL_law_39 (by decide) (by decide) (by decide) (by decide) ?_
        exact case_returnCloth hfl hE hlt hL hS hl (by omega) (by omega) hK
      · refine lv_tableIn (tgt := 1218) (off := 1179) hx hb dL_law_39 (by decide) (by decide) (by decide) (by decide) ?_
        exact case_undo hfl hE hlt hL hS hl (by omega) (by omega) hK
      · refine lv_tableIn (tgt := 1262) (off := 1223) hx hb dL_law_39 (by decide) (by decide) (by decide) (by decide) ?_
        exact case_lacks hfl hE hlt hL hS hl (by omega) (by omega) hK
      · refine lv_tableIn (tgt := 1330) (off := 1291) hx hb dL_law_39 (by decide) (by decide) (by decide) (by decide) ?_
        exact case_canFinish hfl hE hlt hL hS hl (by omega) (by omega) hK
      · refine lv_tableIn (tgt := 1343) (off := 1304) hx hb dL_law_39 (by decide) (by decide) (by decide) (by decide) ?_
        exact case_wouldGet hfl hE hlt hL hS hl (by omega) (by omega) hK
      · refine lv_tableIn (tgt := 1423) (off := 1384) hx hb dL_law_39 (by decide) (by decide) (by decide) (by decide) ?_
        exact case_becomes hfl hE hlt hL hS hl (by omega) (by omega) hK
      · refine lv_tableIn (tgt := 1491) (off := 1452) hx hb dL_law_39 (by decide) (by decide) (by decide) (by decide) ?_
        exact case_runScript hfl hE hlt hL hS hl (by omega) (by omega) hK
      · refine lv_tableIn (tgt := 1591) (off := 1552) hx hb dL_law_39 (by decide) (by decide) (by decide) (by decide) ?_
        exact case_simulate hfl hE hlt hL hS hl (by omega) (by omega) hK
      · refine lv_tableIn (tgt := 1691) (off := 1652) hx hb dL_law_39 (by decide) (by decide) (by decide) (by decide) ?_
        exact case_save hfl hE hlt hL hS hl (by omega) (by omega) hK
      · refine lv_tableIn (tgt := 1747) (off := 1708) hx hb dL_law_39 (by decide) (by decide) (by decide) (by decide) ?_
        exact case_restore hfl hE hlt hL hS hl (by omega) (by omega) hK
      · refine lv_tableOut (tgt := 1803) hx hb dL_law_39 (by decide) (by decide) ?_
        refine W.widen (k := 85 + 30 * i9 + 30) (n := 40000 + 1100 * i9 + 1100) (by omega) (by omega) ?_
        exact hK _ _ _ _ _ _ _ _ _ _ hL hS hl
      · refine lv_tableOut (tgt := 1803) hx hb dL_law_39 (by decide) (by decide) ?_
        refine W.widen (k := 85 + 30 * i9 + 30) (n := 40000 + 1100 * i9 + 1100) (by omega) (by omega) ?_
        exact hK _ _ _ _ _ _ _ _ _ _ hL hS hl
      · refine lv_tableOut (tgt := 1803) hx hb dL_law_39 (by decide) (by decide) ?_
        refine W.widen (k := 85 + 30 * i9 + 30) (n := 40000 + 1100 * i9 + 1100) (by omega) (by omega) ?_
        exact hK _ _ _ _ _ _ _ _ _ _ hL hS hl
      · refine lv_tableOut (tgt := 1803) hx hb dL_law_39 (by decide) (by decide) ?_
        refine W.widen (k := 85 + 30 * i9 + 30) (n := 40000 + 1100 * i9 + 1100) (by omega) (by omega) ?_
        exact hK _ _ _ _ _ _ _ _ _ _ hL hS hl
      · refine lv_tableOut (tgt := 1803) hx hb dL_law_39 (by decide) (by decide) ?_
        refine W.widen (k := 85 + 30 * i9 + 30) (n := 40000 + 1100 * i9 + 1100) (by omega) (by omega) ?_
        exact hK _ _ _ _ _ _ _ _ _ _ hL hS hl
