theorem cfB_cnt (q : Nat → Int32) : ∀ n, cntR (bitS (cfB q n).1) 0 3 = (cfB q n).2
  | 0 => by show cntR (bitS 0) 0 3 = 0; decide
  | n + 1 => by
    by_cases h : canC q (n + 1) 6 = true ∧ (cfB q n).2 < cntR (bitS (n + 1)) 0 3
    · rw [show cfB q (n + 1) = (n + 1, cntR (bitS (n + 1)) 0 3) from if_pos h]
    · rw [show cfB q (n + 1) = cfB q n from if_neg h]
      exact cfB_cnt q n
theorem min999 {n : Nat} (hn : n < 1000000) : (if nI 999 < nI n then nI 999 else nI n) = nI (if 999 < n then 999 else n) := by
  by_cases h9 : 999 < n
  · rw [if_pos h9, if_pos ((nI_lt2 (by omega) (by omega)).mpr h9)]
  · rw [if_neg h9, if_neg (fun z9 => h9 ((nI_lt2 (by omega) (by omega)).mp z9))]
theorem p10_dd {s0 i : Nat} : s0 / p10k i / 10000 = s0 / p10k (i + 1) := by rw [Nat.div_div_eq_div_mul, ← p10k_s]
theorem lN_of0 {y : Int64} (h : ¬ y.toInt < 0) : ∃ n, n < 9223372036854775808 ∧ y = lN n := by
  have h2 := y.toInt_lt
  refine ⟨y.toInt.toNat, by omega, ?_⟩
  apply Int64.toInt_inj.mp
  rw [pk_lT (by omega)]
  omega
theorem sewQ_at2 {f m : Nat} : ∀ (n : Nat) (q : Nat → Int32), sewQ f m n q 2 = q 2
  | 0, _ => rfl
  | n + 1, q => by
    show (if sewOk q f = true then sewQ f m n (sew1 q f m) else q) 2 = q 2
    by_cases h : sewOk q f = true
    · rw [if_pos h, sewQ_at2 n, sew1_off (by omega) (by omega) (by omega) (by omega)]
    · rw [if_neg h]
theorem raf_at2 {q : Nat → Int32} {f p : Nat} (hq : WF q) (hf : f < 3) : rafQ q f p 2 = q 2 + nI 1 := by
  have h0 : WF (penU q (shrQ q f p) 5) := penU_WF hq (by omega)
  have h1 := WF.sz (hq.fr hf)
  unfold rafQ
  rw [emp_off (by omega)]
  show upd _ _ _ _ = _
  rw [upd_n (by omega), upd_n (by omega), upd_s (α := Nat), incU_off (h0.fr hf) h1 (by omega), penU_off (by omega)]
theorem ev2 {q : Nat → Int32} {r : Nat} (hW : WF q) : evQ q r 2 = q 2 + nI (evA q r) := by
  have hf : evF r < 3 := Nat.mod_lt _ (by omega)
  unfold evQ evA
  split
  · rw [nI_0, Int32.add_zero]
  · split
    · rw [nI_0, Int32.add_zero, givQ_off (by omega) (by omega)]
    · split
      · rw [nI_0, Int32.add_zero]
      · have e : sewE (evF r) (1 + r / 4 % 9) q 2 = q 2 := (upd_n (by omega)).trans (sewQ_at2 _ _)
        have hW1 : WF (sewE (evF r) (1 + r / 4 % 9) q) := sewE_WF hf hW (by omega)
        split
        · rw [raf_at2 hW1 hf, e]
        · rw [nI_0, Int32.add_zero, e]
theorem sm2 {q : Nat → Int32} {y : Int64} (hW : WF q) : ∀ k, smQ q y k 2 = q 2 + nI (smA q y k)
  | 0 => by show q 2 = q 2 + nI 0; rw [nI_0, Int32.add_zero]
  | k + 1 => by
    show evQ (smQ q y k) (smR y k) 2 = q 2 + nI (smA q y k + evA (smQ q y k) (smR y k))
    rw [ev2 (smQ_WF hW k), sm2 hW k, Int32.add_assoc]; first | rw [nI_add] | rw [← nI_add] | rw [i32_nadd]

def rm_c_J6_bitCount_0f7a4 : Room := { frames := 0, cells := 0, slots := 0, locals := 0 }
set_option maxRecDepth 100000 in
set_option maxHeartbeats 400000 in
theorem c_J6_bitCount_0f7a4 (l : Launch) (g : GG) (H0 : Heap) (k : Nat) (hk : k < 8) : Ct l yJ6_bitCount_0f7a4 cJ6_bitCount_0f7a4 1 (some .int) rm_c_J6_bitCount_0f7a4 g [.int (nI k)] H0 (ftA (fun _ => False) H0.size) (fun v H1 => v = some (.int (nI (cntR (bitS k) 0 3))) ∧ H0 = H1) := by
  refine Ct.of (by decide) (fun _ h => Or.inr h) (Nat.le_of_ble_eq_true rfl) ?_
  intro p e s m below meth c ls hB hin hS hH hl
  have hx := hB.x
  have hb := hB.b
  have hl : lv_has ls 1 [(0, .int (nI k))] := hl
  refine lv_iload_n hx hb dJ6_bitCount_0f7a4_0 rfl (lv_at hl 0 rfl) ?_
  refine lv_iload_n hx hb dJ6_bitCount_0f7a4_1 rfl (lv_at hl 0 rfl) ?_
  refine lv_iconst (v := nI 1) hx hb dJ6_bitCount_0f7a4_2 (by decide) ?_
  refine mr_iushr hx hb dJ6_bitCount_0f7a4_3 ?_
  refine mr_ldcw (v := 1431655765) hx hb hB.ow (hB.K.2 _ kw_492 _) dJ6_bitCount_0f7a4_4 ?_
  refine lv_iand hx hb dJ6_bitCount_0f7a4_7 ?_
  refine lv_isub hx hb dJ6_bitCount_0f7a4_8 ?_
  refine lv_istore_n (lv' := [(0, .int ((nI k) - ((Jvm.Free.XT.ushr (nI k) (nI 1)) &&& 1431655765)))]) hx hb dJ6_bitCount_0f7a4_9 rfl hl (by decide) rfl (fun ls hl => ?_)
  refine lv_iload_n hx hb dJ6_bitCount_0f7a4_10 rfl (lv_at hl 0 rfl) ?_
  refine mr_ldcw (v := 858993459) hx hb hB.ow (hB.K.2 _ kw_493 _) dJ6_bitCount_0f7a4_11 ?_
  refine lv_iand hx hb dJ6_bitCount_0f7a4_14 ?_
  refine lv_iload_n hx hb dJ6_bitCount_0f7a4_15 rfl (lv_at hl 0 rfl) ?_
  refine lv_iconst (v := nI 2) hx hb dJ6_bitCount_0f7a4_16 (by decide) ?_
  refine mr_iushr hx hb dJ6_bitCount_0f7a4_17 ?_
  refine mr_ldcw (v := 858993459) hx hb hB.ow (hB.K.2 _ kw_493 _) dJ6_bitCount_0f7a4_18 ?_
  refine lv_iand hx hb dJ6_bitCount_0f7a4_21 ?_
  refine lv_iadd hx hb dJ6_bitCount_0f7a4_22 ?_
  refine lv_istore_n (lv' := [(0, .int ((((nI k) - ((Jvm.Free.XT.ushr (nI k) (nI 1)) &&& 1431655765)) &&& 858993459) + ((Jvm.Free.XT.ushr ((nI k) - ((Jvm.Free.XT.ushr (nI k) (nI 1)) &&& 1431655765)) (nI 2)) &&& 858993459)))]) hx hb dJ6_bitCount_0f7a4_23 rfl hl (by decide) rfl (fun ls hl => ?_)
  refine lv_iload_n hx hb dJ6_bitCount_0f7a4_24 rfl (lv_at hl 0 rfl) ?_
  refine lv_iload_n hx hb dJ6_bitCount_0f7a4_25 rfl (lv_at hl 0 rfl) ?_
  refine lv_iconst (v := nI 4) hx hb dJ6_bitCount_0f7a4_26 (by decide) ?_
  refine mr_iushr hx hb dJ6_bitCount_0f7a4_27 ?_
  refine lv_iadd hx hb dJ6_bitCount_0f7a4_28 ?_
  refine mr_ldcw (v := 252645135) hx hb hB.ow (hB.K.2 _ kw_494 _) dJ6_bitCount_0f7a4_29 ?_
  refine lv_iand hx hb dJ6_bitCount_0f7a4_32 ?_
  refine lv_istore_n (lv' := [(0, .int ((((((nI k) - ((Jvm.Free.XT.ushr (nI k) (nI 1)) &&& 1431655765)) &&& 858993459) + ((Jvm.Free.XT.ushr ((nI k) - ((Jvm.Free.XT.ushr (nI k) (nI 1)) &&& 1431655765)) (nI 2)) &&& 858993459)) + (Jvm.Free.XT.ushr ((((nI k) - ((Jvm.Free.XT.ushr (nI k) (nI 1)) &&& 1431655765)) &&& 858993459) + ((Jvm.Free.XT.ushr ((nI k) - ((Jvm.Free.XT.ushr (nI k) (nI 1)) &&& 1431655765)) (nI 2)) &&& 858993459)) (nI 4))) &&& 252645135))]) hx hb dJ6_bitCount_0f7a4_33 rfl hl (by decide) rfl (fun ls hl => ?_)
  refine lv_iload_n hx hb dJ6_bitCount_0f7a4_34 rfl (lv_at hl 0 rfl) ?_
  refine lv_iload_n hx hb dJ6_bitCount_0f7a4_35 rfl (lv_at hl 0 rfl) ?_
  refine lv_bipush (v := nI 8) hx hb dJ6_bitCount_0f7a4_36 (by decide) ?_
  refine mr_iushr hx hb dJ6_bitCount_0f7a4_38 ?_
  refine lv_iadd hx hb dJ6_bitCount_0f7a4_39 ?_
  refine lv_istore_n (lv' := [(0, .int (((((((nI k) - ((Jvm.Free.XT.ushr (nI k) (nI 1)) &&& 1431655765)) &&& 858993459) + ((Jvm.Free.XT.ushr ((nI k) - ((Jvm.Free.XT.ushr (nI k) (nI 1)) &&& 1431655765)) (nI 2)) &&& 858993459)) + (Jvm.Free.XT.ushr ((((nI k) - ((Jvm.Free.XT.ushr (nI k) (nI 1)) &&& 1431655765)) &&& 858993459) + ((Jvm.Free.XT.ushr ((nI k) - ((Jvm.Free.XT.ushr (nI k) (nI 1)) &&& 1431655765)) (nI 2)) &&& 858993459)) (nI 4))) &&& 252645135) + (Jvm.Free.XT.ushr ((((((nI k) - ((Jvm.Free.XT.ushr (nI k) (nI 1)) &&& 1431655765)) &&& 858993459) + ((Jvm.Free.XT.ushr ((nI k) - ((Jvm.Free.XT.ushr (nI k) (nI 1)) &&& 1431655765)) (nI 2)) &&& 858993459)) + (Jvm.Free.XT.ushr ((((nI k) - ((Jvm.Free.XT.ushr (nI k) (nI 1)) &&& 1431655765)) &&& 858993459) + ((Jvm.Free.XT.ushr ((nI k) - ((Jvm.Free.XT.ushr (nI k) (nI 1)) &&& 1431655765)) (nI 2)) &&& 858993459)) (nI 4))) &&& 252645135) (nI 8))))]) hx hb dJ6_bitCount_0f7a4_40 rfl hl (by decide) rfl (fun ls hl => ?_)
  refine lv_iload_n hx hb dJ6_bitCount_0f7a4_41 rfl (lv_at hl 0 rfl) ?_
  refine lv_iload_n hx hb dJ6_bitCount_0f7a4_42 rfl (lv_at hl 0 rfl) ?_
  refine lv_bipush (v := nI 16) hx hb dJ6_bitCount_0f7a4_43 (by decide) ?_
  refine mr_iushr hx hb dJ6_bitCount_0f7a4_45 ?_
  refine lv_iadd hx hb dJ6_bitCount_0f7a4_46 ?_
  refine lv_istore_n (lv' := [(0, .int ((((((((nI k) - ((Jvm.Free.XT.ushr (nI k) (nI 1)) &&& 1431655765)) &&& 858993459) + ((Jvm.Free.XT.ushr ((nI k) - ((Jvm.Free.XT.ushr (nI k) (nI 1)) &&& 1431655765)) (nI 2)) &&& 858993459)) + (Jvm.Free.XT.ushr ((((nI k) - ((Jvm.Free.XT.ushr (nI k) (nI 1)) &&& 1431655765)) &&& 858993459) + ((Jvm.Free.XT.ushr ((nI k) - ((Jvm.Free.XT.ushr (nI k) (nI 1)) &&& 1431655765)) (nI 2)) &&& 858993459)) (nI 4))) &&& 252645135) + (Jvm.Free.XT.ushr ((((((nI k) - ((Jvm.Free.XT.ushr (nI k) (nI 1)) &&& 1431655765)) &&& 858993459) + ((Jvm.Free.XT.ushr ((nI k) - ((Jvm.Free.XT.ushr (nI k) (nI 1)) &&& 1431655765)) (nI 2)) &&& 858993459)) + (Jvm.Free.XT.ushr ((((nI k) - ((Jvm.Free.XT.ushr (nI k) (nI 1)) &&& 1431655765)) &&& 858993459) + ((Jvm.Free.XT.ushr ((nI k) - ((Jvm.Free.XT.ushr (nI k) (nI 1)) &&& 1431655765)) (nI 2)) &&& 858993459)) (nI 4))) &&& 252645135) (nI 8))) + (Jvm.Free.XT.ushr (((((((nI k) - ((Jvm.Free.XT.ushr (nI k) (nI 1)) &&& 1431655765)) &&& 858993459) + ((Jvm.Free.XT.ushr ((nI k) - ((Jvm.Free.XT.ushr (nI k) (nI 1)) &&& 1431655765)) (nI 2)) &&& 858993459)) + (Jvm.Free.XT.ushr ((((nI k) - ((Jvm.Free.XT.ushr (nI k) (nI 1)) &&& 1431655765)) &&& 858993459) + ((Jvm.Free.XT.ushr ((nI k) - ((Jvm.Free.XT.ushr (nI k) (nI 1)) &&& 1431655765)) (nI 2)) &&& 858993459)) (nI 4))) &&& 252645135) + (Jvm.Free.XT.ushr ((((((nI k) - ((Jvm.Free.XT.ushr (nI k) (nI 1)) &&& 1431655765)) &&& 858993459) + ((Jvm.Free.XT.ushr ((nI k) - ((Jvm.Free.XT.ushr (nI k) (nI 1)) &&& 1431655765)) (nI 2)) &&& 858993459)) + (Jvm.Free.XT.ushr ((((nI k) - ((Jvm.Free.XT.ushr (nI k) (nI 1)) &&& 1431655765)) &&& 858993459) + ((Jvm.Free.XT.ushr ((nI k) - ((Jvm.Free.XT.ushr (nI k) (nI 1)) &&& 1431655765)) (nI 2)) &&& 858993459)) (nI 4))) &&& 252645135) (nI 8))) (nI 16))))]) hx hb dJ6_bitCount_0f7a4_47 rfl hl (by decide) rfl (fun ls hl => ?_)
  refine lv_iload_n hx hb dJ6_bitCount_0f7a4_48 rfl (lv_at hl 0 rfl) ?_
  refine lv_bipush (v := nI 63) hx hb dJ6_bitCount_0f7a4_49 (by decide) ?_
  refine lv_iand hx hb dJ6_bitCount_0f7a4_51 ?_
  refine mh_iret hB ⟨Nat.le_of_ble_eq_true rfl, Nat.le_of_ble_eq_true rfl⟩ hS dJ6_bitCount_0f7a4_52 ⟨?_, rfl⟩
  · rcases (show k = 0 ∨ k = 1 ∨ k = 2 ∨ k = 3 ∨ k = 4 ∨ k = 5 ∨ k = 6 ∨ k = 7 by omega) with h9 | h9 | h9 | h9 | h9 | h9 | h9 | h9 <;> (rw [h9]; decide +kernel)

def rm_f_X10_canFinish : Room := { frames := 5, cells := 0, slots := 0, locals := 118 }
set_option maxRecDepth 100000 in
set_option maxHeartbeats 400000 in
theorem f_X10_canFinish (l : Launch) (g : GG) (H0 : Heap) (xb : Nat) (lim : Nat) (q : Nat → Int32) (n : Nat) (rm : Nat → Int32) (sl : Nat → Int32) (sv : Nat → Int32) (tx : Nat → Int32) (ln : Nat) (hC : CLS g xb lim q n rm sl sv tx ln H0) : Ct l yX10_canFinish cX10_canFinish 3 (some .int) rm_f_X10_canFinish g [.ref xb] H0 (ftA (fun _ => False) H0.size) (fun v H1 => v = some (.int (nI ((cfB q 7).1))) ∧ H0 = H1) := by
  refine Ct.of (by decide) (fun _ h => Or.inr h) (Nat.le_of_ble_eq_true rfl) ?_
  intro p e s m below meth c ls hB hin hS hH hl
  have hx := hB.x
  have hb := hB.b
  have hl : lv_has ls 3 [(0, .ref xb)] := hl
  obtain ⟨D, P, T, Zr, Pr, zt, Pt, nx, hCi⟩ := hC
  have hS1 := hCi.2.2.1
  have hPT := hCi.2.2.2.1
  have hD : ∀ q9, xb + 10 ≤ q9 → q9 < xb + 10 + 26 → D q9 := fun q9 h1 h2 => hCi.2.2.2.2.2.2.2.2.2.2.2.2.1 q9 (by omega) (Nat.lt_of_lt_of_le (show q9 < xb + 68 by omega) hCi.2.2.2.2.2.2.2.2.2.2.2.2.2.2.2.2.1)
  have hW : WF q := hCi.2.2.2.2.2.2.2.2.2.2.2.2.2.2.1
  have hZ : WZ q := hCi.2.2.2.2.2.2.2.2.2.2.2.2.2.2.2.1
  have hnm5 := hW.2.2.1
  have hz0 : (zOf q) 0 = nI (nmQ q) := by rw [zOf_lo (by omega), hW.1]
  refine lv_iconst (v := nI 0) hx hb dX10_canFinish_0 (by decide) ?_
  refine lv_istore_n (lv' := [(1, .int (nI 0)), (0, .ref xb)]) hx hb dX10_canFinish_1 rfl hl (by decide) rfl (fun ls hl => ?_)
  refine lv_iconst (v := nI 1) hx hb dX10_canFinish_2 (by decide) ?_
  refine lv_istore_n (lv' := [(2, .int (nI 1)), (1, .int (nI 0)), (0, .ref xb)]) hx hb dX10_canFinish_3 rfl hl (by decide) rfl (fun ls hl => ?_)
  refine mh_loopR (σ := Nat) (fun xx9 locs ls => match xx9 with | j9 => j9 ≤ 7 ∧ va_S (ftA (fun _ => False) H0.size) H0 H0 locs ∧ lv_has ls 3 [(0, .ref xb), (1, .int (nI ((cfB q j9).1))), (2, .int (nI (j9 + 1)))]) (fun xx9 => match xx9 with | j9 => 7 - j9) ?_ 0 ⟨(by omega), hS, lv_sub hl [2, 1, 0] rfl⟩
  rintro j9 locs ls ⟨hj9, hS, hl⟩ ih
  have ih4 := ih
  have hcl := cfB_le q j9
  have hc9 := cntR_le (bitS (j9 + 1)) 0 3
  refine lv_iload_n hx hb dX10_canFinish_4 rfl (lv_at hl 2 rfl) ?_
  refine lv_bipush (v := nI 7) hx hb dX10_canFinish_5 (by decide) ?_
  refine mn_icmp_gt (tgt := 40) hB dX10_canFinish_7 (by decide) (by omega) (by omega) (fun h_7 => ?_) (fun h_7 => ?_)
  · skip
    have hjn : j9 = 7 := by omega
    subst hjn
    refine lv_iload_n hx hb dX10_canFinish_40 rfl (lv_at hl 1 rfl) ?_
    refine mh_iret hB ⟨Nat.le_of_ble_eq_true rfl, Nat.le_of_ble_eq_true rfl⟩ hS dX10_canFinish_41 ⟨?_, rfl⟩
    · rfl
  · skip
    refine lv_iload_n hx hb dX10_canFinish_10 rfl (lv_at hl 2 rfl) ?_
    refine cl_X10_235 (As := [.int (nI (j9 + 1))]) (rest := []) hB (c_J6_bitCount_0f7a4 l g H0 (j9 + 1) (by omega)) rfl hl.1 (Nat.le_of_ble_eq_true rfl) dX10_canFinish_11 ⟨Nat.le_of_ble_eq_true rfl, Nat.le_of_ble_eq_true rfl⟩ ⟨Nat.le_of_ble_eq_true rfl, Nat.le_of_ble_eq_true rfl⟩ hS (by have hz9 := hS.1; rintro q (h | h) <;> first | exact Or.inr (by omega) | exact h.elim | exact Or.inl h | (simp only [ftA] at h ⊢; omega)) (fun v H1 locs hpo hfr hS => ?_)
    obtain ⟨rfl, rfl⟩ := hpo
    refine W.widen (k := 0) (n := 0) (Nat.le_of_ble_eq_true rfl) (Nat.le_of_ble_eq_true rfl) ?_
    refine lv_iload_n hx hb dX10_canFinish_14 rfl (lv_at hl 1 rfl) ?_
    refine cl_X10_235 (As := [.int (nI ((cfB q j9).1))]) (rest := [.int (nI (cntR (bitS (j9 + 1)) 0 3))]) hB (c_J6_bitCount_0f7a4 l g H0 ((cfB q j9).1) (by omega)) rfl hl.1 (Nat.le_of_ble_eq_true rfl) dX10_canFinish_15 ⟨Nat.le_of_ble_eq_true rfl, Nat.le_of_ble_eq_true rfl⟩ ⟨Nat.le_of_ble_eq_true rfl, Nat.le_of_ble_eq_true rfl⟩ hS (by have hz9 := hS.1; rintro q (h | h) <;> first | exact Or.inr (by omega) | exact h.elim | exact Or.inl h | (simp only [ftA] at h ⊢; omega)) (fun v H1 locs hpo hfr hS => ?_)
    obtain ⟨rfl, rfl⟩ := hpo
    refine W.widen (k := 0) (n := 0) (Nat.le_of_ble_eq_true rfl) (Nat.le_of_ble_eq_true rfl) ?_
    refine mh_top (y := .int (nI ((cfB q j9).2))) (by rw [cfB_cnt]) ?_
    refine mn_icmp_le (tgt := 34) hB dX10_canFinish_18 (by decide) (by omega) (by omega) (fun h_18 => ?_) (fun h_18 => ?_)
    · skip
      have hl : lv_has ls 3 [(0, .ref xb), (1, .int (nI ((cfB q (j9 + 1)).1))), (2, .int (nI (j9 + 1)))] := by rw [show (cfB q (j9 + 1)).1 = (cfB q j9).1 from by first | rw [cfB_f (Or.inr (by omega))] | rw [cfB_f (Or.inl h_29)]]; exact hl
      refine lv_iinc (v := nI (j9 + 1 + 1)) (lv' := [(2, .int (nI (j9 + 1 + 1))), (0, .ref xb), (1, .int (nI ((cfB q (j9 + 1)).1)))]) hx hb dX10_canFinish_34 hl (k := 2) rfl (nI_1 _) (by decide) rfl (fun ls hl => ?_)
      refine lv_goto (tgt := 4) hx hb dX10_canFinish_37 (by decide) ?_
      refine ih4 (j9 + 1) _ _ ⟨(by omega), hS, lv_sub hl [1, 2, 0] rfl⟩ (by dsimp only; omega)
    · skip
      refine lv_aload_n hx hb dX10_canFinish_21 rfl (lv_at hl 0 rfl) ?_
      refine gf_X10_19 hB hCi.1 rfl dX10_canFinish_22 ?_
      refine lv_iload_n hx hb dX10_canFinish_25 rfl (lv_at hl 2 rfl) ?_
      refine cl_X10_240 (As := [.int (nI (j9 + 1))]) (rest := []) hB (c_X8_canFinishAll l g H0 (xb + 10) P D q (j9 + 1) hS1 hPT (by first | assumption | omega) (by omega)) hS1.o rfl hl.1 (Nat.le_of_ble_eq_true rfl) dX10_canFinish_26 ⟨Nat.le_of_ble_eq_true rfl, Nat.le_of_ble_eq_true rfl⟩ ⟨Nat.le_of_ble_eq_true rfl, Nat.le_of_ble_eq_true rfl⟩ hS (by have hz9 := hS.1; rintro q (h | h) <;> first | exact Or.inr (by omega) | exact h.elim | exact Or.inl h | (simp only [ftA] at h ⊢; omega)) (fun v H1 locs hpo hfr hS => ?_)
      obtain ⟨rfl, rfl⟩ := hpo
      refine W.widen (k := 0) (n := 0) (Nat.le_of_ble_eq_true rfl) (Nat.le_of_ble_eq_true rfl) ?_
      refine mb_if_eq (tgt := 34) hB dX10_canFinish_29 (by decide) (fun h_29 => ?_) (fun h_29 => ?_)
      · skip
        have hl : lv_has ls 3 [(0, .ref xb), (1, .int (nI ((cfB q (j9 + 1)).1))), (2, .int (nI (j9 + 1)))] := by rw [show (cfB q (j9 + 1)).1 = (cfB q j9).1 from by first | rw [cfB_f (Or.inr (by omega))] | rw [cfB_f (Or.inl h_29)]]; exact hl
        refine lv_iinc (v := nI (j9 + 1 + 1)) (lv' := [(2, .int (nI (j9 + 1 + 1))), (0, .ref xb), (1, .int (nI ((cfB q (j9 + 1)).1)))]) hx hb dX10_canFinish_34 hl (k := 2) rfl (nI_1 _) (by decide) rfl (fun ls hl => ?_)
        refine lv_goto (tgt := 4) hx hb dX10_canFinish_37 (by decide) ?_
        refine ih4 (j9 + 1) _ _ ⟨(by omega), hS, lv_sub hl [1, 2, 0] rfl⟩ (by dsimp only; omega)
      · skip
        refine lv_iload_n hx hb dX10_canFinish_32 rfl (lv_at hl 2 rfl) ?_
        refine lv_istore_n (lv' := [(1, .int (nI (j9 + 1))), (0, .ref xb), (2, .int (nI (j9 + 1)))]) hx hb dX10_canFinish_33 rfl hl (by decide) rfl (fun ls hl => ?_)
        have hl : lv_has ls 3 [(1, .int (nI ((cfB q (j9 + 1)).1))), (0, .ref xb), (2, .int (nI (j9 + 1)))] := by rw [show (cfB q (j9 + 1)).1 = j9 + 1 from by rw [cfB_t h_29 (by omega)]]; exact hl
        refine lv_iinc (v := nI (j9 + 1 + 1)) (lv' := [(2, .int (nI (j9 + 1 + 1))), (1, .int (nI ((cfB q (j9 + 1)).1))), (0, .ref xb)]) hx hb dX10_canFinish_34 hl (k := 2) rfl (nI_1 _) (by decide) rfl (fun ls hl => ?_)
        refine lv_goto (tgt := 4) hx hb dX10_canFinish_37 (by decide) ?_
        refine ih4 (j9 + 1) _ _ ⟨(by omega), hS, lv_sub hl [2, 1, 0] rfl⟩ (by dsimp only; omega)
