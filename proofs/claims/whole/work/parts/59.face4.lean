section RUSH
variable {p : Program} {l : Launch} {e : Env} {R : Room} {s : State} {m : MethodId} {args : Array Value} {below : List Frame} {meth : Method} {c : Code} {H : Heap} {locs : List Loc} {cells slots : Nat} {Q : State → Prop} {cc : ByteArray} {pc : Nat} {ls : Array Slot} {rest : List Value}
theorem mr_iushr (hexec : p.tables.exec = Jvm.exec) (hb : c.code = cc) {x y : Int32} (hdg : decode cc pc = .ok (.iushr, 1)) (k : W p l e R s m args below meth c H locs cells slots Q (F0 m (pc + 1) ls (.int (Jvm.Free.XT.ushr x y) :: rest))) : W p l e R s m args below meth c H locs cells slots Q (F0 m pc ls (.int y :: .int x :: rest)) := by
  intro T hT X
  obtain ⟨t, a, b⟩ := k T hT X
  exact ⟨t, Jvm.Free.XT.iushr X.here hexec rfl (by rw [hb]; exact hdg) rfl a, b⟩
theorem mr_ldcw (hexec : p.tables.exec = Jvm.exec) (hb : c.code = cc) {own : String} {index : Nat} {v : Int32} (hown : s.vm.findClass own = some m.cls) (hconst : (Jvm.Cond.constant own index v).before args s = true) (hdg : decode cc pc = .ok (.ldc_w index, 3)) (k : W p l e R s m args below meth c H locs cells slots Q (F0 m (pc + 3) ls (.int v :: rest))) : W p l e R s m args below meth c H locs cells slots Q (F0 m pc ls rest) := by
  intro T hT X
  obtain ⟨t, a, b⟩ := k T hT X
  exact ⟨t, X.ldcWI hexec hown hconst (g := F0 m pc ls rest) rfl (by rw [hb]; exact hdg) a, b⟩
end RUSH
theorem cfB_cnt (q : Nat → Int32) : ∀ n, cntR (bitS (cfB q n).1) 0 3 = (cfB q n).2
  | 0 => by show cntR (bitS 0) 0 3 = 0; decide
  | n + 1 => by
    by_cases h : canC q (n + 1) 6 = true ∧ (cfB q n).2 < cntR (bitS (n + 1)) 0 3
    · rw [show cfB q (n + 1) = (n + 1, cntR (bitS (n + 1)) 0 3) from if_pos h]
    · rw [show cfB q (n + 1) = cfB q n from if_neg h]
      exact cfB_cnt q n
theorem min999 {n : Nat} (hn : n < 1000000) : (if nI 999 < nI n then nI 999 else nI n) = nI (if 999 < n then 999 else n) := by
  by_cases h9 : 999 < n
  · rw [if_pos h9, if_pos ((nI_lt2 (by omega) (by omega)).mpr h9)]
  · rw [if_neg h9, if_neg (fun z9 => h9 ((nI_lt2 (by omega) (by omega)).mp z9))]
theorem p10_dd {s0 i : Nat} : s0 / p10k i / 10000 = s0 / p10k (i + 1) := by rw [Nat.div_div_eq_div_mul, ← p10k_s]
theorem lN_of0 {y : Int64} (h : ¬ y.toInt < 0) : ∃ n, n < 9223372036854775808 ∧ y = lN n := by
  have h2 := y.toInt_lt
  refine ⟨y.toInt.toNat, by omega, ?_⟩
  apply Int64.toInt_inj.mp
  rw [pk_lT (by omega)]
  omega
theorem sewQ_at2 {f m : Nat} : ∀ (n : Nat) (q : Nat → Int32), sewQ f m n q 2 = q 2
  | 0, _ => rfl
  | n + 1, q => by
    show (if sewOk q f = true then sewQ f m n (sew1 q f m) else q) 2 = q 2
    by_cases h : sewOk q f = true
    · rw [if_pos h, sewQ_at2 n, sew1_off (by omega) (by omega) (by omega) (by omega)]
    · rw [if_neg h]
theorem raf_at2 {q : Nat → Int32} {f p : Nat} (hq : WF q) (hf : f < 3) : rafQ q f p 2 = q 2 + nI 1 := by
  have h0 : WF (penU q (shrQ q f p) 5) := penU_WF hq (by omega)
  have h1 := WF.sz (hq.fr hf)
  unfold rafQ
  rw [emp_off (by omega)]
  show upd _ _ _ _ = _
  rw [upd_n (by omega), upd_n (by omega), upd_s (α := Nat), incU_off (h0.fr hf) h1 (by omega), penU_off (by omega)]
theorem ev2 {q : Nat → Int32} {r : Nat} (hW : WF q) : evQ q r 2 = q 2 + nI (evA q r) := by
  have hf : evF r < 3 := Nat.mod_lt _ (by omega)
  unfold evQ evA
  split
  · rw [nI_0, Int32.add_zero]
  · split
    · rw [nI_0, Int32.add_zero, givQ_off (by omega) (by omega)]
    · split
      · rw [nI_0, Int32.add_zero]
      · have e : sewE (evF r) (1 + r / 4 % 9) q 2 = q 2 := (upd_n (by omega)).trans (sewQ_at2 _ _)
        have hW1 : WF (sewE (evF r) (1 + r / 4 % 9) q) := sewE_WF hf hW (by omega)
        split
        · rw [raf_at2 hW1 hf, e]
        · rw [nI_0, Int32.add_zero, e]
theorem sm2 {q : Nat → Int32} {y : Int64} (hW : WF q) : ∀ k, smQ q y k 2 = q 2 + nI (smA q y k)
  | 0 => by show q 2 = q 2 + nI 0; rw [nI_0, Int32.add_zero]
  | k + 1 => by
    show evQ (smQ q y k) (smR y k) 2 = q 2 + nI (smA q y k + evA (smQ q y k) (smR y k))
    rw [ev2 (smQ_WF hW k), sm2 hW k, Int32.add_assoc]; first | rw [nI_add] | rw [← nI_add] | rw [i32_nadd]

def rm_c_J6_bitCount_0f7a4 : Room := { frames := 0, cells := 0, slots := 0, locals := 0 }
set_option maxRecDepth 100000 in
set_option maxHeartbeats 400000 in
theorem c_J6_bitCount_0f7a4 (l : Launch) (g : GG) (H0 : Heap) (k : Nat) (hk : k < 8) : Ct l yJ6_bitCount_0f7a4 cJ6_bitCount_0f7a4 1 (some .int) rm_c_J6_bitCount_0f7a4 g [.int (nI k)] H0 (ftA (fun _ => False) H0.size) (fun v H1 => v = some (.int (nI (cntR (bitS k) 0 3))) ∧ H0 = H1) := by
  refine Ct.of (by decide) (fun _ h => Or.inr h) (Nat.le_of_ble_eq_true rfl) ?_
  intro p e s m below meth c ls hB hin hS hH hl
  have hx := hB.x
  have hb := hB.b
  have hl : lv_has ls 1 [(0, .int (nI k))] := hl
  refine lv_iload_n hx hb dJ6_bitCount_0f7a4_0 rfl (lv_at hl 0 rfl) ?_
  refine lv_iload_n hx hb dJ6_bitCount_0f7a4_1 rfl (lv_at hl 0 rfl) ?_
  refine lv_iconst (v := nI 1) hx hb dJ6_bitCount_0f7a4_2 (by decide) ?_
  refine mr_iushr hx hb dJ6_bitCount_0f7a4_3 ?_
  refine mr_ldcw (v := 1431655765) hx hb hB.ow (hB.K.2 _ kw_389 _) dJ6_bitCount_0f7a4_4 ?_
  refine lv_iand hx hb dJ6_bitCount_0f7a4_7 ?_
  refine lv_isub hx hb dJ6_bitCount_0f7a4_8 ?_
  refine lv_istore_n (lv' := [(0, .int ((nI k) - ((Jvm.Free.XT.ushr (nI k) (nI 1)) &&& 1431655765)))]) hx hb dJ6_bitCount_0f7a4_9 rfl hl (by decide) rfl (fun ls hl => ?_)
  refine lv_iload_n hx hb dJ6_bitCount_0f7a4_10 rfl (lv_at hl 0 rfl) ?_
  refine mr_ldcw (v := 858993459) hx hb hB.ow (hB.K.2 _ kw_390 _) dJ6_bitCount_0f7a4_11 ?_
  refine lv_iand hx hb dJ6_bitCount_0f7a4_14 ?_
  refine lv_iload_n hx hb dJ6_bitCount_0f7a4_15 rfl (lv_at hl 0 rfl) ?_
  refine lv_iconst (v := nI 2) hx hb dJ6_bitCount_0f7a4_16 (by decide) ?_
  refine mr_iushr hx hb dJ6_bitCount_0f7a4_17 ?_
  refine mr_ldcw (v := 858993459) hx hb hB.ow (hB.K.2 _ kw_390 _) dJ6_bitCount_0f7a4_18 ?_
  refine lv_iand hx hb dJ6_bitCount_0f7a4_21 ?_
  refine lv_iadd hx hb dJ6_bitCount_0f7a4_22 ?_
  refine lv_istore_n (lv' := [(0, .int ((((nI k) - ((Jvm.Free.XT.ushr (nI k) (nI 1)) &&& 1431655765)) &&& 858993459) + ((Jvm.Free.XT.ushr ((nI k) - ((Jvm.Free.XT.ushr (nI k) (nI 1)) &&& 1431655765)) (nI 2)) &&& 858993459)))]) hx hb dJ6_bitCount_0f7a4_23 rfl hl (by decide) rfl (fun ls hl => ?_)
  refine lv_iload_n hx hb dJ6_bitCount_0f7a4_24 rfl (lv_at hl 0 rfl) ?_
  refine lv_iload_n hx hb dJ6_bitCount_0f7a4_25 rfl (lv_at hl 0 rfl) ?_
  refine lv_iconst (v := nI 4) hx hb dJ6_bitCount_0f7a4_26 (by decide) ?_
  refine mr_iushr hx hb dJ6_bitCount_0f7a4_27 ?_
  refine lv_iadd hx hb dJ6_bitCount_0f7a4_28 ?_
  refine mr_ldcw (v := 252645135) hx hb hB.ow (hB.K.2 _ kw_391 _) dJ6_bitCount_0f7a4_29 ?_
  refine lv_iand hx hb dJ6_bitCount_0f7a4_32 ?_
  refine lv_istore_n (lv' := [(0, .int ((((((nI k) - ((Jvm.Free.XT.ushr (nI k) (nI 1)) &&& 1431655765)) &&& 858993459) + ((Jvm.Free.XT.ushr ((nI k) - ((Jvm.Free.XT.ushr (nI k) (nI 1)) &&& 1431655765)) (nI 2)) &&& 858993459)) + (Jvm.Free.XT.ushr ((((nI k) - ((Jvm.Free.XT.ushr (nI k) (nI 1)) &&& 1431655765)) &&& 858993459) + ((Jvm.Free.XT.ushr ((nI k) - ((Jvm.Free.XT.ushr (nI k) (nI 1)) &&& 1431655765)) (nI 2)) &&& 858993459)) (nI 4))) &&& 252645135))]) hx hb dJ6_bitCount_0f7a4_33 rfl hl (by decide) rfl (fun ls hl => ?_)
  refine lv_iload_n hx hb dJ6_bitCount_0f7a4_34 rfl (lv_at hl 0 rfl) ?_
  refine lv_iload_n hx hb dJ6_bitCount_0f7a4_35 rfl (lv_at hl 0 rfl) ?_
  refine lv_bipush (v := nI 8) hx hb dJ6_bitCount_0f7a4_36 (by decide) ?_
  refine mr_iushr hx hb dJ6_bitCount_0f7a4_38 ?_
  refine lv_iadd hx hb dJ6_bitCount_0f7a4_39 ?_
  refine lv_istore_n (lv' := [(0, .int (((((((nI k) - ((Jvm.Free.XT.ushr (nI k) (nI 1)) &&& 1431655765)) &&& 858993459) + ((Jvm.Free.XT.ushr ((nI k) - ((Jvm.Free.XT.ushr (nI k) (nI 1)) &&& 1431655765)) (nI 2)) &&& 858993459)) + (Jvm.Free.XT.ushr ((((nI k) - ((Jvm.Free.XT.ushr (nI k) (nI 1)) &&& 1431655765)) &&& 858993459) + ((Jvm.Free.XT.ushr ((nI k) - ((Jvm.Free.XT.ushr (nI k) (nI 1)) &&& 1431655765)) (nI 2)) &&& 858993459)) (nI 4))) &&& 252645135) + (Jvm.Free.XT.ushr ((((((nI k) - ((Jvm.Free.XT.ushr (nI k) (nI 1)) &&& 1431655765)) &&& 858993459) + ((Jvm.Free.XT.ushr ((nI k) - ((Jvm.Free.XT.ushr (nI k) (nI 1)) &&& 1431655765)) (nI 2)) &&& 858993459)) + (Jvm.Free.XT.ushr ((((nI k) - ((Jvm.Free.XT.ushr (nI k) (nI 1)) &&& 1431655765)) &&& 858993459) + ((Jvm.Free.XT.ushr ((nI k) - ((Jvm.Free.XT.ushr (nI k) (nI 1)) &&& 1431655765)) (nI 2)) &&& 858993459)) (nI 4))) &&& 252645135) (nI 8))))]) hx hb dJ6_bitCount_0f7a4_40 rfl hl (by decide) rfl (fun ls hl => ?_)
  refine lv_iload_n hx hb dJ6_bitCount_0f7a4_41 rfl (lv_at hl 0 rfl) ?_
  refine lv_iload_n hx hb dJ6_bitCount_0f7a4_42 rfl (lv_at hl 0 rfl) ?_
  refine lv_bipush (v := nI 16) hx hb dJ6_bitCount_0f7a4_43 (by decide) ?_
  refine mr_iushr hx hb dJ6_bitCount_0f7a4_45 ?_
  refine lv_iadd hx hb dJ6_bitCount_0f7a4_46 ?_
  refine lv_istore_n (lv' := [(0, .int ((((((((nI k) - ((Jvm.Free.XT.ushr (nI k) (nI 1)) &&& 1431655765)) &&& 858993459) + ((Jvm.Free.XT.ushr ((nI k) - ((Jvm.Free.XT.ushr (nI k) (nI 1)) &&& 1431655765)) (nI 2)) &&& 858993459)) + (Jvm.Free.XT.ushr ((((nI k) - ((Jvm.Free.XT.ushr (nI k) (nI 1)) &&& 1431655765)) &&& 858993459) + ((Jvm.Free.XT.ushr ((nI k) - ((Jvm.Free.XT.ushr (nI k) (nI 1)) &&& 1431655765)) (nI 2)) &&& 858993459)) (nI 4))) &&& 252645135) + (Jvm.Free.XT.ushr ((((((nI k) - ((Jvm.Free.XT.ushr (nI k) (nI 1)) &&& 1431655765)) &&& 858993459) + ((Jvm.Free.XT.ushr ((nI k) - ((Jvm.Free.XT.ushr (nI k) (nI 1)) &&& 1431655765)) (nI 2)) &&& 858993459)) + (Jvm.Free.XT.ushr ((((nI k) - ((Jvm.Free.XT.ushr (nI k) (nI 1)) &&& 1431655765)) &&& 858993459) + ((Jvm.Free.XT.ushr ((nI k) - ((Jvm.Free.XT.ushr (nI k) (nI 1)) &&& 1431655765)) (nI 2)) &&& 858993459)) (nI 4))) &&& 252645135) (nI 8))) + (Jvm.Free.XT.ushr (((((((nI k) - ((Jvm.Free.XT.ushr (nI k) (nI 1)) &&& 1431655765)) &&& 858993459) + ((Jvm.Free.XT.ushr ((nI k) - ((Jvm.Free.XT.ushr (nI k) (nI 1)) &&& 1431655765)) (nI 2)) &&& 858993459)) + (Jvm.Free.XT.ushr ((((nI k) - ((Jvm.Free.XT.ushr (nI k) (nI 1)) &&& 1431655765)) &&& 858993459) + ((Jvm.Free.XT.ushr ((nI k) - ((Jvm.Free.XT.ushr (nI k) (nI 1)) &&& 1431655765)) (nI 2)) &&& 858993459)) (nI 4))) &&& 252645135) + (Jvm.Free.XT.ushr ((((((nI k) - ((Jvm.Free.XT.ushr (nI k) (nI 1)) &&& 1431655765)) &&& 858993459) + ((Jvm.Free.XT.ushr ((nI k) - ((Jvm.Free.XT.ushr (nI k) (nI 1)) &&& 1431655765)) (nI 2)) &&& 858993459)) + (Jvm.Free.XT.ushr ((((nI k) - ((Jvm.Free.XT.ushr (nI k) (nI 1)) &&& 1431655765)) &&& 858993459) + ((Jvm.Free.XT.ushr ((nI k) - ((Jvm.Free.XT.ushr (nI k) (nI 1)) &&& 1431655765)) (nI 2)) &&& 858993459)) (nI 4))) &&& 252645135) (nI 8))) (nI 16))))]) hx hb dJ6_bitCount_0f7a4_47 rfl hl (by decide) rfl (fun ls hl => ?_)
  refine lv_iload_n hx hb dJ6_bitCount_0f7a4_48 rfl (lv_at hl 0 rfl) ?_
  refine lv_bipush (v := nI 63) hx hb dJ6_bitCount_0f7a4_49 (by decide) ?_
  refine lv_iand hx hb dJ6_bitCount_0f7a4_51 ?_
  refine mh_iret hB ⟨Nat.le_of_ble_eq_true rfl, Nat.le_of_ble_eq_true rfl⟩ hS dJ6_bitCount_0f7a4_52 ⟨?_, rfl⟩
  · rcases (show k = 0 ∨ k = 1 ∨ k = 2 ∨ k = 3 ∨ k = 4 ∨ k = 5 ∨ k = 6 ∨ k = 7 by omega) with h9 | h9 | h9 | h9 | h9 | h9 | h9 | h9 <;> (rw [h9]; decide +kernel)

def rm_f_X10_canFinish : Room := { frames := 5, cells := 0, slots := 0, locals := 118 }
set_option maxRecDepth 100000 in
set_option maxHeartbeats 400000 in
theorem f_X10_canFinish (l : Launch) (g : GG) (H0 : Heap) (xb : Nat) (lim : Nat) (q : Nat → Int32) (n : Nat) (rm : Nat → Int32) (sl : Nat → Int32) (sv : Nat → Int32) (tx : Nat → Int32) (ln : Nat) (hC : CLS g xb lim q n rm sl sv tx ln H0) : Ct l yX10_canFinish cX10_canFinish 3 (some .int) rm_f_X10_canFinish g [.ref xb] H0 (ftA (fun _ => False) H0.size) (fun v H1 => v = some (.int (nI ((cfB q 7).1))) ∧ H0 = H1) := by
  refine Ct.of (by decide) (fun _ h => Or.inr h) (Nat.le_of_ble_eq_true rfl) ?_
  intro p e s m below meth c ls hB hin hS hH hl
  have hx := hB.x
  have hb := hB.b
  have hl : lv_has ls 3 [(0, .ref xb)] := hl
  obtain ⟨D, P, T, Zr, Pr, zt, Pt, nx, hCi⟩ := hC
  have hS1 := hCi.2.2.1
  have hPT := hCi.2.2.2.1
  have hD : ∀ q9, xb + 10 ≤ q9 → q9 < xb + 10 + 26 → D q9 := fun q9 h1 h2 => hCi.2.2.2.2.2.2.2.2.2.2.2.2.1 q9 (by omega) (Nat.lt_of_lt_of_le (show q9 < xb + 68 by omega) hCi.2.2.2.2.2.2.2.2.2.2.2.2.2.2.2.2.1)
  have hW : WF q := hCi.2.2.2.2.2.2.2.2.2.2.2.2.2.2.1
  have hZ : WZ q := hCi.2.2.2.2.2.2.2.2.2.2.2.2.2.2.2.1
  have hnm5 := hW.2.2.1
  have hz0 : (zOf q) 0 = nI (nmQ q) := by rw [zOf_lo (by omega), hW.1]
  refine lv_iconst (v := nI 0) hx hb dX10_canFinish_0 (by decide) ?_
  refine lv_istore_n (lv' := [(1, .int (nI 0)), (0, .ref xb)]) hx hb dX10_canFinish_1 rfl hl (by decide) rfl (fun ls hl => ?_)
  refine lv_iconst (v := nI 1) hx hb dX10_canFinish_2 (by decide) ?_
  refine lv_istore_n (lv' := [(2, .int (nI 1)), (1, .int (nI 0)), (0, .ref xb)]) hx hb dX10_canFinish_3 rfl hl (by decide) rfl (fun ls hl => ?_)
  refine mh_loopR (σ := Nat) (fun xx9 locs ls => match xx9 with | j9 => j9 ≤ 7 ∧ va_S (ftA (fun _ => False) H0.size) H0 H0 locs ∧ lv_has ls 3 [(0, .ref xb), (1, .int (nI ((cfB q j9).1))), (2, .int (nI (j9 + 1)))]) (fun xx9 => match xx9 with | j9 => 7 - j9) ?_ 0 ⟨(by omega), hS, lv_sub hl [2, 1, 0] rfl⟩
  rintro j9 locs ls ⟨hj9, hS, hl⟩ ih
  have ih4 := ih
  have hcl := cfB_le q j9
  have hc9 := cntR_le (bitS (j9 + 1)) 0 3
  refine lv_iload_n hx hb dX10_canFinish_4 rfl (lv_at hl 2 rfl) ?_
  refine lv_bipush (v := nI 7) hx hb dX10_canFinish_5 (by decide) ?_
  refine mn_icmp_gt (tgt := 40) hB dX10_canFinish_7 (by decide) (by omega) (by omega) (fun h_7 => ?_) (fun h_7 => ?_)
  · skip
    have hjn : j9 = 7 := by omega
    subst hjn
    refine lv_iload_n hx hb dX10_canFinish_40 rfl (lv_at hl 1 rfl) ?_
    refine mh_iret hB ⟨Nat.le_of_ble_eq_true rfl, Nat.le_of_ble_eq_true rfl⟩ hS dX10_canFinish_41 ⟨?_, rfl⟩
    · rfl
  · skip
    refine lv_iload_n hx hb dX10_canFinish_10 rfl (lv_at hl 2 rfl) ?_
    refine cl_X10_235 (As := [.int (nI (j9 + 1))]) (rest := []) hB (c_J6_bitCount_0f7a4 l g H0 (j9 + 1) (by omega)) rfl hl.1 (Nat.le_of_ble_eq_true rfl) dX10_canFinish_11 ⟨Nat.le_of_ble_eq_true rfl, Nat.le_of_ble_eq_true rfl⟩ ⟨Nat.le_of_ble_eq_true rfl, Nat.le_of_ble_eq_true rfl⟩ hS (by have hz9 := hS.1; rintro q (h | h) <;> first | exact Or.inr (by omega) | exact h.elim | exact Or.inl h | (simp only [ftA] at h ⊢; omega)) (fun v H1 locs hpo hfr hS => ?_)
    obtain ⟨rfl, rfl⟩ := hpo
    refine W.widen (k := 0) (n := 0) (Nat.le_of_ble_eq_true rfl) (Nat.le_of_ble_eq_true rfl) ?_
    refine lv_iload_n hx hb dX10_canFinish_14 rfl (lv_at hl 1 rfl) ?_
    refine cl_X10_235 (As := [.int (nI ((cfB q j9).1))]) (rest := [.int (nI (cntR (bitS (j9 + 1)) 0 3))]) hB (c_J6_bitCount_0f7a4 l g H0 ((cfB q j9).1) (by omega)) rfl hl.1 (Nat.le_of_ble_eq_true rfl) dX10_canFinish_15 ⟨Nat.le_of_ble_eq_true rfl, Nat.le_of_ble_eq_true rfl⟩ ⟨Nat.le_of_ble_eq_true rfl, Nat.le_of_ble_eq_true rfl⟩ hS (by have hz9 := hS.1; rintro q (h | h) <;> first | exact Or.inr (by omega) | exact h.elim | exact Or.inl h | (simp only [ftA] at h ⊢; omega)) (fun v H1 locs hpo hfr hS => ?_)
    obtain ⟨rfl, rfl⟩ := hpo
    refine W.widen (k := 0) (n := 0) (Nat.le_of_ble_eq_true rfl) (Nat.le_of_ble_eq_true rfl) ?_
    refine mh_top (y := .int (nI ((cfB q j9).2))) (by rw [cfB_cnt]) ?_
    refine mn_icmp_le (tgt := 34) hB dX10_canFinish_18 (by decide) (by omega) (by omega) (fun h_18 => ?_) (fun h_18 => ?_)
    · skip
      have hl : lv_has ls 3 [(0, .ref xb), (1, .int (nI ((cfB q (j9 + 1)).1))), (2, .int (nI (j9 + 1)))] := by rw [show (cfB q (j9 + 1)).1 = (cfB q j9).1 from by first | rw [cfB_f (Or.inr (by omega))] | rw [cfB_f (Or.inl h_29)]]; exact hl
      refine lv_iinc (v := nI (j9 + 1 + 1)) (lv' := [(2, .int (nI (j9 + 1 + 1))), (0, .ref xb), (1, .int (nI ((cfB q (j9 + 1)).1)))]) hx hb dX10_canFinish_34 hl (k := 2) rfl (nI_1 _) (by decide) rfl (fun ls hl => ?_)
      refine lv_goto (tgt := 4) hx hb dX10_canFinish_37 (by decide) ?_
      refine ih4 (j9 + 1) _ _ ⟨(by omega), hS, lv_sub hl [1, 2, 0] rfl⟩ (by dsimp only; omega)
    · skip
      refine lv_aload_n hx hb dX10_canFinish_21 rfl (lv_at hl 0 rfl) ?_
      refine gf_X10_19 hB hCi.1 rfl dX10_canFinish_22 ?_
      refine lv_iload_n hx hb dX10_canFinish_25 rfl (lv_at hl 2 rfl) ?_
      refine cl_X10_240 (As := [.int (nI (j9 + 1))]) (rest := []) hB (c_X8_canFinishAll l g H0 (xb + 10) P D q (j9 + 1) hS1 hPT (by first | assumption | omega) (by omega)) hS1.o rfl hl.1 (Nat.le_of_ble_eq_true rfl) dX10_canFinish_26 ⟨Nat.le_of_ble_eq_true rfl, Nat.le_of_ble_eq_true rfl⟩ ⟨Nat.le_of_ble_eq_true rfl, Nat.le_of_ble_eq_true rfl⟩ hS (by have hz9 := hS.1; rintro q (h | h) <;> first | exact Or.inr (by omega) | exact h.elim | exact Or.inl h | (simp only [ftA] at h ⊢; omega)) (fun v H1 locs hpo hfr hS => ?_)
      obtain ⟨rfl, rfl⟩ := hpo
      refine W.widen (k := 0) (n := 0) (Nat.le_of_ble_eq_true rfl) (Nat.le_of_ble_eq_true rfl) ?_
      refine mb_if_eq (tgt := 34) hB dX10_canFinish_29 (by decide) (fun h_29 => ?_) (fun h_29 => ?_)
      · skip
        have hl : lv_has ls 3 [(0, .ref xb), (1, .int (nI ((cfB q (j9 + 1)).1))), (2, .int (nI (j9 + 1)))] := by rw [show (cfB q (j9 + 1)).1 = (cfB q j9).1 from by first | rw [cfB_f (Or.inr (by omega))] | rw [cfB_f (Or.inl h_29)]]; exact hl
        refine lv_iinc (v := nI (j9 + 1 + 1)) (lv' := [(2, .int (nI (j9 + 1 + 1))), (0, .ref xb), (1, .int (nI ((cfB q (j9 + 1)).1)))]) hx hb dX10_canFinish_34 hl (k := 2) rfl (nI_1 _) (by decide) rfl (fun ls hl => ?_)
        refine lv_goto (tgt := 4) hx hb dX10_canFinish_37 (by decide) ?_
        refine ih4 (j9 + 1) _ _ ⟨(by omega), hS, lv_sub hl [1, 2, 0] rfl⟩ (by dsimp only; omega)
      · skip
        refine lv_iload_n hx hb dX10_canFinish_32 rfl (lv_at hl 2 rfl) ?_
        refine lv_istore_n (lv' := [(1, .int (nI (j9 + 1))), (0, .ref xb), (2, .int (nI (j9 + 1)))]) hx hb dX10_canFinish_33 rfl hl (by decide) rfl (fun ls hl => ?_)
        have hl : lv_has ls 3 [(1, .int (nI ((cfB q (j9 + 1)).1))), (0, .ref xb), (2, .int (nI (j9 + 1)))] := by rw [show (cfB q (j9 + 1)).1 = j9 + 1 from by rw [cfB_t h_29 (by omega)]]; exact hl
        refine lv_iinc (v := nI (j9 + 1 + 1)) (lv' := [(2, .int (nI (j9 + 1 + 1))), (1, .int (nI ((cfB q (j9 + 1)).1))), (0, .ref xb)]) hx hb dX10_canFinish_34 hl (k := 2) rfl (nI_1 _) (by decide) rfl (fun ls hl => ?_)
        refine lv_goto (tgt := 4) hx hb dX10_canFinish_37 (by decide) ?_
        refine ih4 (j9 + 1) _ _ ⟨(by omega), hS, lv_sub hl [2, 1, 0] rfl⟩ (by dsimp only; omega)

def rm_c_X10_withoutLastGroups : Room := { frames := 0, cells := 0, slots := 0, locals := 0 }
set_option maxRecDepth 100000 in
set_option maxHeartbeats 400000 in
theorem c_X10_withoutLastGroups (l : Launch) (g : GG) (H0 : Heap) (s0 : Nat) (k : Nat) (hs : s0 < 9223372036854775808) (hk : k ≤ 4) : Ct l yX10_withoutLastGroups cX10_withoutLastGroups 6 (some .long) rm_c_X10_withoutLastGroups g [.long (lN s0), .int (nI k)] H0 (ftA (fun _ => False) H0.size) (fun v H1 => v = some (.long (lN (s0 / p10k k))) ∧ H0 = H1) := by
  refine Ct.of (by decide) (fun _ h => Or.inr h) (Nat.le_of_ble_eq_true rfl) ?_
  intro p e s m below meth c ls hB hin hS hH hl
  have hx := hB.x
  have hb := hB.b
  have hl : lv_has ls 6 [(0, .long (lN s0)), (2, .int (nI k))] := hl
  refine lv_lload_n hx hb dX10_withoutLastGroups_0 rfl (lv_at hl 0 rfl) ?_
  refine mh_top (y := .long (lN (s0 / p10k 0))) (by rw [show s0 / p10k 0 = s0 from Nat.div_one _]) ?_
  refine lv_lstore_n (lv' := [(3, .long (lN (s0 / p10k 0))), (0, .long (lN s0)), (2, .int (nI k))]) hx hb dX10_withoutLastGroups_1 rfl hl (by decide) rfl (fun ls hl => ?_)
  refine lv_iconst (v := nI 0) hx hb dX10_withoutLastGroups_2 (by decide) ?_
  refine lv_istore (lv' := [(5, .int (nI 0)), (3, .long (lN (s0 / p10k 0))), (0, .long (lN s0)), (2, .int (nI k))]) hx hb dX10_withoutLastGroups_3 hl (by decide) rfl (fun ls hl => ?_)
  refine mh_loopR (σ := Nat) (fun xx9 locs ls => match xx9 with | i9 => i9 ≤ k ∧ va_S (ftA (fun _ => False) H0.size) H0 H0 locs ∧ lv_has ls 6 [(0, .long (lN s0)), (2, .int (nI k)), (3, .long (lN (s0 / p10k i9))), (5, .int (nI i9))]) (fun xx9 => match xx9 with | i9 => k - i9) ?_ 0 ⟨(by omega), hS, lv_sub hl [2, 3, 1, 0] rfl⟩
  rintro i9 locs ls ⟨hi9, hS, hl⟩ ih
  have ih5 := ih
  refine lv_iload hx hb dX10_withoutLastGroups_5 (lv_at hl 3 rfl) ?_
  refine lv_iload_n hx hb dX10_withoutLastGroups_7 rfl (lv_at hl 1 rfl) ?_
  refine mn_icmp_ge (tgt := 23) hB dX10_withoutLastGroups_8 (by decide) (by omega) (by omega) (fun h_8 => ?_) (fun h_8 => ?_)
  · skip
    have hin : k = i9 := by omega
    subst hin
    refine lv_lload_n hx hb dX10_withoutLastGroups_23 rfl (lv_at hl 2 rfl) ?_
    refine mh_lret hB ⟨Nat.le_of_ble_eq_true rfl, Nat.le_of_ble_eq_true rfl⟩ hS dX10_withoutLastGroups_24 ⟨?_, rfl⟩
    · rfl
  · skip
    refine lv_lload_n hx hb dX10_withoutLastGroups_11 rfl (lv_at hl 2 rfl) ?_
    refine lv_ldc2 (v := (10000)) hx hb hB.ow (hB.K.2 _ kw_879 _) dX10_withoutLastGroups_12 ?_
    refine lv_ldiv hx hb dX10_withoutLastGroups_15 (by decide) ?_
    refine mh_top (y := .long (lN (s0 / p10k (i9 + 1)))) (by rw [show (10000 : Int64) = lN 10000 from rfl, pk_lDiv (by have := Nat.div_le_self s0 (p10k i9); omega) (by omega) (by omega), p10_dd]) ?_
    refine lv_lstore_n (lv' := [(3, .long (lN (s0 / p10k (i9 + 1)))), (0, .long (lN s0)), (2, .int (nI k)), (5, .int (nI i9))]) hx hb dX10_withoutLastGroups_16 rfl hl (by decide) rfl (fun ls hl => ?_)
    refine lv_iinc (v := nI (i9 + 1)) (lv' := [(5, .int (nI (i9 + 1))), (3, .long (lN (s0 / p10k (i9 + 1)))), (0, .long (lN s0)), (2, .int (nI k))]) hx hb dX10_withoutLastGroups_17 hl (k := 3) rfl (nI_1 _) (by decide) rfl (fun ls hl => ?_)
    refine lv_goto (tgt := 5) hx hb dX10_withoutLastGroups_20 (by decide) ?_
    refine ih5 (i9 + 1) _ _ ⟨(by omega), hS, lv_sub hl [2, 3, 1, 0] rfl⟩ (by dsimp only; omega)

def rm_fx_X10_runScript_t1b : Room := { frames := 7, cells := 1, slots := 6, locals := 101 }
set_option maxRecDepth 100000 in
set_option maxHeartbeats 400000 in
theorem fx_X10_runScript_t1b (l : Launch) (g : GG) (H0 : Heap) (bs : Nat) (xb : Nat) (lim : Nat) (q : Nat → Int32) (n : Nat) (rm : Nat → Int32) (sl : Nat → Int32) (sv : Nat → Int32) (tx : Nat → Int32) (ln : Nat) (n0 : Nat) (y : Int64) (hC : CLS g xb lim q n rm sl sv tx ln H0) (hn1 : 0 < n0) (hn4 : n0 ≤ 4) (hy1 : y.toInt < 0 ∨ (p10k n0 : Int) ≤ y.toInt) (hfl : l.stackTraces = false) (hbs : bs ≤ H0.size) : CtX l yX10_runScript cX10_runScript 6 (some .int) rm_fx_X10_runScript_t1b g bs [.ref xb, .int (nI n0), .long y] H0 (ftA (fun _ => False) H0.size) XE1 (fun _ => True) := by
  refine CtX.of (by decide) (fun _ h => Or.inr h) (Nat.le_of_ble_eq_true rfl) ?_
  intro p e s m below meth c ls hB hZ9 hT9 hS hH hl
  have hx := hB.x
  have hb := hB.b
  have hl : lv_has ls 6 [(0, .ref xb), (1, .int (nI n0)), (2, .long y)] := hl
  obtain ⟨D, P, T, Zr, Pr, zt, Pt, nx, hCi⟩ := hC
  have hS1 := hCi.2.2.1
  have hPT := hCi.2.2.2.1
  have hD : ∀ q9, xb + 10 ≤ q9 → q9 < xb + 10 + 26 → D q9 := fun q9 h1 h2 => hCi.2.2.2.2.2.2.2.2.2.2.2.2.1 q9 (by omega) (Nat.lt_of_lt_of_le (show q9 < xb + 68 by omega) hCi.2.2.2.2.2.2.2.2.2.2.2.2.2.2.2.2.1)
  have hW : WF q := hCi.2.2.2.2.2.2.2.2.2.2.2.2.2.2.1
  have hZ : WZ q := hCi.2.2.2.2.2.2.2.2.2.2.2.2.2.2.2.1
  have hnm5 := hW.2.2.1
  have hz0 : (zOf q) 0 = nI (nmQ q) := by rw [zOf_lo (by omega), hW.1]
  have he09 : (0 : Int64).toInt = 0 := by decide
  refine lv_iload_n hx hb dX10_runScript_0 rfl (lv_at hl 1 rfl) ?_
  refine lv_iconst (v := nI 1) hx hb dX10_runScript_1 (by decide) ?_
  refine lv_iconst (v := nI 4) hx hb dX10_runScript_2 (by decide) ?_
  refine cl_X10_44 (As := [.int (nI n0), .int (nI 1), .int (nI 4)]) (rest := []) hB (c_X10_requireRange l g H0 n0 1 4 (by first | assumption | omega) (by first | assumption | omega) (by first | assumption | omega)) rfl hl.1 (Nat.le_of_ble_eq_true rfl) dX10_runScript_3 ⟨Nat.le_of_ble_eq_true rfl, Nat.le_of_ble_eq_true rfl⟩ ⟨Nat.le_of_ble_eq_true rfl, Nat.le_of_ble_eq_true rfl⟩ hS (by have hz9 := hS.1; rintro q (h | h) <;> first | exact Or.inr (by omega) | exact h.elim | exact Or.inl h | (simp only [ftA] at h ⊢; omega)) (fun v H1 locs hpo hfr hS => ?_)
  obtain ⟨rfl, rfl⟩ := hpo
  refine W.widen (k := 0) (n := 0) (Nat.le_of_ble_eq_true rfl) (Nat.le_of_ble_eq_true rfl) ?_
  refine lv_lload_n hx hb dX10_runScript_6 rfl (lv_at hl 2 rfl) ?_
  refine lv_lconst (v := 0) hx hb dX10_runScript_7 (by decide) ?_
  refine W.lcmp hx hb dX10_runScript_8 ?_
  refine ml_if_lt (tgt := 26) hB dX10_runScript_9 (by decide) (fun h_9 => ?_) (fun h_9 => ?_)
  · skip
    refine lv_iconst (v := nI 0) hx hb dX10_runScript_26 (by decide) ?_
    exact mx_runS (n := 1) (As := [.int (nI 0)]) (rest := []) kw_445 kw_1 kw_443 kw_444 (by decide +kernel)  hB hZ9 (x_X10_requireArgument l g H0 bs  hfl hbs) rfl hl.1 (Nat.le_of_ble_eq_true rfl) dX10_runScript_27 ⟨Nat.le_of_ble_eq_true rfl, Nat.le_of_ble_eq_true rfl⟩ ⟨Nat.le_of_ble_eq_true rfl, Nat.le_of_ble_eq_true rfl⟩ hS (by have hz9 := hS.1; rintro q (h | h) <;> first | exact h.elim | exact Or.inr (by omega)) (fun q9 H1 locs1 ce hp9 hfr9 hS9 hce hcv hcl => mx_out hT9 hB hce hcv hcl hS9 ⟨Nat.le_of_ble_eq_true rfl, Nat.le_of_ble_eq_true rfl⟩ trivial)
  · skip
    obtain ⟨sn, hsn, rfl⟩ := lN_of0 (y := y) (by omega)
    have hun9 := pk_lT (n := sn) hsn
    have hge : p10k n0 ≤ sn := by omega
    have hpos := Nat.div_pos hge (p10k_pos n0)
    have hdl := pk_lT (n := sn / p10k n0) (by have := Nat.div_le_self sn (p10k n0); omega)
    refine lv_lload_n hx hb dX10_runScript_12 rfl (lv_at hl 2 rfl) ?_
    refine lv_iload_n hx hb dX10_runScript_13 rfl (lv_at hl 1 rfl) ?_
    refine cl_X10_247 (As := [.long (lN sn), .int (nI n0)]) (rest := []) hB (c_X10_withoutLastGroups l g H0 sn n0 (hsn) (hn4)) rfl hl.1 (Nat.le_of_ble_eq_true rfl) dX10_runScript_14 ⟨Nat.le_of_ble_eq_true rfl, Nat.le_of_ble_eq_true rfl⟩ ⟨Nat.le_of_ble_eq_true rfl, Nat.le_of_ble_eq_true rfl⟩ hS (by have hz9 := hS.1; rintro q (h | h) <;> first | exact Or.inr (by omega) | exact h.elim | exact Or.inl h | (simp only [ftA] at h ⊢; omega)) (fun v H1 locs hpo hfr hS => ?_)
    obtain ⟨rfl, rfl⟩ := hpo
    refine W.widen (k := 0) (n := 0) (Nat.le_of_ble_eq_true rfl) (Nat.le_of_ble_eq_true rfl) ?_
    refine lv_lconst (v := 0) hx hb dX10_runScript_17 (by decide) ?_
    refine W.lcmp hx hb dX10_runScript_18 ?_
    refine ml_if_ne (tgt := 26) hB dX10_runScript_19 (by decide) (fun h_19 => ?_) (fun h => by exfalso; omega)
    refine lv_iconst (v := nI 0) hx hb dX10_runScript_26 (by decide) ?_
    exact mx_runS (n := 1) (As := [.int (nI 0)]) (rest := []) kw_445 kw_1 kw_443 kw_444 (by decide +kernel)  hB hZ9 (x_X10_requireArgument l g H0 bs  hfl hbs) rfl hl.1 (Nat.le_of_ble_eq_true rfl) dX10_runScript_27 ⟨Nat.le_of_ble_eq_true rfl, Nat.le_of_ble_eq_true rfl⟩ ⟨Nat.le_of_ble_eq_true rfl, Nat.le_of_ble_eq_true rfl⟩ hS (by have hz9 := hS.1; rintro q (h | h) <;> first | exact h.elim | exact Or.inr (by omega)) (fun q9 H1 locs1 ce hp9 hfr9 hS9 hce hcv hcl => mx_out hT9 hB hce hcv hcl hS9 ⟨Nat.le_of_ble_eq_true rfl, Nat.le_of_ble_eq_true rfl⟩ trivial)

def rm_f_X10_runScript : Room := { frames := 6, cells := 8, slots := 1036, locals := 141 }
set_option maxRecDepth 100000 in
set_option maxHeartbeats 400000 in
theorem f_X10_runScript (l : Launch) (g : GG) (H0 : Heap) (xb : Nat) (lim : Nat) (q : Nat → Int32) (n : Nat) (rm : Nat → Int32) (sl : Nat → Int32) (sv : Nat → Int32) (tx : Nat → Int32) (ln : Nat) (n0 : Nat) (sn : Nat) (hC : CLS g xb lim q n rm sl sv tx ln H0) (hn1 : 0 < n0) (hn4 : n0 ≤ 4) (hsn : sn < p10k n0) : Ct l yX10_runScript cX10_runScript 6 (some .int) rm_f_X10_runScript g [.ref xb, .int (nI n0), .long (lN sn)] H0 (ftA (CF xb lim) H0.size) (fun v H1 => v = some (.int (scG sn n0 n0 q)) ∧ CLS g xb lim (q) (n) (rm) (sl) (sv) (tx) (ln) H1) := by
  refine Ct.of (by decide) (fun _ h => Or.inr h) (Nat.le_of_ble_eq_true rfl) ?_
  intro p e s m below meth c ls hB hin hS hH hl
  have hx := hB.x
  have hb := hB.b
  have hl : lv_has ls 6 [(0, .ref xb), (1, .int (nI n0)), (2, .long (lN sn))] := hl
  obtain ⟨D, P, T, Zr, Pr, zt, Pt, nx, hCi⟩ := hC
  have hS1 := hCi.2.2.1
  have hPT := hCi.2.2.2.1
  have hD : ∀ q9, xb + 10 ≤ q9 → q9 < xb + 10 + 26 → D q9 := fun q9 h1 h2 => hCi.2.2.2.2.2.2.2.2.2.2.2.2.1 q9 (by omega) (Nat.lt_of_lt_of_le (show q9 < xb + 68 by omega) hCi.2.2.2.2.2.2.2.2.2.2.2.2.2.2.2.2.1)
  have hW : WF q := hCi.2.2.2.2.2.2.2.2.2.2.2.2.2.2.1
  have hZ : WZ q := hCi.2.2.2.2.2.2.2.2.2.2.2.2.2.2.2.1
  have hnm5 := hW.2.2.1
  have hz0 : (zOf q) 0 = nI (nmQ q) := by rw [zOf_lo (by omega), hW.1]
  have hS2 := hCi.2.2.2.2.1
  have hD2 : ∀ q9, xb + 36 ≤ q9 → q9 < xb + 36 + 26 → D q9 := fun q9 h1 h2 => hCi.2.2.2.2.2.2.2.2.2.2.2.2.1 q9 (by omega) (Nat.lt_of_lt_of_le (show q9 < xb + 68 by omega) hCi.2.2.2.2.2.2.2.2.2.2.2.2.2.2.2.2.1)
  have hun9 := pk_lT (n := p10k n0) (by have := p10k_le hn4; omega)
  have hsn9 := pk_lT (n := sn) (by have := p10k_le hn4; omega)
  have he09 : (0 : Int64).toInt = 0 := by decide
  have hd0 : sn / p10k n0 = 0 := Nat.div_eq_of_lt hsn
  have hdl := pk_lT (n := sn / p10k n0) (by rw [hd0]; omega)
  refine lv_iload_n hx hb dX10_runScript_0 rfl (lv_at hl 1 rfl) ?_
  refine lv_iconst (v := nI 1) hx hb dX10_runScript_1 (by decide) ?_
  refine lv_iconst (v := nI 4) hx hb dX10_runScript_2 (by decide) ?_
  refine cl_X10_44 (As := [.int (nI n0), .int (nI 1), .int (nI 4)]) (rest := []) hB (c_X10_requireRange l g H0 n0 1 4 (by first | assumption | omega) (by first | assumption | omega) (by first | assumption | omega)) rfl hl.1 (Nat.le_of_ble_eq_true rfl) dX10_runScript_3 ⟨Nat.le_of_ble_eq_true rfl, Nat.le_of_ble_eq_true rfl⟩ ⟨Nat.le_of_ble_eq_true rfl, Nat.le_of_ble_eq_true rfl⟩ hS (by have hz9 := hS.1; rintro q (h | h) <;> first | exact Or.inr (by omega) | exact h.elim | exact Or.inl h | (simp only [ftA] at h ⊢; omega)) (fun v H1 locs hpo hfr hS => ?_)
  obtain ⟨rfl, rfl⟩ := hpo
  refine W.widen (k := 0) (n := 0) (Nat.le_of_ble_eq_true rfl) (Nat.le_of_ble_eq_true rfl) ?_
  refine lv_lload_n hx hb dX10_runScript_6 rfl (lv_at hl 2 rfl) ?_
  refine lv_lconst (v := 0) hx hb dX10_runScript_7 (by decide) ?_
  refine W.lcmp hx hb dX10_runScript_8 ?_
  refine ml_if_lt (tgt := 26) hB dX10_runScript_9 (by decide) (fun h => by exfalso; omega) (fun h_9 => ?_)
  refine lv_lload_n hx hb dX10_runScript_12 rfl (lv_at hl 2 rfl) ?_
  refine lv_iload_n hx hb dX10_runScript_13 rfl (lv_at hl 1 rfl) ?_
  refine cl_X10_247 (As := [.long (lN sn), .int (nI n0)]) (rest := []) hB (c_X10_withoutLastGroups l g H0 sn n0 (by have := p10k_le hn4; omega) (hn4)) rfl hl.1 (Nat.le_of_ble_eq_true rfl) dX10_runScript_14 ⟨Nat.le_of_ble_eq_true rfl, Nat.le_of_ble_eq_true rfl⟩ ⟨Nat.le_of_ble_eq_true rfl, Nat.le_of_ble_eq_true rfl⟩ hS (by have hz9 := hS.1; rintro q (h | h) <;> first | exact Or.inr (by omega) | exact h.elim | exact Or.inl h | (simp only [ftA] at h ⊢; omega)) (fun v H1 locs hpo hfr hS => ?_)
  obtain ⟨rfl, rfl⟩ := hpo
  refine W.widen (k := 0) (n := 0) (Nat.le_of_ble_eq_true rfl) (Nat.le_of_ble_eq_true rfl) ?_
  refine lv_lconst (v := 0) hx hb dX10_runScript_17 (by decide) ?_
  refine W.lcmp hx hb dX10_runScript_18 ?_
  refine ml_if_ne (tgt := 26) hB dX10_runScript_19 (by decide) (fun h => by exfalso; rw [hd0] at hdl h; omega) (fun h_19 => ?_)
  refine lv_iconst (v := nI 1) hx hb dX10_runScript_22 (by decide) ?_
  refine lv_goto (tgt := 27) hx hb dX10_runScript_23 (by decide) ?_
  refine cl_X10_155 (As := [.int (nI 1)]) (rest := []) hB (c_X10_requireArgument l g H0 ) rfl hl.1 (Nat.le_of_ble_eq_true rfl) dX10_runScript_27 ⟨Nat.le_of_ble_eq_true rfl, Nat.le_of_ble_eq_true rfl⟩ ⟨Nat.le_of_ble_eq_true rfl, Nat.le_of_ble_eq_true rfl⟩ hS (by have hz9 := hS.1; rintro q (h | h) <;> first | exact Or.inr (by omega) | exact h.elim | exact Or.inl h | (simp only [ftA] at h ⊢; omega)) (fun v H1 locs hpo hfr hS => ?_)
  obtain ⟨rfl, rfl⟩ := hpo
  refine W.widen (k := 0) (n := 0) (Nat.le_of_ble_eq_true rfl) (Nat.le_of_ble_eq_true rfl) ?_
  refine lv_aload_n hx hb dX10_runScript_30 rfl (lv_at hl 0 rfl) ?_
  refine gf_X10_23 hB hCi.1 rfl dX10_runScript_31 ?_
  refine lv_aload_n hx hb dX10_runScript_34 rfl (lv_at hl 0 rfl) ?_
  refine gf_X10_19 hB hCi.1 rfl dX10_runScript_35 ?_
  refine cl_X10_251 (As := [.ref (xb + 10)]) (rest := []) hB (c_X8_copyFrom l g H0 (xb + 36) zt Pt (xb + 10) (zOf q) P hS2 hS1 (by omega)) hS2.o rfl hl.1 (Nat.le_of_ble_eq_true rfl) dX10_runScript_38 ⟨Nat.le_of_ble_eq_true rfl, Nat.le_of_ble_eq_true rfl⟩ ⟨Nat.le_of_ble_eq_true rfl, Nat.le_of_ble_eq_true rfl⟩ hS (by have hz9 := hS.1; rintro q9 (h | h); exact Or.inl (CF.a (by omega)); exact Or.inr (by omega)) (fun v H1 locs hpo hfr hS => ?_)
  obtain ⟨rfl, hS2⟩ := hpo
  have hCi := hCi.trial hfr hS2
  have hS1 := hS1.keptF hfr (fun q9 h1 h2 => by first | omega | exact fun y => y.elim)
  have hPT := hPT.keptF hfr (fun q9 hq9 => by first | exact hq9.elim | exact hD2 q9 (by have := hq9; omega) (by have := hq9; omega))
  generalize H1 = H at hfr hS hCi hS1 hPT hS2 ⊢
  refine W.widen (k := 0) (n := 0) (Nat.le_of_ble_eq_true rfl) (Nat.le_of_ble_eq_true rfl) ?_
  refine lv_iconst (v := nI 0) hx hb dX10_runScript_41 (by decide) ?_
  refine lv_istore (lv' := [(4, .int (nI 0)), (0, .ref xb), (1, .int (nI n0)), (2, .long (lN sn))]) hx hb dX10_runScript_42 hl (by decide) rfl (fun ls hl => ?_)
  refine mh_loopC (σ := Nat × (Nat → Int32) × (Nat → Option Nat)) (fun xx9 H locs ls => match xx9 with | (k8, qi, Pi) => k8 ≤ n0 ∧ WF qi ∧ WZ qi ∧ scG sn n0 (n0 - k8) qi = scG sn n0 n0 q ∧ CLSi g xb lim D P T Zr Pr (zOf qi) Pi nx q n rm sl sv tx ln H ∧ StAt g (xb + 36) (zOf qi) Pi H ∧ PT g D Pi qi H ∧ va_S (ftA (CF xb lim) H0.size) H0 H locs ∧ lv_has ls 6 [(0, .ref xb), (1, .int (nI n0)), (2, .long (lN sn)), (4, .int (nI k8))]) (fun xx9 => match xx9 with | (k8, qi, Pi) => n0 - k8) (fun xx9 => match xx9 with | (k8, qi, Pi) => 2 * k8) (fun xx9 => match xx9 with | (k8, qi, Pi) => 259 * k8) ?_ (0, q, P) ⟨(by omega), (hW), (hZ), (rfl), hCi, hS2, hPT, hS, lv_sub hl [1, 2, 3, 0] rfl⟩
  rintro ⟨k8, qi, Pi⟩ H locs ls ⟨hk8, hWi, hZi, hsg, hCi, hS2, hPT, hS, hl⟩ ih
  have ih44 := ih
  refine lv_iload hx hb dX10_runScript_44 (lv_at hl 3 rfl) ?_
  refine lv_iload_n hx hb dX10_runScript_46 rfl (lv_at hl 1 rfl) ?_
  refine mn_icmp_ge (tgt := 88) hB dX10_runScript_47 (by decide) (by omega) (by omega) (fun h_47 => ?_) (fun h_47 => ?_)
  · skip
    have z9 : n0 - k8 = 0 := by omega
    rw [z9] at hsg
    refine lv_bipush (v := (-9)) hx hb dX10_runScript_88 (by decide) ?_
    refine mh_iret hB ⟨by show 2 * k8 ≤ 8; omega, by show 259 * k8 ≤ 1036; omega⟩ hS dX10_runScript_90 ⟨?_, ?_⟩
    · exact congrArg (fun y9 => some (Value.int y9)) hsg
    · exact ⟨_, _, _, _, _, _, _, _, hCi⟩
  · skip
    refine lv_lload_n hx hb dX10_runScript_50 rfl (lv_at hl 2 rfl) ?_
    refine lv_iload_n hx hb dX10_runScript_51 rfl (lv_at hl 1 rfl) ?_
    refine lv_iconst (v := nI 1) hx hb dX10_runScript_52 (by decide) ?_
    refine mn_isub hB dX10_runScript_53 (by omega) ?_
    refine lv_iload hx hb dX10_runScript_54 (lv_at hl 3 rfl) ?_
    refine mn_isub hB dX10_runScript_56 (by omega) ?_
    refine mh_top (y := .int (nI (n0 - (k8 + 1)))) (by rw [show n0 - 1 - k8 = n0 - (k8 + 1) by omega]) ?_
    refine cl_X10_247 (As := [.long (lN sn), .int (nI (n0 - (k8 + 1)))]) (rest := []) hB (c_X10_withoutLastGroups l g H sn (n0 - (k8 + 1)) (by have := p10k_le hn4; omega) (by omega)) rfl hl.1 (Nat.le_of_ble_eq_true rfl) dX10_runScript_57 ⟨Nat.le_of_ble_eq_true rfl, Nat.le_of_ble_eq_true rfl⟩ ⟨by show (2 * k8) + 0 ≤ 8; omega, by show (259 * k8) + 0 ≤ 1036; omega⟩ hS (by have hz9 := hS.1; rintro q (h | h) <;> first | exact Or.inr (by omega) | exact h.elim | exact Or.inl h | (simp only [ftA] at h ⊢; omega)) (fun v H1 locs hpo hfr hS => ?_)
    obtain ⟨rfl, rfl⟩ := hpo
    refine W.widen (k := 2 * k8) (n := 259 * k8) (by show (2 * k8) + 0 ≤ 2 * k8; omega) (by show (259 * k8) + 0 ≤ 259 * k8; omega) ?_
    refine lv_ldc2 (v := (10000)) hx hb hB.ow (hB.K.2 _ kw_879 _) dX10_runScript_60 ?_
    refine lv_lrem hx hb dX10_runScript_63 (by decide) ?_
    refine mh_top (y := .long (lN (sn / p10k (n0 - (k8 + 1)) % 10000))) (congrArg Value.long (pk_lRem (a := sn / p10k (n0 - (k8 + 1))) (b := 10000) (by have := p10k_le (n := n0) (by omega); have := Nat.div_le_self sn (p10k (n0 - (k8 + 1))); omega) (by omega) (by omega))) ?_
    refine lv_l2i (v := (lN (sn / p10k (n0 - (k8 + 1)) % 10000)).toInt32) hx hb dX10_runScript_64 rfl ?_
    refine mh_top (y := .int (nI (sn / p10k (n0 - (k8 + 1)) % 10000))) (by rw [lN_i]) ?_
    have hg9 : sn / p10k (n0 - (k8 + 1)) % 10000 < 10000 := Nat.mod_lt _ (by omega)
    obtain ⟨n9, hsz⟩ : ∃ n9, H.size = n9 := ⟨_, rfl⟩
    refine lv_istore (lv' := [(5, .int (nI (sn / p10k (n0 - (k8 + 1)) % 10000))), (0, .ref xb), (1, .int (nI n0)), (2, .long (lN sn)), (4, .int (nI k8))]) hx hb dX10_runScript_65 hl (by decide) rfl (fun ls hl => ?_)
    refine lv_aload_n hx hb dX10_runScript_67 rfl (lv_at hl 1 rfl) ?_
    refine gf_X10_23 hB hCi.1 rfl dX10_runScript_68 ?_
    refine lv_iload hx hb dX10_runScript_71 (lv_at hl 0 rfl) ?_
    refine cl_X10_256 (As := [.ref (xb + 36), .int (nI (sn / p10k (n0 - (k8 + 1)) % 10000))]) (rest := []) hB (c_X7_succeeds l g H (xb + 36) Pi D qi (sn / p10k (n0 - (k8 + 1)) % 10000) n9 hS2 hPT (hD2) (hWi) (hZi) (hg9) (hsz) (fun q9 y => hsz ▸ hCi.2.2.2.2.2.2.2.2.2.2.2.2.2.1 q9 y)) rfl hl.1 (Nat.le_of_ble_eq_true rfl) dX10_runScript_73 ⟨Nat.le_of_ble_eq_true rfl, Nat.le_of_ble_eq_true rfl⟩ ⟨by show (2 * k8) + 2 ≤ 8; omega, by show (259 * k8) + 259 ≤ 1036; omega⟩ hS (by have hz9 := hS.1; rintro q9 (h | h); exact Or.inl (CF.a (by omega)); exact Or.inr (by omega)) (fun v H1 locs hpo hfr hS => ?_)
    obtain ⟨rfl, P2_1, hS2, hPT⟩ := hpo
    have hCi := hCi.trial hfr hS2
    generalize H1 = H at hfr hS hCi hS2 hPT ⊢
    refine W.widen (k := 2 * k8 + 2) (n := 259 * k8 + 259) (by show (2 * k8) + 2 ≤ 2 * k8 + 2; omega) (by show (259 * k8) + 259 ≤ 259 * k8 + 259; omega) ?_
    refine mb_if_ne (tgt := 82) hB dX10_runScript_76 (by decide) (fun h_76 => ?_) (fun h_76 => ?_)
    · skip
      have hb9 := h_76
      refine lv_iinc (v := nI (k8 + 1)) (lv' := [(4, .int (nI (k8 + 1))), (5, .int (nI (sn / p10k (n0 - (k8 + 1)) % 10000))), (0, .ref xb), (1, .int (nI n0)), (2, .long (lN sn))]) hx hb dX10_runScript_82 hl (k := 4) rfl (nI_1 _) (by decide) rfl (fun ls hl => ?_)
      refine lv_goto (tgt := 44) hx hb dX10_runScript_85 (by decide) ?_
      refine W.widen (k := 2 * (k8 + 1)) (n := 259 * (k8 + 1)) (by omega) (by omega) ?_
      refine ih44 (k8 + 1, cmdQ qi (sn / p10k (n0 - (k8 + 1)) % 10000), P2_1) _ _ _ ⟨(by omega), (cmdQ_WF hWi), (cmdQ_WZ hWi hZi), ((scG_t hb9 (by omega)).symm.trans hsg), hCi, hS2, hPT, hS, lv_sub hl [2, 3, 4, 0] rfl⟩ (by dsimp only; omega)
    · skip
      have hb9 := h_76
      refine lv_iload hx hb dX10_runScript_79 (lv_at hl 4 rfl) ?_
      refine mh_iret hB ⟨by show 2 * k8 + 2 ≤ 8; omega, by show 259 * k8 + 259 ≤ 1036; omega⟩ hS dX10_runScript_81 ⟨?_, ?_⟩
      · rw [scG_f hb9 (by omega)] at hsg; exact congrArg (fun y9 => some (Value.int y9)) hsg
      · exact ⟨_, _, _, _, _, _, _, _, hCi⟩

def rm_f_X10_simulate : Room := { frames := 5, cells := 0, slots := 0, locals := 117 }
set_option maxRecDepth 100000 in
set_option maxHeartbeats 400000 in
theorem f_X10_simulate (l : Launch) (g : GG) (H0 : Heap) (xb : Nat) (lim : Nat) (q : Nat → Int32) (n : Nat) (rm : Nat → Int32) (sl : Nat → Int32) (sv : Nat → Int32) (tx : Nat → Int32) (ln : Nat) (y : Int64) (n0 : Nat) (hC : CLS g xb lim q n rm sl sv tx ln H0) (hn1 : 0 < n0) (hn2 : n0 < 100) : Ct l yX10_simulate cX10_simulate 8 (some .int) rm_f_X10_simulate g [.ref xb, .long y, .int (nI n0)] H0 (ftA (CF xb lim) H0.size) (fun v H1 => v = some (.int (nI (simV q y n0))) ∧ CLS g xb lim (q) (n) (rm) (sl) (sv) (tx) (ln) H1) := by
  refine Ct.of (by decide) (fun _ h => Or.inr h) (Nat.le_of_ble_eq_true rfl) ?_
  intro p e s m below meth c ls hB hin hS hH hl
  have hx := hB.x
  have hb := hB.b
  have hl : lv_has ls 8 [(0, .ref xb), (1, .long y), (3, .int (nI n0))] := hl
  obtain ⟨D, P, T, Zr, Pr, zt, Pt, nx, hCi⟩ := hC
  have hS1 := hCi.2.2.1
  have hPT := hCi.2.2.2.1
  have hD : ∀ q9, xb + 10 ≤ q9 → q9 < xb + 10 + 26 → D q9 := fun q9 h1 h2 => hCi.2.2.2.2.2.2.2.2.2.2.2.2.1 q9 (by omega) (Nat.lt_of_lt_of_le (show q9 < xb + 68 by omega) hCi.2.2.2.2.2.2.2.2.2.2.2.2.2.2.2.2.1)
  have hW : WF q := hCi.2.2.2.2.2.2.2.2.2.2.2.2.2.2.1
  have hZ : WZ q := hCi.2.2.2.2.2.2.2.2.2.2.2.2.2.2.2.1
  have hnm5 := hW.2.2.1
  have hz0 : (zOf q) 0 = nI (nmQ q) := by rw [zOf_lo (by omega), hW.1]
  have hS2 := hCi.2.2.2.2.1
  have hD2 : ∀ q9, xb + 36 ≤ q9 → q9 < xb + 36 + 26 → D q9 := fun q9 h1 h2 => hCi.2.2.2.2.2.2.2.2.2.2.2.2.1 q9 (by omega) (Nat.lt_of_lt_of_le (show q9 < xb + 68 by omega) hCi.2.2.2.2.2.2.2.2.2.2.2.2.2.2.2.2.1)
  refine lv_iload_n hx hb dX10_simulate_0 rfl (lv_at hl 2 rfl) ?_
  refine lv_iconst (v := nI 1) hx hb dX10_simulate_1 (by decide) ?_
  refine lv_bipush (v := nI 99) hx hb dX10_simulate_2 (by decide) ?_
  refine cl_X10_44 (As := [.int (nI n0), .int (nI 1), .int (nI 99)]) (rest := []) hB (c_X10_requireRange l g H0 n0 1 99 (by first | assumption | omega) (by first | assumption | omega) (by first | assumption | omega)) rfl hl.1 (Nat.le_of_ble_eq_true rfl) dX10_simulate_4 ⟨Nat.le_of_ble_eq_true rfl, Nat.le_of_ble_eq_true rfl⟩ ⟨Nat.le_of_ble_eq_true rfl, Nat.le_of_ble_eq_true rfl⟩ hS (by have hz9 := hS.1; rintro q (h | h) <;> first | exact Or.inr (by omega) | exact h.elim | exact Or.inl h | (simp only [ftA] at h ⊢; omega)) (fun v H1 locs hpo hfr hS => ?_)
  obtain ⟨rfl, rfl⟩ := hpo
  refine W.widen (k := 0) (n := 0) (Nat.le_of_ble_eq_true rfl) (Nat.le_of_ble_eq_true rfl) ?_
  refine lv_aload_n hx hb dX10_simulate_7 rfl (lv_at hl 0 rfl) ?_
  refine gf_X10_23 hB hCi.1 rfl dX10_simulate_8 ?_
  refine lv_aload_n hx hb dX10_simulate_11 rfl (lv_at hl 0 rfl) ?_
  refine gf_X10_19 hB hCi.1 rfl dX10_simulate_12 ?_
  refine cl_X10_251 (As := [.ref (xb + 10)]) (rest := []) hB (c_X8_copyFrom l g H0 (xb + 36) zt Pt (xb + 10) (zOf q) P hS2 hS1 (by omega)) hS2.o rfl hl.1 (Nat.le_of_ble_eq_true rfl) dX10_simulate_15 ⟨Nat.le_of_ble_eq_true rfl, Nat.le_of_ble_eq_true rfl⟩ ⟨Nat.le_of_ble_eq_true rfl, Nat.le_of_ble_eq_true rfl⟩ hS (by have hz9 := hS.1; rintro q9 (h | h); exact Or.inl (CF.a (by omega)); exact Or.inr (by omega)) (fun v H1 locs hpo hfr hS => ?_)
  obtain ⟨rfl, hS2⟩ := hpo
  have hCi := hCi.trial hfr hS2
  have hS1 := hS1.keptF hfr (fun q9 h1 h2 => by first | omega | exact fun y => y.elim)
  have hPT := hPT.keptF hfr (fun q9 hq9 => by first | exact hq9.elim | exact hD2 q9 (by have := hq9; omega) (by have := hq9; omega))
  generalize H1 = H at hfr hS hCi hS1 hPT hS2 ⊢
  refine W.widen (k := 0) (n := 0) (Nat.le_of_ble_eq_true rfl) (Nat.le_of_ble_eq_true rfl) ?_
  refine lv_iconst (v := nI 0) hx hb dX10_simulate_18 (by decide) ?_
  refine lv_istore (lv' := [(4, .int (nI 0)), (0, .ref xb), (1, .long y), (3, .int (nI n0))]) hx hb dX10_simulate_19 hl (by decide) rfl (fun ls hl => ?_)
  refine lv_lload_n hx hb dX10_simulate_21 rfl (lv_at hl 2 rfl) ?_
  refine lv_lstore (lv' := [(5, .long y), (4, .int (nI 0)), (0, .ref xb), (1, .long y), (3, .int (nI n0))]) hx hb dX10_simulate_22 hl (by decide) rfl (fun ls hl => ?_)
  refine lv_iconst (v := nI 0) hx hb dX10_simulate_24 (by decide) ?_
  refine lv_istore (lv' := [(7, .int (nI 0)), (5, .long y), (4, .int (nI 0)), (0, .ref xb), (1, .long y), (3, .int (nI n0))]) hx hb dX10_simulate_25 hl (by decide) rfl (fun ls hl => ?_)
  refine mh_loop (σ := Nat × (Nat → Option Nat)) (fun xx9 H locs ls => match xx9 with | (k8, Pi) => k8 ≤ n0 ∧ CLSi g xb lim D P T Zr Pr (zOf (smQ q y k8)) Pi nx q n rm sl sv tx ln H ∧ StAt g (xb + 10) (zOf q) P H ∧ StAt g (xb + 36) (zOf (smQ q y k8)) Pi H ∧ PT g D Pi (smQ q y k8) H ∧ va_S (ftA (CF xb lim) H0.size) H0 H locs ∧ lv_has ls 8 [(0, .ref xb), (3, .int (nI n0)), (4, .int (nI (smS q y k8))), (5, .long (smX y k8)), (7, .int (nI k8))]) (fun xx9 => match xx9 with | (k8, Pi) => n0 - k8) ?_ (0, P) ⟨(by omega), hCi, hS1, hS2, hPT, hS, lv_sub hl [3, 5, 2, 1, 0] rfl⟩
  rintro ⟨k8, Pi⟩ H locs ls ⟨hk8, hCi, hS1, hS2, hPT, hS, hl⟩ ih
  have ih27 := ih
  refine lv_iload hx hb dX10_simulate_27 (lv_at hl 4 rfl) ?_
  refine lv_iload_n hx hb dX10_simulate_29 rfl (lv_at hl 1 rfl) ?_
  refine mn_icmp_ge (tgt := 69) hB dX10_simulate_30 (by decide) (by omega) (by omega) (fun h_30 => ?_) (fun h_30 => ?_)
  · skip
    have hin9 : n0 = k8 := by omega
    subst hin9
    have hsle := smS_le q y n0
    refine lv_sipush (v := nI 1000) hx hb dX10_simulate_69 (by decide +kernel) ?_
    refine lv_aload_n hx hb dX10_simulate_72 rfl (lv_at hl 0 rfl) ?_
    refine gf_X10_23 hB hCi.1 rfl dX10_simulate_73 ?_
    refine gf_X10_77 hB hS2.o rfl dX10_simulate_76 ?_
    refine lv_aload_n hx hb dX10_simulate_79 rfl (lv_at hl 0 rfl) ?_
    refine gf_X10_19 hB hCi.1 rfl dX10_simulate_80 ?_
    refine gf_X10_77 hB hS1.o rfl dX10_simulate_83 ?_
    refine lv_isub hx hb dX10_simulate_86 ?_
    refine mh_top (y := .int (nI (smA q y n0))) (by rw [zOf_lo (by omega), zOf_lo (by omega), sm2 hW n0, i32_sub, Int32.add_comm (q 2), Int32.add_assoc, i32_self, Int32.add_zero]) ?_
    refine mn_imul hB dX10_simulate_87 ?_
    refine lv_iload hx hb dX10_simulate_88 (lv_at hl 2 rfl) ?_
    refine lv_sipush (v := nI 999) hx hb dX10_simulate_90 (by decide +kernel) ?_
    refine mh_min hB kw_356 kw_17 kw_941 kw_355 hl.1 (Nat.le_of_ble_eq_true rfl) ⟨Nat.le_of_ble_eq_true rfl, Nat.le_of_ble_eq_true rfl⟩ ⟨Nat.le_of_ble_eq_true rfl, Nat.le_of_ble_eq_true rfl⟩ dX10_simulate_93 ?_
    refine mh_top (y := .int (nI (if 999 < smS q y n0 then 999 else smS q y n0))) (by rw [min999 (by omega)]) ?_
    refine mn_iadd hB dX10_simulate_96 ?_
    refine mh_iret hB ⟨Nat.le_of_ble_eq_true rfl, Nat.le_of_ble_eq_true rfl⟩ hS dX10_simulate_97 ⟨?_, ?_⟩
    · rfl
    · exact ⟨_, _, _, _, _, _, _, _, hCi⟩
  · skip
    refine lv_lload hx hb dX10_simulate_33 (lv_at hl 3 rfl) ?_
    refine lv_ldc2 (v := (6364136223846793005)) hx hb hB.ow (hB.K.2 _ kw_931 _) dX10_simulate_35 ?_
    refine lv_lmul hx hb dX10_simulate_38 ?_
    refine lv_ldc2 (v := (1442695040888963407)) hx hb hB.ow (hB.K.2 _ kw_932 _) dX10_simulate_39 ?_
    refine lv_ladd hx hb dX10_simulate_42 ?_
    refine mh_top (y := .long (smX y (k8 + 1))) (rfl) ?_
    refine lv_lstore (lv' := [(5, .long (smX y (k8 + 1))), (0, .ref xb), (3, .int (nI n0)), (4, .int (nI (smS q y k8))), (7, .int (nI k8))]) hx hb dX10_simulate_43 hl (by decide) rfl (fun ls hl => ?_)
    refine lv_iload hx hb dX10_simulate_45 (lv_at hl 3 rfl) ?_
    refine lv_aload_n hx hb dX10_simulate_47 rfl (lv_at hl 1 rfl) ?_
    refine gf_X10_23 hB hCi.1 rfl dX10_simulate_48 ?_
    refine lv_lload hx hb dX10_simulate_51 (lv_at hl 0 rfl) ?_
    refine lv_bipush (v := nI 33) hx hb dX10_simulate_53 (by decide) ?_
    refine lv_lushr (v := ((smX y (k8 + 1)).toUInt64 >>> ((nI 33).toInt64.toUInt64 &&& Int64.toUInt64 63)).toInt64) hx hb dX10_simulate_55 rfl ?_
    refine lv_l2i (v := (((smX y (k8 + 1)).toUInt64 >>> ((nI 33).toInt64.toUInt64 &&& Int64.toUInt64 63)).toInt64).toInt32) hx hb dX10_simulate_56 rfl ?_
    refine mh_top (y := .int (nI (smR y k8))) (by rw [sm_r]; rfl) ?_
    refine cl_X10_266 (As := [.int (nI (smR y k8))]) (rest := [.int (nI (smS q y k8))]) hB (c_X8_spendEvening l g H (xb + 36) Pi D (smQ q y k8) (smR y k8) hS2 hPT (hD2) (smQ_WF hW k8) (smQ_WZ hW hZ k8) (smR_lt y k8)) hS2.o rfl hl.1 (Nat.le_of_ble_eq_true rfl) dX10_simulate_57 ⟨Nat.le_of_ble_eq_true rfl, Nat.le_of_ble_eq_true rfl⟩ ⟨Nat.le_of_ble_eq_true rfl, Nat.le_of_ble_eq_true rfl⟩ hS (by have hz9 := hS.1; rintro q9 (h | h); exact Or.inl (CF.a (by omega)); exact Or.inr (by omega)) (fun v H1 locs hpo hfr hS => ?_)
    obtain ⟨rfl, P2_1, hS2, hPT⟩ := hpo
    have hCi := hCi.trial hfr hS2
    have hS1 := hS1.keptF hfr (fun q9 h1 h2 => by first | omega | exact fun y => y.elim)
    generalize H1 = H at hfr hS hCi hS1 hS2 hPT ⊢
    refine W.widen (k := 0) (n := 0) (Nat.le_of_ble_eq_true rfl) (Nat.le_of_ble_eq_true rfl) ?_
    refine mn_iadd hB dX10_simulate_60 ?_
    refine mh_top (y := .int (nI (smS q y (k8 + 1)))) (rfl) ?_
    refine lv_istore (lv' := [(4, .int (nI (smS q y (k8 + 1)))), (5, .long (smX y (k8 + 1))), (0, .ref xb), (3, .int (nI n0)), (7, .int (nI k8))]) hx hb dX10_simulate_61 hl (by decide) rfl (fun ls hl => ?_)
    refine lv_iinc (v := nI (k8 + 1)) (lv' := [(7, .int (nI (k8 + 1))), (4, .int (nI (smS q y (k8 + 1)))), (5, .long (smX y (k8 + 1))), (0, .ref xb), (3, .int (nI n0))]) hx hb dX10_simulate_63 hl (k := 4) rfl (nI_1 _) (by decide) rfl (fun ls hl => ?_)
    refine lv_goto (tgt := 27) hx hb dX10_simulate_66 (by decide) ?_
    refine ih27 (k8 + 1, P2_1) _ _ _ ⟨(by omega), hCi, hS1, hS2, hPT, hS, lv_sub hl [3, 4, 1, 2, 0] rfl⟩ (by dsimp only; omega)
