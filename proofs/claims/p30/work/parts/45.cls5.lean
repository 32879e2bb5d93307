def rm_c_X8_sewPatches : Room := { frames := 3, cells := 0, slots := 0, locals := 63 }
set_option maxRecDepth 100000 in
set_option maxHeartbeats 400000 in
theorem c_X8_sewPatches (l : Launch) (g : GG) (H0 : Heap) (sb : Nat) (P : Nat → Option Nat) (D : Nat → Prop) (q : Nat → Int32) (f : Nat) (n0 : Nat) (hS1 : StAt g sb (zOf q) P H0) (hPT : PT g D P q H0) (hD : ∀ q9, sb ≤ q9 → q9 < sb + 26 → D q9) (hW : WF q) (hf : f < 3) (hn0 : n0 < 100) (h0 : 0 < nmQ q) : Ct l yX8_sewPatches cX8_sewPatches 5 (some .int) rm_c_X8_sewPatches g [.ref sb, .ref (sb + (20 + 2 * f)), .int (nI n0)] H0 (ftA (fun q9 => sb ≤ q9 ∧ q9 < sb + 26) H0.size) (fun v H1 => v = some (.int (nI (sewN f (tnQ q) n0 q))) ∧ StAt g sb (zOf (sewE f n0 q)) P H1 ∧ PT g D P (sewE f n0 q) H1) := by
  refine Ct.of (by decide) (fun _ h => Or.inr h) (Nat.le_of_ble_eq_true rfl) ?_
  intro p e s m below meth c ls hB hin hS hH hl
  have hx := hB.x
  have hb := hB.b
  have hl : lv_has ls 5 [(0, .ref sb), (1, .ref (sb + (20 + 2 * f))), (2, .int (nI n0))] := hl
  have h5 := hW.2.2.1
  have htn : tnQ q < nmQ q := by rcases hW.2.2.2.1 with y | y <;> omega
  have hm5 : tnQ q < 5 := by omega
  have hs9 := WF.sz (hW.fr hf)
  refine lv_iconst (v := nI 0) hx hb dX8_sewPatches_0 (by decide) ?_
  refine lv_istore_n (lv' := [(3, .int (nI 0)), (0, .ref sb), (1, .ref (sb + (20 + 2 * f))), (2, .int (nI n0))]) hx hb dX8_sewPatches_1 rfl hl (by decide) rfl (fun ls hl => ?_)
  refine lv_iconst (v := nI 0) hx hb dX8_sewPatches_2 (by decide) ?_
  refine lv_istore (lv' := [(4, .int (nI 0)), (3, .int (nI 0)), (0, .ref sb), (1, .ref (sb + (20 + 2 * f))), (2, .int (nI n0))]) hx hb dX8_sewPatches_3 hl (by decide) rfl (fun ls hl => ?_)
  refine mh_loop (σ := Nat × (Nat → Int32)) (fun xx9 H locs ls => match xx9 with | (i9, qi) => i9 ≤ n0 ∧ SewRel q qi f (tnQ q) i9 ∧ sewQ f (tnQ q) n0 q = sewQ f (tnQ q) (n0 - i9) qi ∧ sewN f (tnQ q) n0 q = i9 + sewN f (tnQ q) (n0 - i9) qi ∧ StAt g sb (lzS q qi f (tnQ q)) P H ∧ PT g D P q H ∧ va_S (ftA (fun q9 => sb ≤ q9 ∧ q9 < sb + 26) H0.size) H0 H locs ∧ lv_has ls 5 [(0, .ref sb), (1, .ref (sb + (20 + 2 * f))), (2, .int (nI n0)), (3, .int (nI i9)), (4, .int (nI i9))]) (fun xx9 => match xx9 with | (i9, qi) => n0 - i9) ?_ (0, q) ⟨(by omega), (SewRel.z hW), (rfl), (by rw [Nat.zero_add]; rfl), (hS1.congr (fun j hj => by unfold lzS; split <;> rfl) (fun _ _ => rfl)), hPT, hS, lv_sub hl [2, 3, 4, 1, 0] rfl⟩
  rintro ⟨i9, qi⟩ H locs ls ⟨hi, hr, hq1, hq2, hS1, hPT, hS, hl⟩ ih
  have ih5 := ih
  have hszi := hr.sz
  have hswi := WF.sw (hr.1.fr hf)
  have hlsw : lzS q qi f (tnQ q) (80 + f) = nI (swF qi f) := by rw [lzS_off (by omega) (by omega), zOf_fS hf]; exact (hr.1.fr hf).s
  have hlok : sewBz (lzS q qi f (tnQ q)) q f (swF qi f) = sewOk qi f := by
    unfold sewBz sewOk
    rw [hszi]
    by_cases y : swF qi f < szF q f
    · have hcc := hr.2.1 (swF qi f) (by omega)
      have hc6 := (hr.1.fr hf).c6 (k := swF qi f) (by omega)
      rw [← hcc, lzS_off (by omega) (by omega), zOf_lo (by omega)]
    · rw [decide_eq_false y, Bool.false_and, Bool.false_and]
  refine lv_iload hx hb dX8_sewPatches_5 (lv_at hl 4 rfl) ?_
  refine lv_iload_n hx hb dX8_sewPatches_7 rfl (lv_at hl 2 rfl) ?_
  refine mn_icmp_ge (tgt := 28) hB dX8_sewPatches_8 (by decide) (by omega) (by omega) (fun h_8 => ?_) (fun h_8 => ?_)
  · skip
    have hE1 : sewQ f (tnQ q) n0 q = qi := by rw [hq1, show n0 - i9 = 0 by omega]; rfl
    have hE2 : sewN f (tnQ q) n0 q = i9 := by rw [hq2, show n0 - i9 = 0 by omega]; rfl
    have ht1 : lzS q qi f (tnQ q) 1 = nI (tnQ q) := by rw [lzS_off (by omega) (by omega), zOf_lo (by omega), hr.1.2.1, hr.2.2.2.2.2.2.1]
    have ht0 : lzS q qi f (tnQ q) 0 = nI (nmQ q) := by rw [lzS_off (by omega) (by omega), zOf_lo (by omega), hr.1.1, hr.2.2.2.2.2.1]
    have hz1 : zOf qi 1 = nI (tnQ q) := by rw [zOf_lo (by omega), hr.1.2.1, hr.2.2.2.2.2.2.1]
    have hz0 : zOf qi 0 = nI (nmQ q) := by rw [zOf_lo (by omega), hr.1.1, hr.2.2.2.2.2.1]
    refine lv_aload_n hx hb dX8_sewPatches_28 rfl (lv_at hl 0 rfl) ?_
    refine lv_aload_n hx hb dX8_sewPatches_29 rfl (lv_at hl 0 rfl) ?_
    refine gf_X8_71 hB hS1.o rfl dX8_sewPatches_30 ?_
    refine mh_top (y := .int (nI (tnQ q))) (by rw [ht1]) ?_
    refine cl_X8_74 (As := [.int (nI (tnQ q))]) (rest := []) hB (c_X8_memberAt l g H sb (lzS q qi f (tnQ q)) P (tnQ q) (nmQ q) hS1 (htn) (ht0) (h5)) hS1.o rfl hl.1 (Nat.le_of_ble_eq_true rfl) dX8_sewPatches_33 ⟨Nat.le_of_ble_eq_true rfl, Nat.le_of_ble_eq_true rfl⟩ ⟨Nat.le_of_ble_eq_true rfl, Nat.le_of_ble_eq_true rfl⟩ hS (by have hz9 := hS.1; rintro q (h | h) <;> first | exact Or.inr (by omega) | exact h.elim | exact Or.inl h | (simp only [ftA] at h ⊢; omega)) (fun v H1 locs hpo hfr hS => ?_)
    obtain ⟨rfl, rfl⟩ := hpo
    refine W.widen (k := 0) (n := 0) (Nat.le_of_ble_eq_true rfl) (Nat.le_of_ble_eq_true rfl) ?_
    refine lv_astore (lv' := [(4, .ref (sb + (4 + 2 * (tnQ q)))), (0, .ref sb), (1, .ref (sb + (20 + 2 * f))), (2, .int (nI n0)), (3, .int (nI i9))]) hx hb dX8_sewPatches_36 hl (by decide) rfl (fun ls hl => ?_)
    refine lv_aload hx hb dX8_sewPatches_38 (lv_at hl 0 rfl) ?_
    refine lv_ifnull hx hb dX8_sewPatches_40 ?_
    refine lv_aload hx hb dX8_sewPatches_43 (lv_at hl 0 rfl) ?_
    refine lv_dup hx hb dX8_sewPatches_45 rfl ?_
    refine gf_X8_78 hB (hS1.om (k := (tnQ q)) (by omega)) rfl dX8_sewPatches_46 ?_
    refine lv_iload_n hx hb dX8_sewPatches_49 rfl (lv_at hl 4 rfl) ?_
    refine lv_iadd hx hb dX8_sewPatches_50 ?_
    refine pf_X8_78 hB (hS1.om (k := (tnQ q)) (by omega)) (by first | exact Or.inl rfl | (simp only [ftA]; omega) | (simp [ftA]; omega)) hS rfl rfl (Nat.le_of_ble_eq_true rfl) dX8_sewPatches_51 (fun H locs hwr => ?_)
    have ho := hwr.2.1
    have hz := hwr.2.2.1
    obtain ⟨hS1, hS⟩ := hS1.w_mS (by omega) hwr
    have hPT := hPT.kept (fun q9 hq9 _ => ho q9 (fun e9 => hq9 (by rw [e9]; first | exact hD _ (by omega) (by omega))))
    refine lv_aload_n hx hb dX8_sewPatches_54 rfl (lv_at hl 2 rfl) ?_
    refine gf_X8_81 hB (hS1.of (k := f) (by omega)) rfl dX8_sewPatches_55 ?_
    refine lv_aload_n hx hb dX8_sewPatches_58 rfl (lv_at hl 1 rfl) ?_
    refine gf_X8_71 hB hS1.o rfl dX8_sewPatches_59 ?_
    refine mh_top (y := .int (nI (tnQ q))) (by rw [upd_n (by omega), ht1]) ?_
    refine lv_iload_n hx hb dX8_sewPatches_62 rfl (lv_at hl 4 rfl) ?_
    refine cl_X8_56 (As := [.ref (sb + (21 + 2 * f)), .int (nI (tnQ q)), .int (nI i9)]) (rest := []) hB (c_X6_add l g H (sb + (21 + 2 * f)) 5 (fun j7 => (upd (lzS q qi f (tnQ q)) (5 + (tnQ q)) (((lzS q qi f (tnQ q)) (5 + (tnQ q))) + (nI i9))) (83 + 5 * f + j7)) (tnQ q) (nI i9) (hS1.of2 (k := f) (by omega)) (by omega) (by omega)) rfl hl.1 (Nat.le_of_ble_eq_true rfl) dX8_sewPatches_63 ⟨Nat.le_of_ble_eq_true rfl, Nat.le_of_ble_eq_true rfl⟩ ⟨Nat.le_of_ble_eq_true rfl, Nat.le_of_ble_eq_true rfl⟩ hS (by have hz9 := hS.1; rintro q (h | h) <;> first | exact Or.inr (by omega) | exact h.elim | exact Or.inl h | (simp only [ftA] at h ⊢; omega)) (fun v H1 locs hpo hfr hS => ?_)
    obtain ⟨rfl, ha⟩ := hpo
    have hS1 := hS1.f_fB (by omega) hfr ha
    rw [layR_upd (by omega)] at hS1
    have hPT := hPT.keptF hfr (fun q9 hq9 => by first | exact hq9.elim | exact hD q9 (by have := hq9; omega) (by have := hq9; omega))
    generalize H1 = H at hfr hS hS1 hPT ⊢
    refine W.widen (k := 0) (n := 0) (Nat.le_of_ble_eq_true rfl) (Nat.le_of_ble_eq_true rfl) ?_
    have e9 : (upd (lzS q qi f (tnQ q)) (5 + tnQ q) (lzS q qi f (tnQ q) (5 + tnQ q) + nI i9)) (83 + 5 * f + tnQ q) = lzS q qi f (tnQ q) (83 + 5 * f + tnQ q) := upd_n (by omega)
    have hS1 := hS1.congr (z2 := zOf qi) (fun j hj => by rw [← lz_end hf hm5 hW hr j hj, ← e9]) (fun _ _ => rfl)
    refine lv_aload_n hx hb dX8_sewPatches_66 rfl (lv_at hl 1 rfl) ?_
    refine lv_aload_n hx hb dX8_sewPatches_67 rfl (lv_at hl 1 rfl) ?_
    refine gf_X8_71 hB hS1.o rfl dX8_sewPatches_68 ?_
    refine mh_top (y := .int (nI (tnQ q))) (by rw [hz1]) ?_
    refine lv_iconst (v := nI 1) hx hb dX8_sewPatches_71 (by decide) ?_
    refine mn_iadd hB dX8_sewPatches_72 ?_
    refine lv_aload_n hx hb dX8_sewPatches_73 rfl (lv_at hl 1 rfl) ?_
    refine gf_X8_32 hB hS1.o rfl dX8_sewPatches_74 ?_
    refine mh_top (y := .int (nI (nmQ q))) (by rw [hz0]) ?_
    refine mn_icmp_ge (tgt := 89) hB dX8_sewPatches_77 (by decide) (by omega) (by omega) (fun h_77 => ?_) (fun h_77 => ?_)
    · skip
      refine lv_iconst (v := nI 0) hx hb dX8_sewPatches_89 (by decide) ?_
      refine mh_top (y := .int (nI ((tnQ q + 1) % nmQ q))) (by first | rw [Nat.mod_eq_of_lt (by omega)] | rw [show tnQ q + 1 = nmQ q by omega, Nat.mod_self]) ?_
      refine pf_X8_71 hB hS1.o (by first | exact Or.inl rfl | (simp only [ftA]; omega) | (simp [ftA]; omega)) hS rfl rfl (Nat.le_of_ble_eq_true rfl) dX8_sewPatches_90 (fun H locs hwr => ?_)
      have ho := hwr.2.1
      have hz := hwr.2.2.1
      obtain ⟨hS1, hS⟩ := hS1.w_t1 hwr
      have hPT := hPT.kept (fun q9 hq9 _ => ho q9 (fun e9 => hq9 (by rw [e9]; first | exact hD _ (by omega) (by omega))))
      refine lv_iload_n hx hb dX8_sewPatches_93 rfl (lv_at hl 4 rfl) ?_
      refine mh_iret hB ⟨Nat.le_of_ble_eq_true rfl, Nat.le_of_ble_eq_true rfl⟩ hS dX8_sewPatches_94 ⟨?_, ?_, ?_⟩
      · rw [hE2]
      · exact hS1.congr (fun j hj => by unfold sewE; rw [hE1]; exact zOf_t1 hr.1 j hj) (fun _ _ => rfl)
      · unfold sewE; rw [hE1]; exact hPT.sewn hr
    · skip
      refine lv_aload_n hx hb dX8_sewPatches_80 rfl (lv_at hl 1 rfl) ?_
      refine gf_X8_71 hB hS1.o rfl dX8_sewPatches_81 ?_
      refine mh_top (y := .int (nI (tnQ q))) (by rw [hz1]) ?_
      refine lv_iconst (v := nI 1) hx hb dX8_sewPatches_84 (by decide) ?_
      refine mn_iadd hB dX8_sewPatches_85 ?_
      refine lv_goto (tgt := 90) hx hb dX8_sewPatches_86 (by decide) ?_
      refine mh_top (y := .int (nI ((tnQ q + 1) % nmQ q))) (by first | rw [Nat.mod_eq_of_lt (by omega)] | rw [show tnQ q + 1 = nmQ q by omega, Nat.mod_self]) ?_
      refine pf_X8_71 hB hS1.o (by first | exact Or.inl rfl | (simp only [ftA]; omega) | (simp [ftA]; omega)) hS rfl rfl (Nat.le_of_ble_eq_true rfl) dX8_sewPatches_90 (fun H locs hwr => ?_)
      have ho := hwr.2.1
      have hz := hwr.2.2.1
      obtain ⟨hS1, hS⟩ := hS1.w_t1 hwr
      have hPT := hPT.kept (fun q9 hq9 _ => ho q9 (fun e9 => hq9 (by rw [e9]; first | exact hD _ (by omega) (by omega))))
      refine lv_iload_n hx hb dX8_sewPatches_93 rfl (lv_at hl 4 rfl) ?_
      refine mh_iret hB ⟨Nat.le_of_ble_eq_true rfl, Nat.le_of_ble_eq_true rfl⟩ hS dX8_sewPatches_94 ⟨?_, ?_, ?_⟩
      · rw [hE2]
      · exact hS1.congr (fun j hj => by unfold sewE; rw [hE1]; exact zOf_t1 hr.1 j hj) (fun _ _ => rfl)
      · unfold sewE; rw [hE1]; exact hPT.sewn hr
  · skip
    refine lv_aload_n hx hb dX8_sewPatches_11 rfl (lv_at hl 0 rfl) ?_
    refine lv_aload_n hx hb dX8_sewPatches_12 rfl (lv_at hl 1 rfl) ?_
    refine cl_X8_67 (As := [.ref (sb + (20 + 2 * f))]) (rest := []) hB (c_X8_sewOne l g H sb (lzS q qi f (tnQ q)) P D q f (swF qi f) hS1 hPT (by first | assumption | omega) (by first | assumption | omega) (hlsw) (by omega) (by first | assumption | omega) (fun y => by rw [← hr.2.1 _ (by omega)]; exact (hr.1.fr hf).c6 (by omega))) hS1.o rfl hl.1 (Nat.le_of_ble_eq_true rfl) dX8_sewPatches_13 ⟨Nat.le_of_ble_eq_true rfl, Nat.le_of_ble_eq_true rfl⟩ ⟨Nat.le_of_ble_eq_true rfl, Nat.le_of_ble_eq_true rfl⟩ hS (by have hz9 := hS.1; rintro q (h | h) <;> first | exact Or.inr (by omega) | exact h.elim | exact Or.inl h | (simp only [ftA] at h ⊢; omega)) (fun v H1 locs hpo hfr hS => ?_)
    obtain ⟨rfl, hS1, hPT⟩ := hpo
    generalize H1 = H at hfr hS hS1 hPT ⊢
    refine W.widen (k := 0) (n := 0) (Nat.le_of_ble_eq_true rfl) (Nat.le_of_ble_eq_true rfl) ?_
    refine mh_top (y := .int (bI (sewOk qi f))) (by rw [hlok]) ?_
    refine mb_if_eq (tgt := 28) hB dX8_sewPatches_16 (by decide) (fun h_16 => ?_) (fun h_16 => ?_)
    · skip
      have hS1 : StAt g sb (lzS q qi f (tnQ q)) P H := by rw [show sewZ1 (lzS q qi f (tnQ q)) q f (swF qi f) = lzS q qi f (tnQ q) from if_neg (by rw [hlok, h_16]; decide)] at hS1; exact hS1
      have hE1 : sewQ f (tnQ q) n0 q = qi := hq1.trans (sewQ_f h_16)
      have hE2 : sewN f (tnQ q) n0 q = i9 := by rw [hq2, sewN_f h_16]; rfl
      have ht1 : lzS q qi f (tnQ q) 1 = nI (tnQ q) := by rw [lzS_off (by omega) (by omega), zOf_lo (by omega), hr.1.2.1, hr.2.2.2.2.2.2.1]
      have ht0 : lzS q qi f (tnQ q) 0 = nI (nmQ q) := by rw [lzS_off (by omega) (by omega), zOf_lo (by omega), hr.1.1, hr.2.2.2.2.2.1]
      have hz1 : zOf qi 1 = nI (tnQ q) := by rw [zOf_lo (by omega), hr.1.2.1, hr.2.2.2.2.2.2.1]
      have hz0 : zOf qi 0 = nI (nmQ q) := by rw [zOf_lo (by omega), hr.1.1, hr.2.2.2.2.2.1]
      refine lv_aload_n hx hb dX8_sewPatches_28 rfl (lv_at hl 0 rfl) ?_
      refine lv_aload_n hx hb dX8_sewPatches_29 rfl (lv_at hl 0 rfl) ?_
      refine gf_X8_71 hB hS1.o rfl dX8_sewPatches_30 ?_
      refine mh_top (y := .int (nI (tnQ q))) (by rw [ht1]) ?_
      refine cl_X8_74 (As := [.int (nI (tnQ q))]) (rest := []) hB (c_X8_memberAt l g H sb (lzS q qi f (tnQ q)) P (tnQ q) (nmQ q) hS1 (htn) (ht0) (h5)) hS1.o rfl hl.1 (Nat.le_of_ble_eq_true rfl) dX8_sewPatches_33 ⟨Nat.le_of_ble_eq_true rfl, Nat.le_of_ble_eq_true rfl⟩ ⟨Nat.le_of_ble_eq_true rfl, Nat.le_of_ble_eq_true rfl⟩ hS (by have hz9 := hS.1; rintro q (h | h) <;> first | exact Or.inr (by omega) | exact h.elim | exact Or.inl h | (simp only [ftA] at h ⊢; omega)) (fun v H1 locs hpo hfr hS => ?_)
      obtain ⟨rfl, rfl⟩ := hpo
      refine W.widen (k := 0) (n := 0) (Nat.le_of_ble_eq_true rfl) (Nat.le_of_ble_eq_true rfl) ?_
      refine lv_astore (lv' := [(4, .ref (sb + (4 + 2 * (tnQ q)))), (0, .ref sb), (1, .ref (sb + (20 + 2 * f))), (2, .int (nI n0)), (3, .int (nI i9))]) hx hb dX8_sewPatches_36 hl (by decide) rfl (fun ls hl => ?_)
      refine lv_aload hx hb dX8_sewPatches_38 (lv_at hl 0 rfl) ?_
      refine lv_ifnull hx hb dX8_sewPatches_40 ?_
      refine lv_aload hx hb dX8_sewPatches_43 (lv_at hl 0 rfl) ?_
      refine lv_dup hx hb dX8_sewPatches_45 rfl ?_
      refine gf_X8_78 hB (hS1.om (k := (tnQ q)) (by omega)) rfl dX8_sewPatches_46 ?_
      refine lv_iload_n hx hb dX8_sewPatches_49 rfl (lv_at hl 4 rfl) ?_
      refine lv_iadd hx hb dX8_sewPatches_50 ?_
      refine pf_X8_78 hB (hS1.om (k := (tnQ q)) (by omega)) (by first | exact Or.inl rfl | (simp only [ftA]; omega) | (simp [ftA]; omega)) hS rfl rfl (Nat.le_of_ble_eq_true rfl) dX8_sewPatches_51 (fun H locs hwr => ?_)
      have ho := hwr.2.1
      have hz := hwr.2.2.1
      obtain ⟨hS1, hS⟩ := hS1.w_mS (by omega) hwr
      have hPT := hPT.kept (fun q9 hq9 _ => ho q9 (fun e9 => hq9 (by rw [e9]; first | exact hD _ (by omega) (by omega))))
      refine lv_aload_n hx hb dX8_sewPatches_54 rfl (lv_at hl 2 rfl) ?_
      refine gf_X8_81 hB (hS1.of (k := f) (by omega)) rfl dX8_sewPatches_55 ?_
      refine lv_aload_n hx hb dX8_sewPatches_58 rfl (lv_at hl 1 rfl) ?_
      refine gf_X8_71 hB hS1.o rfl dX8_sewPatches_59 ?_
      refine mh_top (y := .int (nI (tnQ q))) (by rw [upd_n (by omega), ht1]) ?_
      refine lv_iload_n hx hb dX8_sewPatches_62 rfl (lv_at hl 4 rfl) ?_
      refine cl_X8_56 (As := [.ref (sb + (21 + 2 * f)), .int (nI (tnQ q)), .int (nI i9)]) (rest := []) hB (c_X6_add l g H (sb + (21 + 2 * f)) 5 (fun j7 => (upd (lzS q qi f (tnQ q)) (5 + (tnQ q)) (((lzS q qi f (tnQ q)) (5 + (tnQ q))) + (nI i9))) (83 + 5 * f + j7)) (tnQ q) (nI i9) (hS1.of2 (k := f) (by omega)) (by omega) (by omega)) rfl hl.1 (Nat.le_of_ble_eq_true rfl) dX8_sewPatches_63 ⟨Nat.le_of_ble_eq_true rfl, Nat.le_of_ble_eq_true rfl⟩ ⟨Nat.le_of_ble_eq_true rfl, Nat.le_of_ble_eq_true rfl⟩ hS (by have hz9 := hS.1; rintro q (h | h) <;> first | exact Or.inr (by omega) | exact h.elim | exact Or.inl h | (simp only [ftA] at h ⊢; omega)) (fun v H1 locs hpo hfr hS => ?_)
      obtain ⟨rfl, ha⟩ := hpo
      have hS1 := hS1.f_fB (by omega) hfr ha
      rw [layR_upd (by omega)] at hS1
      have hPT := hPT.keptF hfr (fun q9 hq9 => by first | exact hq9.elim | exact hD q9 (by have := hq9; omega) (by have := hq9; omega))
      generalize H1 = H at hfr hS hS1 hPT ⊢
      refine W.widen (k := 0) (n := 0) (Nat.le_of_ble_eq_true rfl) (Nat.le_of_ble_eq_true rfl) ?_
      have e9 : (upd (lzS q qi f (tnQ q)) (5 + tnQ q) (lzS q qi f (tnQ q) (5 + tnQ q) + nI i9)) (83 + 5 * f + tnQ q) = lzS q qi f (tnQ q) (83 + 5 * f + tnQ q) := upd_n (by omega)
      have hS1 := hS1.congr (z2 := zOf qi) (fun j hj => by rw [← lz_end hf hm5 hW hr j hj, ← e9]) (fun _ _ => rfl)
      refine lv_aload_n hx hb dX8_sewPatches_66 rfl (lv_at hl 1 rfl) ?_
      refine lv_aload_n hx hb dX8_sewPatches_67 rfl (lv_at hl 1 rfl) ?_
      refine gf_X8_71 hB hS1.o rfl dX8_sewPatches_68 ?_
      refine mh_top (y := .int (nI (tnQ q))) (by rw [hz1]) ?_
      refine lv_iconst (v := nI 1) hx hb dX8_sewPatches_71 (by decide) ?_
      refine mn_iadd hB dX8_sewPatches_72 ?_
      refine lv_aload_n hx hb dX8_sewPatches_73 rfl (lv_at hl 1 rfl) ?_
      refine gf_X8_32 hB hS1.o rfl dX8_sewPatches_74 ?_
      refine mh_top (y := .int (nI (nmQ q))) (by rw [hz0]) ?_
      refine mn_icmp_ge (tgt := 89) hB dX8_sewPatches_77 (by decide) (by omega) (by omega) (fun h_77 => ?_) (fun h_77 => ?_)
      · skip
        refine lv_iconst (v := nI 0) hx hb dX8_sewPatches_89 (by decide) ?_
        refine mh_top (y := .int (nI ((tnQ q + 1) % nmQ q))) (by first | rw [Nat.mod_eq_of_lt (by omega)] | rw [show tnQ q + 1 = nmQ q by omega, Nat.mod_self]) ?_
        refine pf_X8_71 hB hS1.o (by first | exact Or.inl rfl | (simp only [ftA]; omega) | (simp [ftA]; omega)) hS rfl rfl (Nat.le_of_ble_eq_true rfl) dX8_sewPatches_90 (fun H locs hwr => ?_)
        have ho := hwr.2.1
        have hz := hwr.2.2.1
        obtain ⟨hS1, hS⟩ := hS1.w_t1 hwr
        have hPT := hPT.kept (fun q9 hq9 _ => ho q9 (fun e9 => hq9 (by rw [e9]; first | exact hD _ (by omega) (by omega))))
        refine lv_iload_n hx hb dX8_sewPatches_93 rfl (lv_at hl 4 rfl) ?_
        refine mh_iret hB ⟨Nat.le_of_ble_eq_true rfl, Nat.le_of_ble_eq_true rfl⟩ hS dX8_sewPatches_94 ⟨?_, ?_, ?_⟩
        · rw [hE2]
        · exact hS1.congr (fun j hj => by unfold sewE; rw [hE1]; exact zOf_t1 hr.1 j hj) (fun _ _ => rfl)
        · unfold sewE; rw [hE1]; exact hPT.sewn hr
      · skip
        refine lv_aload_n hx hb dX8_sewPatches_80 rfl (lv_at hl 1 rfl) ?_
        refine gf_X8_71 hB hS1.o rfl dX8_sewPatches_81 ?_
        refine mh_top (y := .int (nI (tnQ q))) (by rw [hz1]) ?_
        refine lv_iconst (v := nI 1) hx hb dX8_sewPatches_84 (by decide) ?_
        refine mn_iadd hB dX8_sewPatches_85 ?_
        refine lv_goto (tgt := 90) hx hb dX8_sewPatches_86 (by decide) ?_
        refine mh_top (y := .int (nI ((tnQ q + 1) % nmQ q))) (by first | rw [Nat.mod_eq_of_lt (by omega)] | rw [show tnQ q + 1 = nmQ q by omega, Nat.mod_self]) ?_
        refine pf_X8_71 hB hS1.o (by first | exact Or.inl rfl | (simp only [ftA]; omega) | (simp [ftA]; omega)) hS rfl rfl (Nat.le_of_ble_eq_true rfl) dX8_sewPatches_90 (fun H locs hwr => ?_)
        have ho := hwr.2.1
        have hz := hwr.2.2.1
        obtain ⟨hS1, hS⟩ := hS1.w_t1 hwr
        have hPT := hPT.kept (fun q9 hq9 _ => ho q9 (fun e9 => hq9 (by rw [e9]; first | exact hD _ (by omega) (by omega))))
        refine lv_iload_n hx hb dX8_sewPatches_93 rfl (lv_at hl 4 rfl) ?_
        refine mh_iret hB ⟨Nat.le_of_ble_eq_true rfl, Nat.le_of_ble_eq_true rfl⟩ hS dX8_sewPatches_94 ⟨?_, ?_, ?_⟩
        · rw [hE2]
        · exact hS1.congr (fun j hj => by unfold sewE; rw [hE1]; exact zOf_t1 hr.1 j hj) (fun _ _ => rfl)
        · unfold sewE; rw [hE1]; exact hPT.sewn hr
    · skip
      have hk9 := h_16
      have hok := sewOk_t h_16
      have hcc := hr.2.1 (swF qi f) (by omega)
      have hS1 : StAt g sb (upd (upd (upd (lzS q qi f (tnQ q)) (50 + clF qi f (swF qi f)) (lzS q qi f (tnQ q) (50 + clF qi f (swF qi f)) - nI 1)) (68 + clF qi f (swF qi f)) (lzS q qi f (tnQ q) (68 + clF qi f (swF qi f)) + nI 1)) (80 + f) (nI (swF qi f + 1))) P H := by
        unfold sewZ1 at hS1
        rw [if_pos (hlok.trans h_16), ← hcc] at hS1
        exact hS1
      refine lv_iinc (v := nI (i9 + 1)) (lv' := [(3, .int (nI (i9 + 1))), (0, .ref sb), (1, .ref (sb + (20 + 2 * f))), (2, .int (nI n0)), (4, .int (nI i9))]) hx hb dX8_sewPatches_19 hl (k := 3) rfl (nI_1 _) (by decide) rfl (fun ls hl => ?_)
      refine lv_iinc (v := nI (i9 + 1)) (lv' := [(4, .int (nI (i9 + 1))), (3, .int (nI (i9 + 1))), (0, .ref sb), (1, .ref (sb + (20 + 2 * f))), (2, .int (nI n0))]) hx hb dX8_sewPatches_22 hl (k := 4) rfl (nI_1 _) (by decide) rfl (fun ls hl => ?_)
      refine lv_goto (tgt := 5) hx hb dX8_sewPatches_25 (by decide) ?_
      refine ih5 (i9 + 1, sew1 qi f (tnQ q)) _ _ _ ⟨(by omega), (hr.s hf hm5 hok.1), (hq1.trans (sewQ_t hk9 (by omega))), (by rw [hq2, sewN_t hk9 (by omega)]; omega), (hS1.congr (sew1_lz hf hm5 hr.1 hok.1) (fun _ _ => rfl)), hPT, hS, lv_sub hl [2, 3, 4, 1, 0] rfl⟩ (by dsimp only; omega)
