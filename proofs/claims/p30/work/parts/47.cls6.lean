theorem canF_mono {q : Nat → Int32} {s : Nat} : ∀ {n f : Nat}, canF q s f = false → f ≤ n → canF q s n = false
  | 0, f, h, hf => by rw [show f = 0 by omega] at h; exact h
  | n + 1, f, h, hf => by
    by_cases e : f = n + 1
    · rw [← e]; exact h
    · show (canF q s n && _) = false
      rw [canF_mono (n := n) h (by omega), Bool.false_and]
theorem canC_mono {q : Nat → Int32} {s : Nat} : ∀ {n f : Nat}, canC q s f = false → f ≤ n → canC q s n = false
  | 0, f, h, hf => by rw [show f = 0 by omega] at h; exact h
  | n + 1, f, h, hf => by
    by_cases e : f = n + 1
    · rw [← e]; exact h
    · show (canC q s n && _) = false
      rw [canC_mono (n := n) h (by omega), Bool.false_and]
theorem retO_WFc {q : Nat → Int32} (h : WF q) {c : Nat} (hc : c ≤ 6) : WF (retO q c) :=
  h.of (retO_same c hc 0 (by omega)) (retO_same c hc 1 (by omega)) (fun f hf => Same.wf (fun j h1 h2 => retO_same c hc j (by omega)) (h.fr hf))
theorem retO_nm {q : Nat → Int32} {c : Nat} (hc : c ≤ 6) : nmQ (retO q c) = nmQ q := qn_eq (retO_same c hc 0 (by omega))
theorem retO_WZ {q : Nat → Int32} (h : WZ q) {c : Nat} (hc : c ≤ 6) : WZ (retO q c) := h.of (by rw [retO_nm hc]; exact Nat.le_refl _) (fun m h1 h2 => ⟨fun c2 h3 => retO_same c hc _ (by omega), fun f hf => Or.inl (retO_same c hc _ (by omega))⟩)
theorem PT.ofRet {g : GG} {D : Nat → Prop} {P : Nat → Option Nat} {q : Nat → Int32} {H : Heap} {c : Nat} (hp : PT g D P q H) (hq : WF q) (hc : c ≤ 6) : PT g D P (retO q c) H := hp.congr (fun _ _ => rfl) (fun f hf => by
  have e : Same q (retO q c) f := fun j h1 h2 => retO_same c hc j (by omega)
  have hz := WF.sz (hq.fr hf)
  exact ⟨e.wd, e.ht, fun k hk => e.cl (by have : k < szF q f := hk; omega)⟩)

def rm_c_X8_missing : Room := { frames := 3, cells := 0, slots := 0, locals := 69 }
set_option maxRecDepth 100000 in
set_option maxHeartbeats 400000 in
theorem c_X8_missing (l : Launch) (g : GG) (H0 : Heap) (sb : Nat) (P : Nat → Option Nat) (D : Nat → Prop) (q : Nat → Int32) (s0 : Nat) (c0 : Nat) (hS1 : StAt g sb (zOf q) P H0) (hPT : PT g D P q H0) (hW : WF q) (hs : s0 < 8) (hc : c0 < 6) : Ct l yX8_missing cX8_missing 7 (some .int) rm_c_X8_missing g [.ref sb, .int (nI s0), .int (nI c0)] H0 (ftA (fun _ => False) H0.size) (fun v H1 => v = some (.int (misR q s0 c0)) ∧ H0 = H1) := by
  refine Ct.of (by decide) (fun _ h => Or.inr h) (Nat.le_of_ble_eq_true rfl) ?_
  intro p e s m below meth c ls hB hin hS hH hl
  have hx := hB.x
  have hb := hB.b
  have hl : lv_has ls 7 [(0, .ref sb), (1, .int (nI s0)), (2, .int (nI c0))] := hl
  refine lv_aload_n hx hb dX8_missing_0 rfl (lv_at hl 0 rfl) ?_
  refine lv_iload_n hx hb dX8_missing_1 rfl (lv_at hl 2 rfl) ?_
  refine cl_X8_44 (As := [.int (nI c0)]) (rest := []) hB (c_X8_clothAt l g H0 sb (zOf q) P c0 hS1 (by omega)) hS1.o rfl hl.1 (Nat.le_of_ble_eq_true rfl) dX8_missing_2 ⟨Nat.le_of_ble_eq_true rfl, Nat.le_of_ble_eq_true rfl⟩ ⟨Nat.le_of_ble_eq_true rfl, Nat.le_of_ble_eq_true rfl⟩ hS (by have hz9 := hS.1; rintro q (h | h) <;> first | exact Or.inr (by omega) | exact h.elim | exact Or.inl h | (simp only [ftA] at h ⊢; omega)) (fun v H1 locs hpo hfr hS => ?_)
  obtain ⟨rfl, rfl⟩ := hpo
  refine W.widen (k := 0) (n := 0) (Nat.le_of_ble_eq_true rfl) (Nat.le_of_ble_eq_true rfl) ?_
  refine lv_astore_n (lv' := [(3, .ref (sb + (14 + c0))), (0, .ref sb), (1, .int (nI s0)), (2, .int (nI c0))]) hx hb dX8_missing_5 rfl hl (by decide) rfl (fun ls hl => ?_)
  refine lv_iconst (v := nI 0) hx hb dX8_missing_6 (by decide) ?_
  refine lv_istore (lv' := [(4, .int (nI 0)), (3, .ref (sb + (14 + c0))), (0, .ref sb), (1, .int (nI s0)), (2, .int (nI c0))]) hx hb dX8_missing_7 hl (by decide) rfl (fun ls hl => ?_)
  refine lv_iconst (v := nI 0) hx hb dX8_missing_9 (by decide) ?_
  refine lv_istore (lv' := [(5, .int (nI 0)), (4, .int (nI 0)), (3, .ref (sb + (14 + c0))), (0, .ref sb), (1, .int (nI s0)), (2, .int (nI c0))]) hx hb dX8_missing_10 hl (by decide) rfl (fun ls hl => ?_)
  refine mh_loopR (σ := Nat) (fun xx9 locs ls => match xx9 with | f9 => f9 ≤ 3 ∧ va_S (ftA (fun _ => False) H0.size) H0 H0 locs ∧ lv_has ls 7 [(0, .ref sb), (1, .int (nI s0)), (2, .int (nI c0)), (3, .ref (sb + (14 + c0))), (4, .int (msN q s0 c0 f9)), (5, .int (nI f9))]) (fun xx9 => match xx9 with | f9 => 3 - f9) ?_ 0 ⟨(by omega), hS, lv_sub hl [3, 4, 5, 2, 1, 0] rfl⟩
  rintro f9 locs ls ⟨hf9, hS, hl⟩ ih
  have ih12 := ih
  have hzf := fun (h : f9 < 3) => WF.sz (hW.fr h)
  have hwf := fun (h : f9 < 3) => WF.sw (hW.fr h)
  refine lv_iload hx hb dX8_missing_12 (lv_at hl 5 rfl) ?_
  refine lv_iconst (v := nI 3) hx hb dX8_missing_14 (by decide) ?_
  refine mn_icmp_ge (tgt := 67) hB dX8_missing_15 (by decide) (by omega) (by omega) (fun h_15 => ?_) (fun h_15 => ?_)
  · skip
    have hin9 : f9 = 3 := by omega
    subst hin9
    refine lv_aload_n hx hb dX8_missing_67 rfl (lv_at hl 3 rfl) ?_
    refine lv_ifnonnull (tgt := 76) hx hb dX8_missing_68 (by decide) ?_
    refine lv_iconst (v := nI 0) hx hb dX8_missing_76 (by decide) ?_
    refine lv_iload hx hb dX8_missing_77 (lv_at hl 4 rfl) ?_
    refine lv_aload_n hx hb dX8_missing_79 rfl (lv_at hl 3 rfl) ?_
    refine gf_X8_64 hB (hS1.oc (k := c0) (by omega)) rfl dX8_missing_80 ?_
    refine mh_top (y := .int (q (50 + c0))) (by rw [zOf_lo (by omega)]) ?_
    refine lv_isub hx hb dX8_missing_83 ?_
    refine mh_max hB kw_525 kw_15 kw_523 kw_524 hl.1 (Nat.le_of_ble_eq_true rfl) ⟨Nat.le_of_ble_eq_true rfl, Nat.le_of_ble_eq_true rfl⟩ ⟨Nat.le_of_ble_eq_true rfl, Nat.le_of_ble_eq_true rfl⟩ dX8_missing_84 ?_
    refine mh_iret hB ⟨Nat.le_of_ble_eq_true rfl, Nat.le_of_ble_eq_true rfl⟩ hS dX8_missing_87 ⟨?_, rfl⟩
    · rw [msN_mis]
      unfold misR
      by_cases y : misU q s0 c0 3 ≤ 0
      · rw [if_pos y, if_neg (by rw [nI_0]; exact Int32.not_lt.mpr y)]
      · rw [if_neg y, if_pos (by rw [nI_0]; exact Int32.not_le.mp y)]
  · skip
    refine lv_aload_n hx hb dX8_missing_18 rfl (lv_at hl 0 rfl) ?_
    refine lv_iload hx hb dX8_missing_19 (lv_at hl 5 rfl) ?_
    refine cl_X8_36 (As := [.int (nI f9)]) (rest := []) hB (c_X8_frameAt l g H0 sb (zOf q) P f9 hS1 (by omega)) hS1.o rfl hl.1 (Nat.le_of_ble_eq_true rfl) dX8_missing_21 ⟨Nat.le_of_ble_eq_true rfl, Nat.le_of_ble_eq_true rfl⟩ ⟨Nat.le_of_ble_eq_true rfl, Nat.le_of_ble_eq_true rfl⟩ hS (by have hz9 := hS.1; rintro q (h | h) <;> first | exact Or.inr (by omega) | exact h.elim | exact Or.inl h | (simp only [ftA] at h ⊢; omega)) (fun v H1 locs hpo hfr hS => ?_)
    obtain ⟨rfl, rfl⟩ := hpo
    refine W.widen (k := 0) (n := 0) (Nat.le_of_ble_eq_true rfl) (Nat.le_of_ble_eq_true rfl) ?_
    refine lv_astore (lv' := [(6, .ref (sb + (20 + 2 * f9))), (0, .ref sb), (1, .int (nI s0)), (2, .int (nI c0)), (3, .ref (sb + (14 + c0))), (4, .int (msN q s0 c0 f9)), (5, .int (nI f9))]) hx hb dX8_missing_24 hl (by decide) rfl (fun ls hl => ?_)
    refine lv_iload_n hx hb dX8_missing_26 rfl (lv_at hl 2 rfl) ?_
    refine lv_iload hx hb dX8_missing_27 (lv_at hl 6 rfl) ?_
    refine lv_ishr hx hb dX8_missing_29 ?_
    refine lv_iconst (v := nI 1) hx hb dX8_missing_30 (by decide) ?_
    refine lv_iand hx hb dX8_missing_31 ?_
    refine mh_top (y := .int (nI (s0 / 2 ^ f9 % 2))) (by rw [bit_lem s0 hs f9 (by omega)]) ?_
    refine mn_if_eq (tgt := 61) hB dX8_missing_32 (by decide) (by omega) (fun h_32 => ?_) (fun h_32 => ?_)
    · skip
      have e61 : msN q s0 c0 f9 = msN q s0 c0 (f9 + 1) := by show _ = msN q s0 c0 f9 + (if bitS s0 f9 = true then _ else nI 0); first | (rw [if_pos (show bitS s0 f9 = true from decide_eq_true (by omega))]; done) | (rw [if_neg (show ¬ bitS s0 f9 = true from by rw [show bitS s0 f9 = false from decide_eq_false (by omega)]; decide), nI_0, Int32.add_zero]; done)
      rw [e61] at hl
      refine lv_iinc (v := nI (f9 + 1)) (lv' := [(5, .int (nI (f9 + 1))), (6, .ref (sb + (20 + 2 * f9))), (0, .ref sb), (1, .int (nI s0)), (2, .int (nI c0)), (3, .ref (sb + (14 + c0))), (4, .int (msN q s0 c0 (f9 + 1)))]) hx hb dX8_missing_61 hl (k := 6) rfl (nI_1 _) (by decide) rfl (fun ls hl => ?_)
      refine lv_goto (tgt := 12) hx hb dX8_missing_64 (by decide) ?_
      refine ih12 (f9 + 1) _ _ ⟨(by omega), hS, lv_sub hl [2, 3, 4, 5, 6, 0] rfl⟩ (by dsimp only; omega)
    · skip
      refine lv_aload hx hb dX8_missing_35 (lv_at hl 0 rfl) ?_
      refine lv_ifnull hx hb dX8_missing_37 ?_
      refine lv_iload hx hb dX8_missing_40 (lv_at hl 5 rfl) ?_
      refine lv_aload hx hb dX8_missing_42 (lv_at hl 0 rfl) ?_
      refine lv_iload_n hx hb dX8_missing_44 rfl (lv_at hl 3 rfl) ?_
      refine lv_aload hx hb dX8_missing_45 (lv_at hl 0 rfl) ?_
      refine gf_X8_91 hB (hS1.of (k := f9) (by omega)) rfl dX8_missing_47 ?_
      refine mh_top (y := .int (nI (swF q f9))) (by rw [zOf_fS (by omega), (hW.fr (f := f9) (by omega)).s]) ?_
      refine lv_aload hx hb dX8_missing_50 (lv_at hl 0 rfl) ?_
      refine cl_X8_103 (As := []) (rest := [.int (nI (swF q f9)), .int (nI c0), .ref (sb + (20 + 2 * f9)), .int (msN q s0 c0 f9)]) hB (c_X1_patches l g H0 sb (zOf q) P D q f9 hS1 hPT (by omega)) (hS1.of (k := f9) (by omega)) rfl hl.1 (Nat.le_of_ble_eq_true rfl) dX8_missing_52 ⟨Nat.le_of_ble_eq_true rfl, Nat.le_of_ble_eq_true rfl⟩ ⟨Nat.le_of_ble_eq_true rfl, Nat.le_of_ble_eq_true rfl⟩ hS (by have hz9 := hS.1; rintro q (h | h) <;> first | exact Or.inr (by omega) | exact h.elim | exact Or.inl h | (simp only [ftA] at h ⊢; omega)) (fun v H1 locs hpo hfr hS => ?_)
      obtain ⟨rfl, rfl⟩ := hpo
      refine W.widen (k := 0) (n := 0) (Nat.le_of_ble_eq_true rfl) (Nat.le_of_ble_eq_true rfl) ?_
      refine cl_X8_92 (As := [.int (nI c0), .int (nI (swF q f9)), .int (nI (szF q f9))]) (rest := [.int (msN q s0 c0 f9)]) hB (c_X1_patchesOf l g H0 sb (zOf q) P D q f9 c0 (swF q f9) (szF q f9) hS1 hPT (by omega) (by omega) (hwf (by omega)) (Nat.le_refl _)) (hS1.of (k := f9) (by omega)) rfl hl.1 (Nat.le_of_ble_eq_true rfl) dX8_missing_55 ⟨Nat.le_of_ble_eq_true rfl, Nat.le_of_ble_eq_true rfl⟩ ⟨Nat.le_of_ble_eq_true rfl, Nat.le_of_ble_eq_true rfl⟩ hS (by have hz9 := hS.1; rintro q (h | h) <;> first | exact Or.inr (by omega) | exact h.elim | exact Or.inl h | (simp only [ftA] at h ⊢; omega)) (fun v H1 locs hpo hfr hS => ?_)
      obtain ⟨rfl, rfl⟩ := hpo
      refine W.widen (k := 0) (n := 0) (Nat.le_of_ble_eq_true rfl) (Nat.le_of_ble_eq_true rfl) ?_
      refine lv_iadd hx hb dX8_missing_58 ?_
      refine lv_istore (lv' := [(4, .int ((msN q s0 c0 f9) + (nI (cntC q f9 c0 (swF q f9) ((szF q f9) - (swF q f9)))))), (6, .ref (sb + (20 + 2 * f9))), (0, .ref sb), (1, .int (nI s0)), (2, .int (nI c0)), (3, .ref (sb + (14 + c0))), (5, .int (nI f9))]) hx hb dX8_missing_59 hl (by decide) rfl (fun ls hl => ?_)
      have e61 : (msN q s0 c0 f9) + (nI (cntC q f9 c0 (swF q f9) ((szF q f9) - (swF q f9)))) = msN q s0 c0 (f9 + 1) := by show _ = msN q s0 c0 f9 + (if bitS s0 f9 = true then _ else nI 0); first | (rw [if_pos (show bitS s0 f9 = true from decide_eq_true (by omega))]; done) | (rw [if_neg (show ¬ bitS s0 f9 = true from by rw [show bitS s0 f9 = false from decide_eq_false (by omega)]; decide), nI_0, Int32.add_zero]; done)
      rw [e61] at hl
      refine lv_iinc (v := nI (f9 + 1)) (lv' := [(5, .int (nI (f9 + 1))), (4, .int (msN q s0 c0 (f9 + 1))), (6, .ref (sb + (20 + 2 * f9))), (0, .ref sb), (1, .int (nI s0)), (2, .int (nI c0)), (3, .ref (sb + (14 + c0)))]) hx hb dX8_missing_61 hl (k := 6) rfl (nI_1 _) (by decide) rfl (fun ls hl => ?_)
      refine lv_goto (tgt := 12) hx hb dX8_missing_64 (by decide) ?_
      refine ih12 (f9 + 1) _ _ ⟨(by omega), hS, lv_sub hl [3, 4, 5, 6, 1, 0] rfl⟩ (by dsimp only; omega)

def rm_c_X8_canFinishAll : Room := { frames := 4, cells := 0, slots := 0, locals := 95 }
set_option maxRecDepth 100000 in
set_option maxHeartbeats 400000 in
theorem c_X8_canFinishAll (l : Launch) (g : GG) (H0 : Heap) (sb : Nat) (P : Nat → Option Nat) (D : Nat → Prop) (q : Nat → Int32) (s0 : Nat) (hS1 : StAt g sb (zOf q) P H0) (hPT : PT g D P q H0) (hW : WF q) (hs : s0 < 8) : Ct l yX8_canFinishAll cX8_canFinishAll 4 (some .boolean) rm_c_X8_canFinishAll g [.ref sb, .int (nI s0)] H0 (ftA (fun _ => False) H0.size) (fun v H1 => v = some (.int (bI (canC q s0 6))) ∧ H0 = H1) := by
  refine Ct.of (by decide) (fun _ h => Or.inr h) (Nat.le_of_ble_eq_true rfl) ?_
  intro p e s m below meth c ls hB hin hS hH hl
  have hx := hB.x
  have hb := hB.b
  have hl : lv_has ls 4 [(0, .ref sb), (1, .int (nI s0))] := hl
  refine lv_iconst (v := nI 0) hx hb dX8_canFinishAll_0 (by decide) ?_
  refine lv_istore_n (lv' := [(2, .int (nI 0)), (0, .ref sb), (1, .int (nI s0))]) hx hb dX8_canFinishAll_1 rfl hl (by decide) rfl (fun ls hl => ?_)
  refine mh_loopR (σ := Nat) (fun xx9 locs ls => match xx9 with | f9 => f9 ≤ 3 ∧ canF q s0 f9 = true ∧ va_S (ftA (fun _ => False) H0.size) H0 H0 locs ∧ lv_has ls 4 [(0, .ref sb), (1, .int (nI s0)), (2, .int (nI f9))]) (fun xx9 => match xx9 with | f9 => 3 - f9) ?_ 0 ⟨(by omega), (rfl), hS, lv_sub hl [1, 2, 0] rfl⟩
  rintro f9 locs ls ⟨hf9, hcf, hS, hl⟩ ih
  have ih2 := ih
  refine lv_iload_n hx hb dX8_canFinishAll_2 rfl (lv_at hl 2 rfl) ?_
  refine lv_iconst (v := nI 3) hx hb dX8_canFinishAll_3 (by decide) ?_
  refine mn_icmp_ge (tgt := 40) hB dX8_canFinishAll_4 (by decide) (by omega) (by omega) (fun h_4 => ?_) (fun h_4 => ?_)
  · skip
    have hin9 : f9 = 3 := by omega
    subst hin9
    refine lv_iconst (v := nI 0) hx hb dX8_canFinishAll_40 (by decide) ?_
    refine lv_istore_n (lv' := [(2, .int (nI 0)), (0, .ref sb), (1, .int (nI s0))]) hx hb dX8_canFinishAll_41 rfl hl (by decide) rfl (fun ls hl => ?_)
    refine mh_loopR (σ := Nat) (fun xx9 locs ls => match xx9 with | c9 => c9 ≤ 6 ∧ canC q s0 c9 = true ∧ va_S (ftA (fun _ => False) H0.size) H0 H0 locs ∧ lv_has ls 4 [(0, .ref sb), (1, .int (nI s0)), (2, .int (nI c9))]) (fun xx9 => match xx9 with | c9 => 6 - c9) ?_ 0 ⟨(by omega), (hcf), hS, lv_sub hl [1, 2, 0] rfl⟩
    rintro c9 locs ls ⟨hc9, hcc, hS, hl⟩ ih
    have ih42 := ih
    refine lv_iload_n hx hb dX8_canFinishAll_42 rfl (lv_at hl 2 rfl) ?_
    refine lv_bipush (v := nI 6) hx hb dX8_canFinishAll_43 (by decide) ?_
    refine mn_icmp_ge (tgt := 65) hB dX8_canFinishAll_45 (by decide) (by omega) (by omega) (fun h_45 => ?_) (fun h_45 => ?_)
    · skip
      have hin9 : c9 = 6 := by omega
      subst hin9
      refine lv_iconst (v := nI 1) hx hb dX8_canFinishAll_65 (by decide) ?_
      refine mh_zret hB ⟨Nat.le_of_ble_eq_true rfl, Nat.le_of_ble_eq_true rfl⟩ hS dX8_canFinishAll_66 (by first | rfl | decide | (split <;> rfl)) ⟨?_, rfl⟩
      · rw [hcc]; rfl
    · skip
      refine lv_aload_n hx hb dX8_canFinishAll_48 rfl (lv_at hl 0 rfl) ?_
      refine lv_iload_n hx hb dX8_canFinishAll_49 rfl (lv_at hl 1 rfl) ?_
      refine lv_iload_n hx hb dX8_canFinishAll_50 rfl (lv_at hl 2 rfl) ?_
      refine cl_X8_142 (As := [.int (nI s0), .int (nI c9)]) (rest := []) hB (c_X8_missing l g H0 sb P D q s0 c9 hS1 hPT (by first | assumption | omega) (hs) (by omega)) hS1.o rfl hl.1 (Nat.le_of_ble_eq_true rfl) dX8_canFinishAll_51 ⟨Nat.le_of_ble_eq_true rfl, Nat.le_of_ble_eq_true rfl⟩ ⟨Nat.le_of_ble_eq_true rfl, Nat.le_of_ble_eq_true rfl⟩ hS (by have hz9 := hS.1; rintro q (h | h) <;> first | exact Or.inr (by omega) | exact h.elim | exact Or.inl h | (simp only [ftA] at h ⊢; omega)) (fun v H1 locs hpo hfr hS => ?_)
      obtain ⟨rfl, rfl⟩ := hpo
      refine W.widen (k := 0) (n := 0) (Nat.le_of_ble_eq_true rfl) (Nat.le_of_ble_eq_true rfl) ?_
      refine lv_if_le (tgt := 59) hx hb dX8_canFinishAll_54 (by decide) (fun h_54 => ?_) (fun h_54 => ?_)
      · skip
        refine lv_iinc (v := nI (c9 + 1)) (lv' := [(2, .int (nI (c9 + 1))), (0, .ref sb), (1, .int (nI s0))]) hx hb dX8_canFinishAll_59 hl (k := 2) rfl (nI_1 _) (by decide) rfl (fun ls hl => ?_)
        refine lv_goto (tgt := 42) hx hb dX8_canFinishAll_62 (by decide) ?_
        refine ih42 (c9 + 1) _ _ ⟨(by omega), (by show (canC q s0 c9 && decide (misR q s0 c9 = 0)) = true; rw [hcc, Bool.true_and]; exact decide_eq_true (Decidable.byContradiction (fun y => absurd (misR_pos.mpr y) (Int32.not_lt.mpr h_54)))), hS, lv_sub hl [1, 2, 0] rfl⟩ (by dsimp only; omega)
      · skip
        refine lv_iconst (v := nI 0) hx hb dX8_canFinishAll_57 (by decide) ?_
        refine mh_zret hB ⟨Nat.le_of_ble_eq_true rfl, Nat.le_of_ble_eq_true rfl⟩ hS dX8_canFinishAll_58 (by first | rfl | decide | (split <;> rfl)) ⟨?_, rfl⟩
        · rw [show canC q s0 6 = false from canC_mono (f := c9 + 1) (by show (canC q s0 c9 && decide (misR q s0 c9 = 0)) = false; rw [decide_eq_false (misR_pos.mp (Int32.not_le.mp h_54)), Bool.and_false]) (by omega)]; rfl
  · skip
    refine lv_aload_n hx hb dX8_canFinishAll_7 rfl (lv_at hl 0 rfl) ?_
    refine lv_iload_n hx hb dX8_canFinishAll_8 rfl (lv_at hl 2 rfl) ?_
    refine cl_X8_36 (As := [.int (nI f9)]) (rest := []) hB (c_X8_frameAt l g H0 sb (zOf q) P f9 hS1 (by omega)) hS1.o rfl hl.1 (Nat.le_of_ble_eq_true rfl) dX8_canFinishAll_9 ⟨Nat.le_of_ble_eq_true rfl, Nat.le_of_ble_eq_true rfl⟩ ⟨Nat.le_of_ble_eq_true rfl, Nat.le_of_ble_eq_true rfl⟩ hS (by have hz9 := hS.1; rintro q (h | h) <;> first | exact Or.inr (by omega) | exact h.elim | exact Or.inl h | (simp only [ftA] at h ⊢; omega)) (fun v H1 locs hpo hfr hS => ?_)
    obtain ⟨rfl, rfl⟩ := hpo
    refine W.widen (k := 0) (n := 0) (Nat.le_of_ble_eq_true rfl) (Nat.le_of_ble_eq_true rfl) ?_
    refine lv_astore_n (lv' := [(3, .ref (sb + (20 + 2 * f9))), (0, .ref sb), (1, .int (nI s0)), (2, .int (nI f9))]) hx hb dX8_canFinishAll_12 rfl hl (by decide) rfl (fun ls hl => ?_)
    refine lv_iload_n hx hb dX8_canFinishAll_13 rfl (lv_at hl 2 rfl) ?_
    refine lv_iload_n hx hb dX8_canFinishAll_14 rfl (lv_at hl 3 rfl) ?_
    refine lv_ishr hx hb dX8_canFinishAll_15 ?_
    refine lv_iconst (v := nI 1) hx hb dX8_canFinishAll_16 (by decide) ?_
    refine lv_iand hx hb dX8_canFinishAll_17 ?_
    refine mh_top (y := .int (nI (s0 / 2 ^ f9 % 2))) (by rw [bit_lem s0 hs f9 (by omega)]) ?_
    refine mn_if_eq (tgt := 34) hB dX8_canFinishAll_18 (by decide) (by omega) (fun h_18 => ?_) (fun h_18 => ?_)
    · skip
      refine lv_iinc (v := nI (f9 + 1)) (lv' := [(2, .int (nI (f9 + 1))), (3, .ref (sb + (20 + 2 * f9))), (0, .ref sb), (1, .int (nI s0))]) hx hb dX8_canFinishAll_34 hl (k := 3) rfl (nI_1 _) (by decide) rfl (fun ls hl => ?_)
      refine lv_goto (tgt := 2) hx hb dX8_canFinishAll_37 (by decide) ?_
      refine ih2 (f9 + 1) _ _ ⟨(by omega), (by show (canF q s0 f9 && (!bitS s0 f9 || decide (0 < szF q f9))) = true; rw [hcf, Bool.true_and]; first | (rw [show bitS s0 f9 = false from decide_eq_false (by omega)]; rfl) | (rw [show decide (0 < szF q f9) = true from decide_eq_true (by have := of_decide_eq_false h_29; omega), Bool.or_true])), hS, lv_sub hl [2, 3, 0] rfl⟩ (by dsimp only; omega)
    · skip
      refine lv_aload_n hx hb dX8_canFinishAll_21 rfl (lv_at hl 0 rfl) ?_
      refine lv_ifnull hx hb dX8_canFinishAll_22 ?_
      refine lv_aload_n hx hb dX8_canFinishAll_25 rfl (lv_at hl 0 rfl) ?_
      refine cl_X8_40 (As := []) (rest := []) hB (c_X1_isEmpty l g H0 sb (zOf q) P D q f9 hS1 hPT (by omega)) (hS1.of (k := f9) (by omega)) rfl hl.1 (Nat.le_of_ble_eq_true rfl) dX8_canFinishAll_26 ⟨Nat.le_of_ble_eq_true rfl, Nat.le_of_ble_eq_true rfl⟩ ⟨Nat.le_of_ble_eq_true rfl, Nat.le_of_ble_eq_true rfl⟩ hS (by have hz9 := hS.1; rintro q (h | h) <;> first | exact Or.inr (by omega) | exact h.elim | exact Or.inl h | (simp only [ftA] at h ⊢; omega)) (fun v H1 locs hpo hfr hS => ?_)
      obtain ⟨rfl, rfl⟩ := hpo
      refine W.widen (k := 0) (n := 0) (Nat.le_of_ble_eq_true rfl) (Nat.le_of_ble_eq_true rfl) ?_
      refine mb_if_eq (tgt := 34) hB dX8_canFinishAll_29 (by decide) (fun h_29 => ?_) (fun h_29 => ?_)
      · skip
        refine lv_iinc (v := nI (f9 + 1)) (lv' := [(2, .int (nI (f9 + 1))), (3, .ref (sb + (20 + 2 * f9))), (0, .ref sb), (1, .int (nI s0))]) hx hb dX8_canFinishAll_34 hl (k := 3) rfl (nI_1 _) (by decide) rfl (fun ls hl => ?_)
        refine lv_goto (tgt := 2) hx hb dX8_canFinishAll_37 (by decide) ?_
        refine ih2 (f9 + 1) _ _ ⟨(by omega), (by show (canF q s0 f9 && (!bitS s0 f9 || decide (0 < szF q f9))) = true; rw [hcf, Bool.true_and]; first | (rw [show bitS s0 f9 = false from decide_eq_false (by omega)]; rfl) | (rw [show decide (0 < szF q f9) = true from decide_eq_true (by have := of_decide_eq_false h_29; omega), Bool.or_true])), hS, lv_sub hl [2, 3, 0] rfl⟩ (by dsimp only; omega)
      · skip
        have hcf0 : canF q s0 (f9 + 1) = false := by
          have h29 := of_decide_eq_true h_29
          show (canF q s0 f9 && (!bitS s0 f9 || decide (0 < szF q f9))) = false
          rw [hcf, show bitS s0 f9 = true from decide_eq_true (by omega), show decide (0 < szF q f9) = false from decide_eq_false (by omega)]
          rfl
        have hcc0 : canC q s0 6 = false := canC_mono (f := 0) (canF_mono hcf0 (by omega)) (by omega)
        refine lv_iconst (v := nI 0) hx hb dX8_canFinishAll_32 (by decide) ?_
        refine mh_zret hB ⟨Nat.le_of_ble_eq_true rfl, Nat.le_of_ble_eq_true rfl⟩ hS dX8_canFinishAll_33 (by first | rfl | decide | (split <;> rfl)) ⟨?_, rfl⟩
        · rw [hcc0]; rfl

def rm_c_X8_copyMembers : Room := { frames := 2, cells := 0, slots := 0, locals := 43 }
set_option maxRecDepth 100000 in
set_option maxHeartbeats 400000 in
theorem c_X8_copyMembers (l : Launch) (g : GG) (H0 : Heap) (sb : Nat) (z : Nat → Int32) (P : Nat → Option Nat) (ob : Nat) (z2 : Nat → Int32) (P2 : Nat → Option Nat) (hS1 : StAt g sb z P H0) (hS2 : StAt g ob z2 P2 H0) (hdis : sb + 26 ≤ ob ∨ ob + 26 ≤ sb) : Ct l yX8_copyMembers cX8_copyMembers 5 none rm_c_X8_copyMembers g [.ref sb, .ref ob] H0 (ftA (fun q9 => sb ≤ q9 ∧ q9 < sb + 26) H0.size) (fun v H1 => v = none ∧ StAt g sb (cpM z z2 5) P H1) := by
  refine Ct.of (by decide) (fun _ h => Or.inr h) (Nat.le_of_ble_eq_true rfl) ?_
  intro p e s m below meth c ls hB hin hS hH hl
  have hx := hB.x
  have hb := hB.b
  have hl : lv_has ls 5 [(0, .ref sb), (1, .ref ob)] := hl
  refine lv_iconst (v := nI 0) hx hb dX8_copyMembers_0 (by decide) ?_
  refine lv_istore_n (lv' := [(2, .int (nI 0)), (0, .ref sb), (1, .ref ob)]) hx hb dX8_copyMembers_1 rfl hl (by decide) rfl (fun ls hl => ?_)
  refine mh_loop (σ := Nat) (fun xx9 H locs ls => match xx9 with | i9 => i9 ≤ 5 ∧ StAt g sb (cpM z z2 i9) P H ∧ StAt g ob z2 P2 H ∧ va_S (ftA (fun q9 => sb ≤ q9 ∧ q9 < sb + 26) H0.size) H0 H locs ∧ lv_has ls 5 [(0, .ref sb), (1, .ref ob), (2, .int (nI i9))]) (fun xx9 => match xx9 with | i9 => 5 - i9) ?_ 0 ⟨(by omega), (by rw [cpM_0]; exact hS1), hS2, hS, lv_sub hl [1, 2, 0] rfl⟩
  rintro i9 H locs ls ⟨hi9, hS1, hS2, hS, hl⟩ ih
  have ih2 := ih
  refine lv_iload_n hx hb dX8_copyMembers_2 rfl (lv_at hl 2 rfl) ?_
  refine lv_aload_n hx hb dX8_copyMembers_3 rfl (lv_at hl 0 rfl) ?_
  refine gf_X8_11 hB hS1.o rfl dX8_copyMembers_4 ?_
  refine mh_alen hB 4 rfl hS1.q1 dX8_copyMembers_7 ?_
  refine mn_icmp_ge (tgt := 56) hB dX8_copyMembers_8 (by decide) (by omega) (by omega) (fun h_8 => ?_) (fun h_8 => ?_)
  · skip
    have hin9 : i9 = 5 := by omega
    subst hin9
    refine mh_vret hB ⟨Nat.le_of_ble_eq_true rfl, Nat.le_of_ble_eq_true rfl⟩ hS dX8_copyMembers_56 ⟨?_, ?_⟩
    · rfl
    · exact hS1
  · skip
    refine lv_iload_n hx hb dX8_copyMembers_11 rfl (lv_at hl 2 rfl) ?_
    refine lv_aload_n hx hb dX8_copyMembers_12 rfl (lv_at hl 1 rfl) ?_
    refine gf_X8_11 hB hS2.o rfl dX8_copyMembers_13 ?_
    refine mh_alen hB 4 rfl hS2.q1 dX8_copyMembers_16 ?_
    refine mn_icmp_ge (tgt := 56) hB dX8_copyMembers_17 (by decide) (by omega) (by omega) (fun h => by exfalso; omega) (fun h_17 => ?_)
    refine lv_aload_n hx hb dX8_copyMembers_20 rfl (lv_at hl 0 rfl) ?_
    refine gf_X8_11 hB hS1.o rfl dX8_copyMembers_21 ?_
    refine lv_iload_n hx hb dX8_copyMembers_24 rfl (lv_at hl 2 rfl) ?_
    refine mn_qald 4 rfl hB hS1.q1 (by omega) (by omega) (y := (sb + (4 + 2 * i9))) (rfl) dX8_copyMembers_25 ?_
    refine lv_astore_n (lv' := [(3, .ref (sb + (4 + 2 * i9))), (0, .ref sb), (1, .ref ob), (2, .int (nI i9))]) hx hb dX8_copyMembers_26 rfl hl (by decide) rfl (fun ls hl => ?_)
    refine lv_aload_n hx hb dX8_copyMembers_27 rfl (lv_at hl 2 rfl) ?_
    refine gf_X8_11 hB hS2.o rfl dX8_copyMembers_28 ?_
    refine lv_iload_n hx hb dX8_copyMembers_31 rfl (lv_at hl 3 rfl) ?_
    refine mn_qald 4 rfl hB hS2.q1 (by omega) (by omega) (y := (ob + (4 + 2 * i9))) (rfl) dX8_copyMembers_32 ?_
    refine lv_astore (lv' := [(4, .ref (ob + (4 + 2 * i9))), (3, .ref (sb + (4 + 2 * i9))), (0, .ref sb), (1, .ref ob), (2, .int (nI i9))]) hx hb dX8_copyMembers_33 hl (by decide) rfl (fun ls hl => ?_)
    refine lv_aload_n hx hb dX8_copyMembers_35 rfl (lv_at hl 1 rfl) ?_
    refine lv_ifnull hx hb dX8_copyMembers_36 ?_
    refine lv_aload hx hb dX8_copyMembers_39 (lv_at hl 0 rfl) ?_
    refine lv_ifnull hx hb dX8_copyMembers_41 ?_
    refine lv_aload_n hx hb dX8_copyMembers_44 rfl (lv_at hl 1 rfl) ?_
    refine lv_aload hx hb dX8_copyMembers_45 (lv_at hl 0 rfl) ?_
    refine cl_X8_169 (As := [.ref (ob + (4 + 2 * i9))]) (rest := []) hB (c_X3_copyFrom l g H sb (cpM z z2 i9) P ob z2 P2 i9 hS1 hS2 (by first | assumption | omega) (by first | assumption | omega)) (hS1.om (k := i9) (by omega)) rfl hl.1 (Nat.le_of_ble_eq_true rfl) dX8_copyMembers_47 ⟨Nat.le_of_ble_eq_true rfl, Nat.le_of_ble_eq_true rfl⟩ ⟨Nat.le_of_ble_eq_true rfl, Nat.le_of_ble_eq_true rfl⟩ hS (by have hz9 := hS.1; rintro q (h | h) <;> first | exact Or.inr (by omega) | exact h.elim | exact Or.inl h | (simp only [ftA] at h ⊢; omega)) (fun v H1 locs hpo hfr hS => ?_)
    obtain ⟨rfl, hS1⟩ := hpo
    have hS2 := hS2.keptF hfr (fun q9 h1 h2 => by first | omega | exact fun y => y.elim)
    generalize H1 = H at hfr hS hS2 hS1 ⊢
    refine W.widen (k := 0) (n := 0) (Nat.le_of_ble_eq_true rfl) (Nat.le_of_ble_eq_true rfl) ?_
    refine lv_iinc (v := nI (i9 + 1)) (lv' := [(2, .int (nI (i9 + 1))), (4, .ref (ob + (4 + 2 * i9))), (3, .ref (sb + (4 + 2 * i9))), (0, .ref sb), (1, .ref ob)]) hx hb dX8_copyMembers_50 hl (k := 4) rfl (nI_1 _) (by decide) rfl (fun ls hl => ?_)
    refine lv_goto (tgt := 2) hx hb dX8_copyMembers_53 (by decide) ?_
    refine ih2 (i9 + 1) _ _ _ ⟨(by omega), (by rw [← cpM_up (by omega)]; exact hS1), hS2, hS, lv_sub hl [3, 4, 0] rfl⟩ (by dsimp only; omega)

def rm_c_X8_copyCloths : Room := { frames := 1, cells := 0, slots := 0, locals := 21 }
set_option maxRecDepth 100000 in
set_option maxHeartbeats 400000 in
theorem c_X8_copyCloths (l : Launch) (g : GG) (H0 : Heap) (sb : Nat) (z : Nat → Int32) (P : Nat → Option Nat) (ob : Nat) (z2 : Nat → Int32) (P2 : Nat → Option Nat) (hS1 : StAt g sb z P H0) (hS2 : StAt g ob z2 P2 H0) (hdis : sb + 26 ≤ ob ∨ ob + 26 ≤ sb) : Ct l yX8_copyCloths cX8_copyCloths 5 none rm_c_X8_copyCloths g [.ref sb, .ref ob] H0 (ftA (fun q9 => sb ≤ q9 ∧ q9 < sb + 26) H0.size) (fun v H1 => v = none ∧ StAt g sb (cpC z z2 6) P H1) := by
  refine Ct.of (by decide) (fun _ h => Or.inr h) (Nat.le_of_ble_eq_true rfl) ?_
  intro p e s m below meth c ls hB hin hS hH hl
  have hx := hB.x
  have hb := hB.b
  have hl : lv_has ls 5 [(0, .ref sb), (1, .ref ob)] := hl
  refine lv_iconst (v := nI 0) hx hb dX8_copyCloths_0 (by decide) ?_
  refine lv_istore_n (lv' := [(2, .int (nI 0)), (0, .ref sb), (1, .ref ob)]) hx hb dX8_copyCloths_1 rfl hl (by decide) rfl (fun ls hl => ?_)
  refine mh_loop (σ := Nat) (fun xx9 H locs ls => match xx9 with | i9 => i9 ≤ 6 ∧ StAt g sb (cpC z z2 i9) P H ∧ StAt g ob z2 P2 H ∧ va_S (ftA (fun q9 => sb ≤ q9 ∧ q9 < sb + 26) H0.size) H0 H locs ∧ lv_has ls 5 [(0, .ref sb), (1, .ref ob), (2, .int (nI i9))]) (fun xx9 => match xx9 with | i9 => 6 - i9) ?_ 0 ⟨(by omega), (by rw [cpC_0]; exact hS1), hS2, hS, lv_sub hl [1, 2, 0] rfl⟩
  rintro i9 H locs ls ⟨hi9, hS1, hS2, hS, hl⟩ ih
  have ih2 := ih
  refine lv_iload_n hx hb dX8_copyCloths_2 rfl (lv_at hl 2 rfl) ?_
  refine lv_aload_n hx hb dX8_copyCloths_3 rfl (lv_at hl 0 rfl) ?_
  refine gf_X8_19 hB hS1.o rfl dX8_copyCloths_4 ?_
  refine mh_alen hB 5 rfl hS1.q2 dX8_copyCloths_7 ?_
  refine mn_icmp_ge (tgt := 56) hB dX8_copyCloths_8 (by decide) (by omega) (by omega) (fun h_8 => ?_) (fun h_8 => ?_)
  · skip
    have hin9 : i9 = 6 := by omega
    subst hin9
    refine mh_vret hB ⟨Nat.le_of_ble_eq_true rfl, Nat.le_of_ble_eq_true rfl⟩ hS dX8_copyCloths_56 ⟨?_, ?_⟩
    · rfl
    · exact hS1
  · skip
    refine lv_iload_n hx hb dX8_copyCloths_11 rfl (lv_at hl 2 rfl) ?_
    refine lv_aload_n hx hb dX8_copyCloths_12 rfl (lv_at hl 1 rfl) ?_
    refine gf_X8_19 hB hS2.o rfl dX8_copyCloths_13 ?_
    refine mh_alen hB 5 rfl hS2.q2 dX8_copyCloths_16 ?_
    refine mn_icmp_ge (tgt := 56) hB dX8_copyCloths_17 (by decide) (by omega) (by omega) (fun h => by exfalso; omega) (fun h_17 => ?_)
    refine lv_aload_n hx hb dX8_copyCloths_20 rfl (lv_at hl 0 rfl) ?_
    refine gf_X8_19 hB hS1.o rfl dX8_copyCloths_21 ?_
    refine lv_iload_n hx hb dX8_copyCloths_24 rfl (lv_at hl 2 rfl) ?_
    refine mn_qald 5 rfl hB hS1.q2 (by omega) (by omega) (y := (sb + (14 + i9))) (rfl) dX8_copyCloths_25 ?_
    refine lv_astore_n (lv' := [(3, .ref (sb + (14 + i9))), (0, .ref sb), (1, .ref ob), (2, .int (nI i9))]) hx hb dX8_copyCloths_26 rfl hl (by decide) rfl (fun ls hl => ?_)
    refine lv_aload_n hx hb dX8_copyCloths_27 rfl (lv_at hl 2 rfl) ?_
    refine gf_X8_19 hB hS2.o rfl dX8_copyCloths_28 ?_
    refine lv_iload_n hx hb dX8_copyCloths_31 rfl (lv_at hl 3 rfl) ?_
    refine mn_qald 5 rfl hB hS2.q2 (by omega) (by omega) (y := (ob + (14 + i9))) (rfl) dX8_copyCloths_32 ?_
    refine lv_astore (lv' := [(4, .ref (ob + (14 + i9))), (3, .ref (sb + (14 + i9))), (0, .ref sb), (1, .ref ob), (2, .int (nI i9))]) hx hb dX8_copyCloths_33 hl (by decide) rfl (fun ls hl => ?_)
    refine lv_aload_n hx hb dX8_copyCloths_35 rfl (lv_at hl 1 rfl) ?_
    refine lv_ifnull hx hb dX8_copyCloths_36 ?_
    refine lv_aload hx hb dX8_copyCloths_39 (lv_at hl 0 rfl) ?_
    refine lv_ifnull hx hb dX8_copyCloths_41 ?_
    refine lv_aload_n hx hb dX8_copyCloths_44 rfl (lv_at hl 1 rfl) ?_
    refine lv_aload hx hb dX8_copyCloths_45 (lv_at hl 0 rfl) ?_
    refine cl_X8_173 (As := [.ref (ob + (14 + i9))]) (rest := []) hB (c_X0_copyFrom l g H sb (cpC z z2 i9) P ob z2 P2 i9 hS1 hS2 (by first | assumption | omega) (by first | assumption | omega)) (hS1.oc (k := i9) (by omega)) rfl hl.1 (Nat.le_of_ble_eq_true rfl) dX8_copyCloths_47 ⟨Nat.le_of_ble_eq_true rfl, Nat.le_of_ble_eq_true rfl⟩ ⟨Nat.le_of_ble_eq_true rfl, Nat.le_of_ble_eq_true rfl⟩ hS (by have hz9 := hS.1; rintro q (h | h) <;> first | exact Or.inr (by omega) | exact h.elim | exact Or.inl h | (simp only [ftA] at h ⊢; omega)) (fun v H1 locs hpo hfr hS => ?_)
    obtain ⟨rfl, hS1⟩ := hpo
    have hS2 := hS2.keptF hfr (fun q9 h1 h2 => by first | omega | exact fun y => y.elim)
    generalize H1 = H at hfr hS hS2 hS1 ⊢
    refine W.widen (k := 0) (n := 0) (Nat.le_of_ble_eq_true rfl) (Nat.le_of_ble_eq_true rfl) ?_
    refine lv_iinc (v := nI (i9 + 1)) (lv' := [(2, .int (nI (i9 + 1))), (4, .ref (ob + (14 + i9))), (3, .ref (sb + (14 + i9))), (0, .ref sb), (1, .ref ob)]) hx hb dX8_copyCloths_50 hl (k := 4) rfl (nI_1 _) (by decide) rfl (fun ls hl => ?_)
    refine lv_goto (tgt := 2) hx hb dX8_copyCloths_53 (by decide) ?_
    refine ih2 (i9 + 1) _ _ _ ⟨(by omega), (by rw [← cpC_up (by omega)]; exact hS1), hS2, hS, lv_sub hl [3, 4, 0] rfl⟩ (by dsimp only; omega)

def rm_c_X8_copyFrames : Room := { frames := 2, cells := 0, slots := 0, locals := 43 }
set_option maxRecDepth 100000 in
set_option maxHeartbeats 400000 in
theorem c_X8_copyFrames (l : Launch) (g : GG) (H0 : Heap) (sb : Nat) (z : Nat → Int32) (P : Nat → Option Nat) (ob : Nat) (z2 : Nat → Int32) (P2 : Nat → Option Nat) (hS1 : StAt g sb z P H0) (hS2 : StAt g ob z2 P2 H0) (hdis : sb + 26 ≤ ob ∨ ob + 26 ≤ sb) : Ct l yX8_copyFrames cX8_copyFrames 5 none rm_c_X8_copyFrames g [.ref sb, .ref ob] H0 (ftA (fun q9 => sb ≤ q9 ∧ q9 < sb + 26) H0.size) (fun v H1 => v = none ∧ StAt g sb (cpF z z2 3) (cpP P P2 3) H1) := by
  refine Ct.of (by decide) (fun _ h => Or.inr h) (Nat.le_of_ble_eq_true rfl) ?_
  intro p e s m below meth c ls hB hin hS hH hl
  have hx := hB.x
  have hb := hB.b
  have hl : lv_has ls 5 [(0, .ref sb), (1, .ref ob)] := hl
  refine lv_iconst (v := nI 0) hx hb dX8_copyFrames_0 (by decide) ?_
  refine lv_istore_n (lv' := [(2, .int (nI 0)), (0, .ref sb), (1, .ref ob)]) hx hb dX8_copyFrames_1 rfl hl (by decide) rfl (fun ls hl => ?_)
  refine mh_loop (σ := Nat) (fun xx9 H locs ls => match xx9 with | i9 => i9 ≤ 3 ∧ StAt g sb (cpF z z2 i9) (cpP P P2 i9) H ∧ StAt g ob z2 P2 H ∧ va_S (ftA (fun q9 => sb ≤ q9 ∧ q9 < sb + 26) H0.size) H0 H locs ∧ lv_has ls 5 [(0, .ref sb), (1, .ref ob), (2, .int (nI i9))]) (fun xx9 => match xx9 with | i9 => 3 - i9) ?_ 0 ⟨(by omega), (by rw [cpF_0, cpP_0]; exact hS1), hS2, hS, lv_sub hl [1, 2, 0] rfl⟩
  rintro i9 H locs ls ⟨hi9, hS1, hS2, hS, hl⟩ ih
  have ih2 := ih
  refine lv_iload_n hx hb dX8_copyFrames_2 rfl (lv_at hl 2 rfl) ?_
  refine lv_aload_n hx hb dX8_copyFrames_3 rfl (lv_at hl 0 rfl) ?_
  refine gf_X8_25 hB hS1.o rfl dX8_copyFrames_4 ?_
  refine mh_alen hB 6 rfl hS1.q3 dX8_copyFrames_7 ?_
  refine mn_icmp_ge (tgt := 56) hB dX8_copyFrames_8 (by decide) (by omega) (by omega) (fun h_8 => ?_) (fun h_8 => ?_)
  · skip
    have hin9 : i9 = 3 := by omega
    subst hin9
    refine mh_vret hB ⟨Nat.le_of_ble_eq_true rfl, Nat.le_of_ble_eq_true rfl⟩ hS dX8_copyFrames_56 ⟨?_, ?_⟩
    · rfl
    · exact hS1
  · skip
    refine lv_iload_n hx hb dX8_copyFrames_11 rfl (lv_at hl 2 rfl) ?_
    refine lv_aload_n hx hb dX8_copyFrames_12 rfl (lv_at hl 1 rfl) ?_
    refine gf_X8_25 hB hS2.o rfl dX8_copyFrames_13 ?_
    refine mh_alen hB 6 rfl hS2.q3 dX8_copyFrames_16 ?_
    refine mn_icmp_ge (tgt := 56) hB dX8_copyFrames_17 (by decide) (by omega) (by omega) (fun h => by exfalso; omega) (fun h_17 => ?_)
    refine lv_aload_n hx hb dX8_copyFrames_20 rfl (lv_at hl 0 rfl) ?_
    refine gf_X8_25 hB hS1.o rfl dX8_copyFrames_21 ?_
    refine lv_iload_n hx hb dX8_copyFrames_24 rfl (lv_at hl 2 rfl) ?_
    refine mn_qald 6 rfl hB hS1.q3 (by omega) (by omega) (y := (sb + (20 + 2 * i9))) (rfl) dX8_copyFrames_25 ?_
    refine lv_astore_n (lv' := [(3, .ref (sb + (20 + 2 * i9))), (0, .ref sb), (1, .ref ob), (2, .int (nI i9))]) hx hb dX8_copyFrames_26 rfl hl (by decide) rfl (fun ls hl => ?_)
    refine lv_aload_n hx hb dX8_copyFrames_27 rfl (lv_at hl 2 rfl) ?_
    refine gf_X8_25 hB hS2.o rfl dX8_copyFrames_28 ?_
    refine lv_iload_n hx hb dX8_copyFrames_31 rfl (lv_at hl 3 rfl) ?_
    refine mn_qald 6 rfl hB hS2.q3 (by omega) (by omega) (y := (ob + (20 + 2 * i9))) (rfl) dX8_copyFrames_32 ?_
    refine lv_astore (lv' := [(4, .ref (ob + (20 + 2 * i9))), (3, .ref (sb + (20 + 2 * i9))), (0, .ref sb), (1, .ref ob), (2, .int (nI i9))]) hx hb dX8_copyFrames_33 hl (by decide) rfl (fun ls hl => ?_)
    refine lv_aload_n hx hb dX8_copyFrames_35 rfl (lv_at hl 1 rfl) ?_
    refine lv_ifnull hx hb dX8_copyFrames_36 ?_
    refine lv_aload hx hb dX8_copyFrames_39 (lv_at hl 0 rfl) ?_
    refine lv_ifnull hx hb dX8_copyFrames_41 ?_
    refine lv_aload_n hx hb dX8_copyFrames_44 rfl (lv_at hl 1 rfl) ?_
    refine lv_aload hx hb dX8_copyFrames_45 (lv_at hl 0 rfl) ?_
    refine cl_X8_176 (As := [.ref (ob + (20 + 2 * i9))]) (rest := []) hB (c_X1_copyFrom l g H sb (cpF z z2 i9) (cpP P P2 i9) ob z2 P2 i9 hS1 hS2 (by first | assumption | omega) (by first | assumption | omega)) (hS1.of (k := i9) (by omega)) rfl hl.1 (Nat.le_of_ble_eq_true rfl) dX8_copyFrames_47 ⟨Nat.le_of_ble_eq_true rfl, Nat.le_of_ble_eq_true rfl⟩ ⟨Nat.le_of_ble_eq_true rfl, Nat.le_of_ble_eq_true rfl⟩ hS (by have hz9 := hS.1; rintro q (h | h) <;> first | exact Or.inr (by omega) | exact h.elim | exact Or.inl h | (simp only [ftA] at h ⊢; omega)) (fun v H1 locs hpo hfr hS => ?_)
    obtain ⟨rfl, hS1⟩ := hpo
    have hS2 := hS2.keptF hfr (fun q9 h1 h2 => by first | omega | exact fun y => y.elim)
    generalize H1 = H at hfr hS hS2 hS1 ⊢
    refine W.widen (k := 0) (n := 0) (Nat.le_of_ble_eq_true rfl) (Nat.le_of_ble_eq_true rfl) ?_
    refine lv_iinc (v := nI (i9 + 1)) (lv' := [(2, .int (nI (i9 + 1))), (4, .ref (ob + (20 + 2 * i9))), (3, .ref (sb + (20 + 2 * i9))), (0, .ref sb), (1, .ref ob)]) hx hb dX8_copyFrames_50 hl (k := 4) rfl (nI_1 _) (by decide) rfl (fun ls hl => ?_)
    refine lv_goto (tgt := 2) hx hb dX8_copyFrames_53 (by decide) ?_
    refine ih2 (i9 + 1) _ _ _ ⟨(by omega), (by rw [← cpF_up (by omega), ← cpP_up]; exact hS1), hS2, hS, lv_sub hl [3, 4, 0] rfl⟩ (by dsimp only; omega)

def rm_c_X8_copyFrom : Room := { frames := 3, cells := 0, slots := 0, locals := 67 }
set_option maxRecDepth 100000 in
set_option maxHeartbeats 400000 in
theorem c_X8_copyFrom (l : Launch) (g : GG) (H0 : Heap) (sb : Nat) (z : Nat → Int32) (P : Nat → Option Nat) (ob : Nat) (z2 : Nat → Int32) (P2 : Nat → Option Nat) (hS1 : StAt g sb z P H0) (hS2 : StAt g ob z2 P2 H0) (hdis : sb + 26 ≤ ob ∨ ob + 26 ≤ sb) : Ct l yX8_copyFrom cX8_copyFrom 2 none rm_c_X8_copyFrom g [.ref sb, .ref ob] H0 (ftA (fun q9 => sb ≤ q9 ∧ q9 < sb + 26) H0.size) (fun v H1 => v = none ∧ StAt g sb z2 P2 H1) := by
  refine Ct.of (by decide) (fun _ h => Or.inr h) (Nat.le_of_ble_eq_true rfl) ?_
  intro p e s m below meth c ls hB hin hS hH hl
  have hx := hB.x
  have hb := hB.b
  have hl : lv_has ls 2 [(0, .ref sb), (1, .ref ob)] := hl
  refine lv_aload_n hx hb dX8_copyFrom_0 rfl (lv_at hl 0 rfl) ?_
  refine lv_aload_n hx hb dX8_copyFrom_1 rfl (lv_at hl 1 rfl) ?_
  refine gf_X8_32 hB hS2.o rfl dX8_copyFrom_2 ?_
  refine pf_X8_32 hB hS1.o (by first | exact Or.inl rfl | (simp only [ftA]; omega) | (simp [ftA]; omega)) hS rfl rfl (Nat.le_of_ble_eq_true rfl) dX8_copyFrom_5 (fun H locs hwr => ?_)
  have ho := hwr.2.1
  have hz := hwr.2.2.1
  obtain ⟨hS1, hS⟩ := hS1.w_t0 hwr
  have hS2 := hS2.kept (fun q9 h1 h2 => ho q9 (by omega))
  refine lv_aload_n hx hb dX8_copyFrom_8 rfl (lv_at hl 0 rfl) ?_
  refine lv_aload_n hx hb dX8_copyFrom_9 rfl (lv_at hl 1 rfl) ?_
  refine gf_X8_71 hB hS2.o rfl dX8_copyFrom_10 ?_
  refine pf_X8_71 hB hS1.o (by first | exact Or.inl rfl | (simp only [ftA]; omega) | (simp [ftA]; omega)) hS rfl rfl (Nat.le_of_ble_eq_true rfl) dX8_copyFrom_13 (fun H locs hwr => ?_)
  have ho := hwr.2.1
  have hz := hwr.2.2.1
  obtain ⟨hS1, hS⟩ := hS1.w_t1 hwr
  have hS2 := hS2.kept (fun q9 h1 h2 => ho q9 (by omega))
  refine lv_aload_n hx hb dX8_copyFrom_16 rfl (lv_at hl 0 rfl) ?_
  refine lv_aload_n hx hb dX8_copyFrom_17 rfl (lv_at hl 1 rfl) ?_
  refine gf_X8_113 hB hS2.o rfl dX8_copyFrom_18 ?_
  refine pf_X8_113 hB hS1.o (by first | exact Or.inl rfl | (simp only [ftA]; omega) | (simp [ftA]; omega)) hS rfl rfl (Nat.le_of_ble_eq_true rfl) dX8_copyFrom_21 (fun H locs hwr => ?_)
  have ho := hwr.2.1
  have hz := hwr.2.2.1
  obtain ⟨hS1, hS⟩ := hS1.w_t2 hwr
  have hS2 := hS2.kept (fun q9 h1 h2 => ho q9 (by omega))
  refine lv_aload_n hx hb dX8_copyFrom_24 rfl (lv_at hl 0 rfl) ?_
  refine lv_aload_n hx hb dX8_copyFrom_25 rfl (lv_at hl 1 rfl) ?_
  refine gf_X8_116 hB hS2.o rfl dX8_copyFrom_26 ?_
  refine pf_X8_116 hB hS1.o (by first | exact Or.inl rfl | (simp only [ftA]; omega) | (simp [ftA]; omega)) hS rfl rfl (Nat.le_of_ble_eq_true rfl) dX8_copyFrom_29 (fun H locs hwr => ?_)
  have ho := hwr.2.1
  have hz := hwr.2.2.1
  obtain ⟨hS1, hS⟩ := hS1.w_t3 hwr
  have hS2 := hS2.kept (fun q9 h1 h2 => ho q9 (by omega))
  refine lv_aload_n hx hb dX8_copyFrom_32 rfl (lv_at hl 0 rfl) ?_
  refine lv_aload_n hx hb dX8_copyFrom_33 rfl (lv_at hl 1 rfl) ?_
  refine gf_X8_119 hB hS2.o rfl dX8_copyFrom_34 ?_
  refine pf_X8_119 hB hS1.o (by first | exact Or.inl rfl | (simp only [ftA]; omega) | (simp [ftA]; omega)) hS rfl rfl (Nat.le_of_ble_eq_true rfl) dX8_copyFrom_37 (fun H locs hwr => ?_)
  have ho := hwr.2.1
  have hz := hwr.2.2.1
  obtain ⟨hS1, hS⟩ := hS1.w_t4 hwr
  have hS2 := hS2.kept (fun q9 h1 h2 => ho q9 (by omega))
  refine lv_aload_n hx hb dX8_copyFrom_40 rfl (lv_at hl 0 rfl) ?_
  refine lv_aload_n hx hb dX8_copyFrom_41 rfl (lv_at hl 1 rfl) ?_
  refine cl_X8_159 (As := [.ref ob]) (rest := []) hB (c_X8_copyMembers l g H sb (upd (upd (upd (upd (upd z 0 (z2 0)) 1 (z2 1)) 2 (z2 2)) 3 (z2 3)) 4 (z2 4)) P ob z2 P2 hS1 hS2 (by first | assumption | omega)) hS1.o rfl hl.1 (Nat.le_of_ble_eq_true rfl) dX8_copyFrom_42 ⟨Nat.le_of_ble_eq_true rfl, Nat.le_of_ble_eq_true rfl⟩ ⟨Nat.le_of_ble_eq_true rfl, Nat.le_of_ble_eq_true rfl⟩ hS (by have hz9 := hS.1; rintro q (h | h) <;> first | exact Or.inr (by omega) | exact h.elim | exact Or.inl h | (simp only [ftA] at h ⊢; omega)) (fun v H1 locs hpo hfr hS => ?_)
  obtain ⟨rfl, hS1⟩ := hpo
  have hS2 := hS2.keptF hfr (fun q9 h1 h2 => by first | omega | exact fun y => y.elim)
  generalize H1 = H at hfr hS hS2 hS1 ⊢
  refine W.widen (k := 0) (n := 0) (Nat.le_of_ble_eq_true rfl) (Nat.le_of_ble_eq_true rfl) ?_
  refine lv_aload_n hx hb dX8_copyFrom_45 rfl (lv_at hl 0 rfl) ?_
  refine lv_aload_n hx hb dX8_copyFrom_46 rfl (lv_at hl 1 rfl) ?_
  refine cl_X8_163 (As := [.ref ob]) (rest := []) hB (c_X8_copyCloths l g H sb (cpM (upd (upd (upd (upd (upd z 0 (z2 0)) 1 (z2 1)) 2 (z2 2)) 3 (z2 3)) 4 (z2 4)) z2 5) P ob z2 P2 hS1 hS2 (by first | assumption | omega)) hS1.o rfl hl.1 (Nat.le_of_ble_eq_true rfl) dX8_copyFrom_47 ⟨Nat.le_of_ble_eq_true rfl, Nat.le_of_ble_eq_true rfl⟩ ⟨Nat.le_of_ble_eq_true rfl, Nat.le_of_ble_eq_true rfl⟩ hS (by have hz9 := hS.1; rintro q (h | h) <;> first | exact Or.inr (by omega) | exact h.elim | exact Or.inl h | (simp only [ftA] at h ⊢; omega)) (fun v H1 locs hpo hfr hS => ?_)
  obtain ⟨rfl, hS1⟩ := hpo
  have hS2 := hS2.keptF hfr (fun q9 h1 h2 => by first | omega | exact fun y => y.elim)
  generalize H1 = H at hfr hS hS2 hS1 ⊢
  refine W.widen (k := 0) (n := 0) (Nat.le_of_ble_eq_true rfl) (Nat.le_of_ble_eq_true rfl) ?_
  refine lv_aload_n hx hb dX8_copyFrom_50 rfl (lv_at hl 0 rfl) ?_
  refine lv_aload_n hx hb dX8_copyFrom_51 rfl (lv_at hl 1 rfl) ?_
  refine cl_X8_166 (As := [.ref ob]) (rest := []) hB (c_X8_copyFrames l g H sb (cpC (cpM (upd (upd (upd (upd (upd z 0 (z2 0)) 1 (z2 1)) 2 (z2 2)) 3 (z2 3)) 4 (z2 4)) z2 5) z2 6) P ob z2 P2 hS1 hS2 (by first | assumption | omega)) hS1.o rfl hl.1 (Nat.le_of_ble_eq_true rfl) dX8_copyFrom_52 ⟨Nat.le_of_ble_eq_true rfl, Nat.le_of_ble_eq_true rfl⟩ ⟨Nat.le_of_ble_eq_true rfl, Nat.le_of_ble_eq_true rfl⟩ hS (by have hz9 := hS.1; rintro q (h | h) <;> first | exact Or.inr (by omega) | exact h.elim | exact Or.inl h | (simp only [ftA] at h ⊢; omega)) (fun v H1 locs hpo hfr hS => ?_)
  obtain ⟨rfl, hS1⟩ := hpo
  have hS2 := hS2.keptF hfr (fun q9 h1 h2 => by first | omega | exact fun y => y.elim)
  generalize H1 = H at hfr hS hS2 hS1 ⊢
  refine W.widen (k := 0) (n := 0) (Nat.le_of_ble_eq_true rfl) (Nat.le_of_ble_eq_true rfl) ?_
  refine mh_vret hB ⟨Nat.le_of_ble_eq_true rfl, Nat.le_of_ble_eq_true rfl⟩ hS dX8_copyFrom_55 ⟨?_, ?_⟩
  · rfl
  · exact hS1.congr cp_all (fun k hk => if_pos hk)

def rm_c_X8_storedAt : Room := { frames := 0, cells := 0, slots := 0, locals := 0 }
set_option maxRecDepth 100000 in
set_option maxHeartbeats 400000 in
theorem c_X8_storedAt (l : Launch) (g : GG) (H0 : Heap) (ra : Nat) (n9 : Nat) (F9 : Nat → Option Nat) (k : Nat) (t9 : Nat) (hqa : at_ g H0 ra (eQ g 7 n9 F9)) (hk : k < n9) (hn9 : n9 < 2147483648) (hF9 : F9 k = some t9) : Ct l yX8_storedAt cX8_storedAt 2 (some (.object "QuiltGuild$State")) rm_c_X8_storedAt g [.ref ra, .int (nI k)] H0 (ftA (fun _ => False) H0.size) (fun v H1 => v = some (.ref t9) ∧ H0 = H1) := by
  refine Ct.of (by decide) (fun _ h => Or.inr h) (Nat.le_of_ble_eq_true rfl) ?_
  intro p e s m below meth c ls hB hin hS hH hl
  have hx := hB.x
  have hb := hB.b
  have hl : lv_has ls 2 [(0, .ref ra), (1, .int (nI k))] := hl
  refine lv_iload_n hx hb dX8_storedAt_0 rfl (lv_at hl 1 rfl) ?_
  refine mn_if_lt (tgt := 16) hB dX8_storedAt_1 (by decide) (by omega) (fun h => by exfalso; omega) (fun h_1 => ?_)
  refine lv_iload_n hx hb dX8_storedAt_4 rfl (lv_at hl 1 rfl) ?_
  refine lv_aload_n hx hb dX8_storedAt_5 rfl (lv_at hl 0 rfl) ?_
  refine mh_alen hB 7 rfl hqa dX8_storedAt_6 ?_
  refine mn_icmp_ge (tgt := 16) hB dX8_storedAt_7 (by decide) (by omega) (by omega) (fun h => by exfalso; omega) (fun h_7 => ?_)
  refine lv_aload_n hx hb dX8_storedAt_10 rfl (lv_at hl 0 rfl) ?_
  refine lv_iload_n hx hb dX8_storedAt_11 rfl (lv_at hl 1 rfl) ?_
  refine mn_qald 7 rfl hB hqa (by omega) (by omega) (y := t9) (hF9) dX8_storedAt_12 ?_
  refine lv_goto (tgt := 17) hx hb dX8_storedAt_13 (by decide) ?_
  refine mh_aret hB (Or.inr ⟨_, rfl⟩) ⟨Nat.le_of_ble_eq_true rfl, Nat.le_of_ble_eq_true rfl⟩ hS dX8_storedAt_17 ⟨?_, rfl⟩
  · rfl

def rm_c_X8_storedAt_n : Room := { frames := 0, cells := 0, slots := 0, locals := 0 }
set_option maxRecDepth 100000 in
set_option maxHeartbeats 400000 in
theorem c_X8_storedAt_n (l : Launch) (g : GG) (H0 : Heap) (ra : Nat) (n9 : Nat) (F9 : Nat → Option Nat) (k : Nat) (hqa : at_ g H0 ra (eQ g 7 n9 F9)) (hk : k < n9) (hn9 : n9 < 2147483648) (hF9 : F9 k = none) : Ct l yX8_storedAt cX8_storedAt 2 (some (.object "QuiltGuild$State")) rm_c_X8_storedAt_n g [.ref ra, .int (nI k)] H0 (ftA (fun _ => False) H0.size) (fun v H1 => v = some (.null) ∧ H0 = H1) := by
  refine Ct.of (by decide) (fun _ h => Or.inr h) (Nat.le_of_ble_eq_true rfl) ?_
  intro p e s m below meth c ls hB hin hS hH hl
  have hx := hB.x
  have hb := hB.b
  have hl : lv_has ls 2 [(0, .ref ra), (1, .int (nI k))] := hl
  refine lv_iload_n hx hb dX8_storedAt_0 rfl (lv_at hl 1 rfl) ?_
  refine mn_if_lt (tgt := 16) hB dX8_storedAt_1 (by decide) (by omega) (fun h => by exfalso; omega) (fun h_1 => ?_)
  refine lv_iload_n hx hb dX8_storedAt_4 rfl (lv_at hl 1 rfl) ?_
  refine lv_aload_n hx hb dX8_storedAt_5 rfl (lv_at hl 0 rfl) ?_
  refine mh_alen hB 7 rfl hqa dX8_storedAt_6 ?_
  refine mn_icmp_ge (tgt := 16) hB dX8_storedAt_7 (by decide) (by omega) (by omega) (fun h => by exfalso; omega) (fun h_7 => ?_)
  refine lv_aload_n hx hb dX8_storedAt_10 rfl (lv_at hl 0 rfl) ?_
  refine lv_iload_n hx hb dX8_storedAt_11 rfl (lv_at hl 1 rfl) ?_
  refine mn_qaldN 7 rfl hB hqa (by omega) (by omega) (hF9) dX8_storedAt_12 ?_
  refine lv_goto (tgt := 17) hx hb dX8_storedAt_13 (by decide) ?_
  refine mh_aret hB (Or.inl rfl) ⟨Nat.le_of_ble_eq_true rfl, Nat.le_of_ble_eq_true rfl⟩ hS dX8_storedAt_17 ⟨?_, rfl⟩
  · rfl

def rm_c_X8_storeAt : Room := { frames := 4, cells := 26, slots := 126, locals := 88 }
set_option maxRecDepth 100000 in
set_option maxHeartbeats 400000 in
theorem c_X8_storeAt (l : Launch) (g : GG) (H0 : Heap) (ra : Nat) (n9 : Nat) (F9 : Nat → Option Nat) (k : Nat) (t9 : Nat) (z9 : Nat → Int32) (P9 : Nat → Option Nat) (sb : Nat) (z : Nat → Int32) (P : Nat → Option Nat) (hqa : at_ g H0 ra (eQ g 7 n9 F9)) (hk : k < n9) (hn9 : n9 < 2147483648) (hF9 : F9 k = some t9) (hS3 : StAt g t9 z9 P9 H0) (hS1 : StAt g sb z P H0) (hdis : sb + 26 ≤ t9 ∨ t9 + 26 ≤ sb) (hdr : ra < t9 ∨ t9 + 26 ≤ ra) : Ct l yX8_storeAt cX8_storeAt 4 none rm_c_X8_storeAt g [.ref ra, .int (nI k), .ref sb] H0 (ftA (fun q9 => t9 ≤ q9 ∧ q9 < t9 + 26) H0.size) (fun v H1 => v = none ∧ StAt g t9 z P H1) := by
  refine Ct.of (by decide) (fun _ h => Or.inr h) (Nat.le_of_ble_eq_true rfl) ?_
  intro p e s m below meth c ls hB hin hS hH hl
  have hx := hB.x
  have hb := hB.b
  have hl : lv_has ls 4 [(0, .ref ra), (1, .int (nI k)), (2, .ref sb)] := hl
  refine lv_iload_n hx hb dX8_storeAt_0 rfl (lv_at hl 1 rfl) ?_
  refine mn_if_lt (tgt := 10) hB dX8_storeAt_1 (by decide) (by omega) (fun h => by exfalso; omega) (fun h_1 => ?_)
  refine lv_iload_n hx hb dX8_storeAt_4 rfl (lv_at hl 1 rfl) ?_
  refine lv_aload_n hx hb dX8_storeAt_5 rfl (lv_at hl 0 rfl) ?_
  refine mh_alen hB 7 rfl hqa dX8_storeAt_6 ?_
  refine mn_icmp_lt (tgt := 11) hB dX8_storeAt_7 (by decide) (by omega) (by omega) (fun h_7 => ?_) (fun h => by exfalso; omega)
  refine lv_aload_n hx hb dX8_storeAt_11 rfl (lv_at hl 0 rfl) ?_
  refine lv_iload_n hx hb dX8_storeAt_12 rfl (lv_at hl 1 rfl) ?_
  refine mn_qald 7 rfl hB hqa (by omega) (by omega) (y := t9) (hF9) dX8_storeAt_13 ?_
  refine lv_astore_n (lv' := [(3, .ref t9), (0, .ref ra), (1, .int (nI k)), (2, .ref sb)]) hx hb dX8_storeAt_14 rfl hl (by decide) rfl (fun ls hl => ?_)
  refine lv_aload_n hx hb dX8_storeAt_15 rfl (lv_at hl 0 rfl) ?_
  refine lv_ifnonnull (tgt := 31) hx hb dX8_storeAt_16 (by decide) ?_
  refine lv_aload_n hx hb dX8_storeAt_31 rfl (lv_at hl 0 rfl) ?_
  refine lv_aload_n hx hb dX8_storeAt_32 rfl (lv_at hl 3 rfl) ?_
  refine cl_X8_180 (As := [.ref sb]) (rest := []) hB (c_X8_copyFrom l g H0 t9 z9 P9 sb z P hS3 hS1 (by omega)) hS3.o rfl hl.1 (Nat.le_of_ble_eq_true rfl) dX8_storeAt_33 ⟨Nat.le_of_ble_eq_true rfl, Nat.le_of_ble_eq_true rfl⟩ ⟨Nat.le_of_ble_eq_true rfl, Nat.le_of_ble_eq_true rfl⟩ hS (by have hz9 := hS.1; rintro q (h | h) <;> first | exact Or.inr (by omega) | exact h.elim | exact Or.inl h | (simp only [ftA] at h ⊢; omega)) (fun v H1 locs hpo hfr hS => ?_)
  obtain ⟨rfl, hS3⟩ := hpo
  have hqa := Fr.keep hfr hqa (by first | omega | exact fun y => y.elim)
  have hS1 := hS1.keptF hfr (fun q9 h1 h2 => by first | omega | exact fun y => y.elim)
  generalize H1 = H at hfr hS hqa hS1 hS3 ⊢
  refine W.widen (k := 0) (n := 0) (Nat.le_of_ble_eq_true rfl) (Nat.le_of_ble_eq_true rfl) ?_
  refine mh_vret hB ⟨Nat.le_of_ble_eq_true rfl, Nat.le_of_ble_eq_true rfl⟩ hS dX8_storeAt_36 ⟨?_, ?_⟩
  · rfl
  · exact hS3

def rm_c_X8_storeAt_n : Room := { frames := 4, cells := 26, slots := 126, locals := 88 }
set_option maxRecDepth 100000 in
set_option maxHeartbeats 400000 in
theorem c_X8_storeAt_n (l : Launch) (g : GG) (H0 : Heap) (ra : Nat) (n9 : Nat) (F9 : Nat → Option Nat) (k : Nat) (sb : Nat) (z : Nat → Int32) (P : Nat → Option Nat) (n0 : Nat) (hqa : at_ g H0 ra (eQ g 7 n9 F9)) (hk : k < n9) (hn9 : n9 < 2147483648) (hF9 : F9 k = none) (hS1 : StAt g sb z P H0) (hdr : ra < sb ∨ sb + 26 ≤ ra) (hsz : H0.size = n0) : Ct l yX8_storeAt cX8_storeAt 4 none rm_c_X8_storeAt_n g [.ref ra, .int (nI k), .ref sb] H0 (ftA (fun q9 => q9 = ra) H0.size) (fun v H1 => v = none ∧ StAt g n0 z P H1 ∧ at_ g H1 ra (eQ g 7 n9 (va_up F9 k (some n0)))) := by
  refine Ct.of (by decide) (fun _ h => Or.inr h) (Nat.le_of_ble_eq_true rfl) ?_
  intro p e s m below meth c ls hB hin hS hH hl
  have hx := hB.x
  have hb := hB.b
  have hl : lv_has ls 4 [(0, .ref ra), (1, .int (nI k)), (2, .ref sb)] := hl
  have hsz0 := hsz
  have hral := hqa.lt
  have hsbl := hS1.lt
  refine lv_iload_n hx hb dX8_storeAt_0 rfl (lv_at hl 1 rfl) ?_
  refine mn_if_lt (tgt := 10) hB dX8_storeAt_1 (by decide) (by omega) (fun h => by exfalso; omega) (fun h_1 => ?_)
  refine lv_iload_n hx hb dX8_storeAt_4 rfl (lv_at hl 1 rfl) ?_
  refine lv_aload_n hx hb dX8_storeAt_5 rfl (lv_at hl 0 rfl) ?_
  refine mh_alen hB 7 rfl hqa dX8_storeAt_6 ?_
  refine mn_icmp_lt (tgt := 11) hB dX8_storeAt_7 (by decide) (by omega) (by omega) (fun h_7 => ?_) (fun h => by exfalso; omega)
  refine lv_aload_n hx hb dX8_storeAt_11 rfl (lv_at hl 0 rfl) ?_
  refine lv_iload_n hx hb dX8_storeAt_12 rfl (lv_at hl 1 rfl) ?_
  refine mn_qaldN 7 rfl hB hqa (by omega) (by omega) (hF9) dX8_storeAt_13 ?_
  refine lv_astore_nN (lv' := [(3, .null), (0, .ref ra), (1, .int (nI k)), (2, .ref sb)]) hx hb dX8_storeAt_14 rfl hl (by decide) rfl (fun ls hl => ?_)
  refine lv_aload_nN hx hb dX8_storeAt_15 rfl (lv_at hl 0 rfl) ?_
  refine lv_ifnonnullN hx hb dX8_storeAt_16 ?_
  refine nw_X8_12 hB hS (Nat.le_of_ble_eq_true rfl) (Nat.le_of_ble_eq_true rfl) dX8_storeAt_19 (fun H1 hwr => ?_)
  obtain ⟨hq0, ho, hz, hS⟩ := hwr
  have hqa := hqa.kept (ho _ hqa.lt)
  have hS1 := hS1.kept (fun q9 h1 h2 => ho q9 (by have := hS1.lt; omega))
  rw [hsz] at hq0 hz
  refine mh_top (congrArg Value.ref hsz) ?_
  have hsz := hz
  generalize H1 = H at hq0 hS hsz hqa hS1 ⊢
  refine W.widen (k := 1) (n := 8) (Nat.le_of_ble_eq_true rfl) (Nat.le_of_ble_eq_true rfl) ?_
  refine lv_dup hx hb dX8_storeAt_22 rfl ?_
  refine cl_X8_179 (As := []) (rest := [.ref n0]) hB (c_X8_init l g H n0 hq0 (by assumption)) rfl hl.1 (Nat.le_of_ble_eq_true rfl) dX8_storeAt_23 ⟨Nat.le_of_ble_eq_true rfl, Nat.le_of_ble_eq_true rfl⟩ ⟨Nat.le_of_ble_eq_true rfl, Nat.le_of_ble_eq_true rfl⟩ hS (by have hz9 := hS.1; rintro q (h | h) <;> first | exact Or.inr (by omega) | exact h.elim | exact Or.inl h | (simp only [ftA] at h ⊢; omega)) (fun v H1 locs hpo hfr hS => ?_)
  obtain ⟨rfl, hS3, hsz⟩ := hpo
  have hqa := Fr.keep hfr hqa (by first | omega | exact fun y => y.elim)
  have hS1 := hS1.keptF hfr (fun q9 h1 h2 => by first | omega | exact fun y => y.elim)
  generalize H1 = H at hfr hS hqa hS1 hS3 hsz ⊢
  refine W.widen (k := 26) (n := 126) (Nat.le_of_ble_eq_true rfl) (Nat.le_of_ble_eq_true rfl) ?_
  refine lv_astore_n (lv' := [(3, .ref n0), (0, .ref ra), (1, .int (nI k)), (2, .ref sb)]) hx hb dX8_storeAt_26 rfl hl (by decide) rfl (fun ls hl => ?_)
  refine lv_aload_n hx hb dX8_storeAt_27 rfl (lv_at hl 1 rfl) ?_
  refine lv_iload_n hx hb dX8_storeAt_28 rfl (lv_at hl 2 rfl) ?_
  refine lv_aload_n hx hb dX8_storeAt_29 rfl (lv_at hl 0 rfl) ?_
  refine mn_qast 7 rfl rfl hB hqa (by first | exact Or.inl rfl | (simp only [ftA]; omega) | (simp [ftA]; omega)) hS3.o hS (by omega) (by omega) dX8_storeAt_30 (fun H locs hwr => ?_)
  obtain ⟨hqa, ho, hz, hS⟩ := hwr
  have hS1 := hS1.kept (fun q9 h1 h2 => ho q9 (by omega))
  have hS3 := hS3.kept (fun q9 h1 h2 => ho q9 (by omega))
  have hsz := hz.trans hsz
  refine lv_aload_n hx hb dX8_storeAt_31 rfl (lv_at hl 0 rfl) ?_
  refine lv_aload_n hx hb dX8_storeAt_32 rfl (lv_at hl 3 rfl) ?_
  refine cl_X8_180 (As := [.ref sb]) (rest := []) hB (c_X8_copyFrom l g H n0 (fun _ => 0) (fun _ => none) sb z P hS3 hS1 (by omega)) hS3.o rfl hl.1 (Nat.le_of_ble_eq_true rfl) dX8_storeAt_33 ⟨Nat.le_of_ble_eq_true rfl, Nat.le_of_ble_eq_true rfl⟩ ⟨Nat.le_of_ble_eq_true rfl, Nat.le_of_ble_eq_true rfl⟩ hS (by have hz9 := hS.1; rintro q (h | h) <;> first | exact Or.inr (by omega) | exact h.elim | exact Or.inl h | (simp only [ftA] at h ⊢; omega)) (fun v H1 locs hpo hfr hS => ?_)
  obtain ⟨rfl, hS3⟩ := hpo
  have hqa := Fr.keep hfr hqa (by first | omega | exact fun y => y.elim)
  have hS1 := hS1.keptF hfr (fun q9 h1 h2 => by first | omega | exact fun y => y.elim)
  generalize H1 = H at hfr hS hqa hS1 hS3 ⊢
  refine W.widen (k := 26) (n := 126) (Nat.le_of_ble_eq_true rfl) (Nat.le_of_ble_eq_true rfl) ?_
  refine mh_vret hB ⟨Nat.le_of_ble_eq_true rfl, Nat.le_of_ble_eq_true rfl⟩ hS dX8_storeAt_36 ⟨?_, ?_, ?_⟩
  · rfl
  · exact hS3
  · exact hqa

def rm_c_X8_cutUp : Room := { frames := 3, cells := 0, slots := 0, locals := 69 }
set_option maxRecDepth 100000 in
set_option maxHeartbeats 400000 in
theorem c_X8_cutUp (l : Launch) (g : GG) (H0 : Heap) (sb : Nat) (P : Nat → Option Nat) (D : Nat → Prop) (q : Nat → Int32) (f : Nat) (hS1 : StAt g sb (zOf q) P H0) (hPT : PT g D P q H0) (hD : ∀ q9, sb ≤ q9 → q9 < sb + 26 → D q9) (hW : WF q) (hf : f < 3) : Ct l yX8_cutUp cX8_cutUp 6 (some .int) rm_c_X8_cutUp g [.ref sb, .ref (sb + (20 + 2 * f))] H0 (ftA (fun q9 => sb ≤ q9 ∧ q9 < sb + 26) H0.size) (fun v H1 => v = some (.int (nI (swF q f))) ∧ StAt g sb (zOf (tapQ q f)) (va_up P f none) H1 ∧ PT g D (va_up P f none) (tapQ q f) H1) := by
  refine Ct.of (by decide) (fun _ h => Or.inr h) (Nat.le_of_ble_eq_true rfl) ?_
  intro p e s m below meth c ls hB hin hS hH hl
  have hx := hB.x
  have hb := hB.b
  have hl : lv_has ls 6 [(0, .ref sb), (1, .ref (sb + (20 + 2 * f)))] := hl
  have hz9 := WF.sz (hW.fr hf)
  have hw9 := WF.sw (hW.fr hf)
  refine lv_aload_n hx hb dX8_cutUp_0 rfl (lv_at hl 1 rfl) ?_
  refine gf_X8_91 hB (hS1.of (k := f) (by omega)) rfl dX8_cutUp_1 ?_
  refine mh_top (y := .int (nI (swF q f))) (by rw [zOf_fS hf, (hW.fr hf).s]) ?_
  refine lv_istore_n (lv' := [(2, .int (nI (swF q f))), (0, .ref sb), (1, .ref (sb + (20 + 2 * f)))]) hx hb dX8_cutUp_4 rfl hl (by decide) rfl (fun ls hl => ?_)
  refine lv_iconst (v := nI 0) hx hb dX8_cutUp_5 (by decide) ?_
  refine lv_istore_n (lv' := [(3, .int (nI 0)), (2, .int (nI (swF q f))), (0, .ref sb), (1, .ref (sb + (20 + 2 * f)))]) hx hb dX8_cutUp_6 rfl hl (by decide) rfl (fun ls hl => ?_)
  refine mh_loop (σ := Nat) (fun xx9 H locs ls => match xx9 with | c9 => c9 ≤ 6 ∧ StAt g sb (cutZ (zOf q) q f (swF q f) c9) P H ∧ PT g D P q H ∧ va_S (ftA (fun q9 => sb ≤ q9 ∧ q9 < sb + 26) H0.size) H0 H locs ∧ lv_has ls 6 [(0, .ref sb), (1, .ref (sb + (20 + 2 * f))), (2, .int (nI (swF q f))), (3, .int (nI c9))]) (fun xx9 => match xx9 with | c9 => 6 - c9) ?_ 0 ⟨(by omega), hS1, hPT, hS, lv_sub hl [2, 3, 1, 0] rfl⟩
  rintro c9 H locs ls ⟨hc9, hS1, hPT, hS, hl⟩ ih
  have ih7 := ih
  refine lv_iload_n hx hb dX8_cutUp_7 rfl (lv_at hl 3 rfl) ?_
  refine lv_bipush (v := nI 6) hx hb dX8_cutUp_8 (by decide) ?_
  refine mn_icmp_ge (tgt := 64) hB dX8_cutUp_10 (by decide) (by omega) (by omega) (fun h_10 => ?_) (fun h_10 => ?_)
  · skip
    have hin9 : c9 = 6 := by omega
    subst hin9
    refine lv_aload_n hx hb dX8_cutUp_64 rfl (lv_at hl 1 rfl) ?_
    refine lv_null hx hb dX8_cutUp_65 ?_
    refine cl_X8_99 (As := [.null]) (rest := []) hB (c_X1_putOn_n l g H sb (cutZ (zOf q) q f (swF q f) 6) P f hS1 (by first | assumption | omega)) (hS1.of (k := f) (by omega)) rfl hl.1 (Nat.le_of_ble_eq_true rfl) dX8_cutUp_66 ⟨Nat.le_of_ble_eq_true rfl, Nat.le_of_ble_eq_true rfl⟩ ⟨Nat.le_of_ble_eq_true rfl, Nat.le_of_ble_eq_true rfl⟩ hS (by have hz9 := hS.1; rintro q (h | h) <;> first | exact Or.inr (by omega) | exact h.elim | exact Or.inl h | (simp only [ftA] at h ⊢; omega)) (fun v H1 locs hpo hfr hS => ?_)
    obtain ⟨rfl, hS1⟩ := hpo
    have hPT := hPT.keptF hfr (fun q9 hq9 => by first | exact hq9.elim | exact hD q9 (by have := hq9; omega) (by have := hq9; omega))
    generalize H1 = H at hfr hS hPT hS1 ⊢
    refine W.widen (k := 0) (n := 0) (Nat.le_of_ble_eq_true rfl) (Nat.le_of_ble_eq_true rfl) ?_
    refine lv_iload_n hx hb dX8_cutUp_69 rfl (lv_at hl 2 rfl) ?_
    refine mh_iret hB ⟨Nat.le_of_ble_eq_true rfl, Nat.le_of_ble_eq_true rfl⟩ hS dX8_cutUp_70 ⟨?_, ?_, ?_⟩
    · rfl
    · exact hS1.congr (tap_z hf hW) (fun _ _ => rfl)
    · exact hPT.emp hW (emp_dim _ f) (fun f2 hf2 hne j a b => tap_off (hW.fr hf) (by omega) (by omega))
  · skip
    refine lv_aload_n hx hb dX8_cutUp_13 rfl (lv_at hl 0 rfl) ?_
    refine lv_iload_n hx hb dX8_cutUp_14 rfl (lv_at hl 3 rfl) ?_
    refine cl_X8_44 (As := [.int (nI c9)]) (rest := []) hB (c_X8_clothAt l g H sb (cutZ (zOf q) q f (swF q f) c9) P c9 hS1 (by omega)) hS1.o rfl hl.1 (Nat.le_of_ble_eq_true rfl) dX8_cutUp_15 ⟨Nat.le_of_ble_eq_true rfl, Nat.le_of_ble_eq_true rfl⟩ ⟨Nat.le_of_ble_eq_true rfl, Nat.le_of_ble_eq_true rfl⟩ hS (by have hz9 := hS.1; rintro q (h | h) <;> first | exact Or.inr (by omega) | exact h.elim | exact Or.inl h | (simp only [ftA] at h ⊢; omega)) (fun v H1 locs hpo hfr hS => ?_)
    obtain ⟨rfl, rfl⟩ := hpo
    refine W.widen (k := 0) (n := 0) (Nat.le_of_ble_eq_true rfl) (Nat.le_of_ble_eq_true rfl) ?_
    refine lv_astore (lv' := [(4, .ref (sb + (14 + c9))), (0, .ref sb), (1, .ref (sb + (20 + 2 * f))), (2, .int (nI (swF q f))), (3, .int (nI c9))]) hx hb dX8_cutUp_18 hl (by decide) rfl (fun ls hl => ?_)
    refine lv_aload hx hb dX8_cutUp_20 (lv_at hl 0 rfl) ?_
    refine lv_ifnull hx hb dX8_cutUp_22 ?_
    refine lv_aload_n hx hb dX8_cutUp_25 rfl (lv_at hl 2 rfl) ?_
    refine lv_iload_n hx hb dX8_cutUp_26 rfl (lv_at hl 4 rfl) ?_
    refine lv_iconst (v := nI 0) hx hb dX8_cutUp_27 (by decide) ?_
    refine lv_iload_n hx hb dX8_cutUp_28 rfl (lv_at hl 3 rfl) ?_
    refine cl_X8_92 (As := [.int (nI c9), .int (nI 0), .int (nI (swF q f))]) (rest := []) hB (c_X1_patchesOf l g H sb (cutZ (zOf q) q f (swF q f) c9) P D q f c9 0 (swF q f) hS1 hPT (by first | assumption | omega) (by omega) (by omega) (hw9)) (hS1.of (k := f) (by omega)) rfl hl.1 (Nat.le_of_ble_eq_true rfl) dX8_cutUp_29 ⟨Nat.le_of_ble_eq_true rfl, Nat.le_of_ble_eq_true rfl⟩ ⟨Nat.le_of_ble_eq_true rfl, Nat.le_of_ble_eq_true rfl⟩ hS (by have hz9 := hS.1; rintro q (h | h) <;> first | exact Or.inr (by omega) | exact h.elim | exact Or.inl h | (simp only [ftA] at h ⊢; omega)) (fun v H1 locs hpo hfr hS => ?_)
    obtain ⟨rfl, rfl⟩ := hpo
    refine W.widen (k := 0) (n := 0) (Nat.le_of_ble_eq_true rfl) (Nat.le_of_ble_eq_true rfl) ?_
    refine mh_top (y := .int (nI (cntC q f c9 0 (swF q f)))) (rfl) ?_
    refine lv_istore (lv' := [(5, .int (nI (cntC q f c9 0 (swF q f)))), (4, .ref (sb + (14 + c9))), (0, .ref sb), (1, .ref (sb + (20 + 2 * f))), (2, .int (nI (swF q f))), (3, .int (nI c9))]) hx hb dX8_cutUp_32 hl (by decide) rfl (fun ls hl => ?_)
    refine lv_aload hx hb dX8_cutUp_34 (lv_at hl 1 rfl) ?_
    refine lv_dup hx hb dX8_cutUp_36 rfl ?_
    refine gf_X8_88 hB (hS1.oc (k := c9) (by omega)) rfl dX8_cutUp_37 ?_
    refine lv_iload hx hb dX8_cutUp_40 (lv_at hl 0 rfl) ?_
    refine lv_isub hx hb dX8_cutUp_42 ?_
    refine pf_X8_88 hB (hS1.oc (k := c9) (by omega)) (by first | exact Or.inl rfl | (simp only [ftA]; omega) | (simp [ftA]; omega)) hS rfl rfl (Nat.le_of_ble_eq_true rfl) dX8_cutUp_43 (fun H locs hwr => ?_)
    have ho := hwr.2.1
    have hz := hwr.2.2.1
    obtain ⟨hS1, hS⟩ := hS1.w_cQ (by omega) hwr
    have hPT := hPT.kept (fun q9 hq9 _ => ho q9 (fun e9 => hq9 (by rw [e9]; first | exact hD _ (by omega) (by omega))))
    refine lv_aload hx hb dX8_cutUp_46 (lv_at hl 1 rfl) ?_
    refine lv_dup hx hb dX8_cutUp_48 rfl ?_
    refine gf_X8_96 hB (hS1.oc (k := c9) (by omega)) rfl dX8_cutUp_49 ?_
    refine mh_top (y := .int (cutZ (zOf q) q f (swF q f) c9 (56 + c9))) (by rw [upd_n (by omega)]) ?_
    refine lv_iload hx hb dX8_cutUp_52 (lv_at hl 0 rfl) ?_
    refine lv_iadd hx hb dX8_cutUp_54 ?_
    refine pf_X8_96 hB (hS1.oc (k := c9) (by omega)) (by first | exact Or.inl rfl | (simp only [ftA]; omega) | (simp [ftA]; omega)) hS rfl rfl (Nat.le_of_ble_eq_true rfl) dX8_cutUp_55 (fun H locs hwr => ?_)
    have ho := hwr.2.1
    have hz := hwr.2.2.1
    obtain ⟨hS1, hS⟩ := hS1.w_cX (by omega) hwr
    have hPT := hPT.kept (fun q9 hq9 _ => ho q9 (fun e9 => hq9 (by rw [e9]; first | exact hD _ (by omega) (by omega))))
    refine lv_iinc (v := nI (c9 + 1)) (lv' := [(3, .int (nI (c9 + 1))), (5, .int (nI (cntC q f c9 0 (swF q f)))), (4, .ref (sb + (14 + c9))), (0, .ref sb), (1, .ref (sb + (20 + 2 * f))), (2, .int (nI (swF q f)))]) hx hb dX8_cutUp_58 hl (k := 5) rfl (nI_1 _) (by decide) rfl (fun ls hl => ?_)
    refine lv_goto (tgt := 7) hx hb dX8_cutUp_61 (by decide) ?_
    refine ih7 (c9 + 1) _ _ _ ⟨(by omega), hS1, hPT, hS, lv_sub hl [3, 4, 5, 0] rfl⟩ (by dsimp only; omega)

def rm_c_X8_raffleOff : Room := { frames := 3, cells := 0, slots := 0, locals := 69 }
set_option maxRecDepth 100000 in
set_option maxHeartbeats 400000 in
theorem c_X8_raffleOff (l : Launch) (g : GG) (H0 : Heap) (sb : Nat) (P : Nat → Option Nat) (D : Nat → Prop) (q : Nat → Int32) (f : Nat) (p0 : Nat) (hS1 : StAt g sb (zOf q) P H0) (hPT : PT g D P q H0) (hD : ∀ q9, sb ≤ q9 → q9 < sb + 26 → D q9) (hW : WF q) (hf : f < 3) (hZ : WZ q) (hp0 : p0 < 10000) (h0 : 0 < szF q f) (hfin : swF q f = szF q f) : Ct l yX8_raffleOff cX8_raffleOff 6 (some .int) rm_c_X8_raffleOff g [.ref sb, .ref (sb + (20 + 2 * f)), .int (nI p0)] H0 (ftA (fun q9 => sb ≤ q9 ∧ q9 < sb + 26) H0.size) (fun v H1 => v = some (.int (nI (szF q f))) ∧ StAt g sb (zOf (rafQ q f p0)) (va_up P f none) H1 ∧ PT g D (va_up P f none) (rafQ q f p0) H1) := by
  refine Ct.of (by decide) (fun _ h => Or.inr h) (Nat.le_of_ble_eq_true rfl) ?_
  intro p e s m below meth c ls hB hin hS hH hl
  have hx := hB.x
  have hb := hB.b
  have hl : lv_has ls 6 [(0, .ref sb), (1, .ref (sb + (20 + 2 * f))), (2, .int (nI p0))] := hl
  have hz9 := WF.sz (hW.fr hf)
  have hnm5 := hW.2.2.1
  refine lv_aload_n hx hb dX8_raffleOff_0 rfl (lv_at hl 1 rfl) ?_
  refine cl_X8_103 (As := []) (rest := []) hB (c_X1_patches l g H0 sb (zOf q) P D q f hS1 hPT (by first | assumption | omega)) (hS1.of (k := f) (by omega)) rfl hl.1 (Nat.le_of_ble_eq_true rfl) dX8_raffleOff_1 ⟨Nat.le_of_ble_eq_true rfl, Nat.le_of_ble_eq_true rfl⟩ ⟨Nat.le_of_ble_eq_true rfl, Nat.le_of_ble_eq_true rfl⟩ hS (by have hz9 := hS.1; rintro q (h | h) <;> first | exact Or.inr (by omega) | exact h.elim | exact Or.inl h | (simp only [ftA] at h ⊢; omega)) (fun v H1 locs hpo hfr hS => ?_)
  obtain ⟨rfl, rfl⟩ := hpo
  refine W.widen (k := 0) (n := 0) (Nat.le_of_ble_eq_true rfl) (Nat.le_of_ble_eq_true rfl) ?_
  refine lv_istore_n (lv' := [(3, .int (nI (szF q f))), (0, .ref sb), (1, .ref (sb + (20 + 2 * f))), (2, .int (nI p0))]) hx hb dX8_raffleOff_4 rfl hl (by decide) rfl (fun ls hl => ?_)
  refine lv_iconst (v := nI 0) hx hb dX8_raffleOff_5 (by decide) ?_
  refine lv_istore (lv' := [(4, .int (nI 0)), (3, .int (nI (szF q f))), (0, .ref sb), (1, .ref (sb + (20 + 2 * f))), (2, .int (nI p0))]) hx hb dX8_raffleOff_6 hl (by decide) rfl (fun ls hl => ?_)
  refine mh_loop (σ := Nat) (fun xx9 H locs ls => match xx9 with | m9 => m9 ≤ 5 ∧ StAt g sb (penZ (zOf q) (shrQ q f p0) (nmQ q) m9) P H ∧ PT g D P q H ∧ va_S (ftA (fun q9 => sb ≤ q9 ∧ q9 < sb + 26) H0.size) H0 H locs ∧ lv_has ls 6 [(0, .ref sb), (1, .ref (sb + (20 + 2 * f))), (2, .int (nI p0)), (3, .int (nI (szF q f))), (4, .int (nI m9))]) (fun xx9 => match xx9 with | m9 => 5 - m9) ?_ 0 ⟨(by omega), hS1, hPT, hS, lv_sub hl [2, 3, 4, 1, 0] rfl⟩
  rintro m9 H locs ls ⟨hm9, hS1, hPT, hS, hl⟩ ih
  have ih8 := ih
  have hz0 : (penZ (zOf q) (shrQ q f p0) (nmQ q) m9) 0 = nI (nmQ q) := by rw [penZ_off m9 hm9 (by omega), zOf_lo (by omega), hW.1]
  refine lv_iload hx hb dX8_raffleOff_8 (lv_at hl 4 rfl) ?_
  refine lv_iconst (v := nI 5) hx hb dX8_raffleOff_10 (by decide) ?_
  refine mn_icmp_ge (tgt := 50) hB dX8_raffleOff_11 (by decide) (by omega) (by omega) (fun h_11 => ?_) (fun h_11 => ?_)
  · skip
    have hin9 : m9 = 5 := by omega
    subst hin9
    refine lv_aload_n hx hb dX8_raffleOff_50 rfl (lv_at hl 0 rfl) ?_
    refine lv_dup hx hb dX8_raffleOff_51 rfl ?_
    refine gf_X8_113 hB hS1.o rfl dX8_raffleOff_52 ?_
    refine mh_top (y := .int (q 2)) (by rw [penZ_off 5 (by omega) (by omega), zOf_lo (by omega)]) ?_
    refine lv_iconst (v := nI 1) hx hb dX8_raffleOff_55 (by decide) ?_
    refine lv_iadd hx hb dX8_raffleOff_56 ?_
    refine pf_X8_113 hB hS1.o (by first | exact Or.inl rfl | (simp only [ftA]; omega) | (simp [ftA]; omega)) hS rfl rfl (Nat.le_of_ble_eq_true rfl) dX8_raffleOff_57 (fun H locs hwr => ?_)
    have ho := hwr.2.1
    have hz := hwr.2.2.1
    obtain ⟨hS1, hS⟩ := hS1.w_t2 hwr
    have hPT := hPT.kept (fun q9 hq9 _ => ho q9 (fun e9 => hq9 (by rw [e9]; first | exact hD _ (by omega) (by omega))))
    refine lv_aload_n hx hb dX8_raffleOff_60 rfl (lv_at hl 0 rfl) ?_
    refine lv_dup hx hb dX8_raffleOff_61 rfl ?_
    refine gf_X8_116 hB hS1.o rfl dX8_raffleOff_62 ?_
    refine mh_top (y := .int (q 3)) (by rw [upd_n (by omega), penZ_off 5 (by omega) (by omega), zOf_lo (by omega)]) ?_
    refine lv_iload_n hx hb dX8_raffleOff_65 rfl (lv_at hl 3 rfl) ?_
    refine lv_iadd hx hb dX8_raffleOff_66 ?_
    refine pf_X8_116 hB hS1.o (by first | exact Or.inl rfl | (simp only [ftA]; omega) | (simp [ftA]; omega)) hS rfl rfl (Nat.le_of_ble_eq_true rfl) dX8_raffleOff_67 (fun H locs hwr => ?_)
    have ho := hwr.2.1
    have hz := hwr.2.2.1
    obtain ⟨hS1, hS⟩ := hS1.w_t3 hwr
    have hPT := hPT.kept (fun q9 hq9 _ => ho q9 (fun e9 => hq9 (by rw [e9]; first | exact hD _ (by omega) (by omega))))
    refine lv_aload_n hx hb dX8_raffleOff_70 rfl (lv_at hl 0 rfl) ?_
    refine lv_dup hx hb dX8_raffleOff_71 rfl ?_
    refine gf_X8_119 hB hS1.o rfl dX8_raffleOff_72 ?_
    refine mh_top (y := .int (q 4)) (by rw [upd_n (by omega), upd_n (by omega), penZ_off 5 (by omega) (by omega), zOf_lo (by omega)]) ?_
    refine lv_iload_n hx hb dX8_raffleOff_75 rfl (lv_at hl 2 rfl) ?_
    refine lv_iadd hx hb dX8_raffleOff_76 ?_
    refine pf_X8_119 hB hS1.o (by first | exact Or.inl rfl | (simp only [ftA]; omega) | (simp [ftA]; omega)) hS rfl rfl (Nat.le_of_ble_eq_true rfl) dX8_raffleOff_77 (fun H locs hwr => ?_)
    have ho := hwr.2.1
    have hz := hwr.2.2.1
    obtain ⟨hS1, hS⟩ := hS1.w_t4 hwr
    have hPT := hPT.kept (fun q9 hq9 _ => ho q9 (fun e9 => hq9 (by rw [e9]; first | exact hD _ (by omega) (by omega))))
    refine lv_aload_n hx hb dX8_raffleOff_80 rfl (lv_at hl 1 rfl) ?_
    refine lv_null hx hb dX8_raffleOff_81 ?_
    refine cl_X8_99 (As := [.null]) (rest := []) hB (c_X1_putOn_n l g H sb (upd (upd (upd (penZ (zOf q) (shrQ q f p0) (nmQ q) 5) 2 ((q 2) + (nI 1))) 3 ((q 3) + (nI (szF q f)))) 4 ((q 4) + (nI p0))) P f hS1 (by first | assumption | omega)) (hS1.of (k := f) (by omega)) rfl hl.1 (Nat.le_of_ble_eq_true rfl) dX8_raffleOff_82 ⟨Nat.le_of_ble_eq_true rfl, Nat.le_of_ble_eq_true rfl⟩ ⟨Nat.le_of_ble_eq_true rfl, Nat.le_of_ble_eq_true rfl⟩ hS (by have hz9 := hS.1; rintro q (h | h) <;> first | exact Or.inr (by omega) | exact h.elim | exact Or.inl h | (simp only [ftA] at h ⊢; omega)) (fun v H1 locs hpo hfr hS => ?_)
    obtain ⟨rfl, hS1⟩ := hpo
    have hPT := hPT.keptF hfr (fun q9 hq9 => by first | exact hq9.elim | exact hD q9 (by have := hq9; omega) (by have := hq9; omega))
    generalize H1 = H at hfr hS hPT hS1 ⊢
    refine W.widen (k := 0) (n := 0) (Nat.le_of_ble_eq_true rfl) (Nat.le_of_ble_eq_true rfl) ?_
    refine lv_iload_n hx hb dX8_raffleOff_85 rfl (lv_at hl 3 rfl) ?_
    refine mh_iret hB ⟨Nat.le_of_ble_eq_true rfl, Nat.le_of_ble_eq_true rfl⟩ hS dX8_raffleOff_86 ⟨?_, ?_, ?_⟩
    · rfl
    · exact hS1.congr (raf_z hf hp0 hW hZ h0 hfin) (fun _ _ => rfl)
    · exact hPT.emp hW (emp_dim _ f) (fun f2 hf2 hne j a b => raf_off hW hf (by omega) (by omega))
  · skip
    rcases Nat.lt_or_ge m9 (nmQ q) with hlt | hge
    · skip
      refine lv_aload_n hx hb dX8_raffleOff_14 rfl (lv_at hl 0 rfl) ?_
      refine lv_iload hx hb dX8_raffleOff_15 (lv_at hl 4 rfl) ?_
      refine cl_X8_74 (As := [.int (nI m9)]) (rest := []) hB (c_X8_memberAt l g H sb (penZ (zOf q) (shrQ q f p0) (nmQ q) m9) P m9 (nmQ q) hS1 (hlt) (hz0) (hnm5)) hS1.o rfl hl.1 (Nat.le_of_ble_eq_true rfl) dX8_raffleOff_17 ⟨Nat.le_of_ble_eq_true rfl, Nat.le_of_ble_eq_true rfl⟩ ⟨Nat.le_of_ble_eq_true rfl, Nat.le_of_ble_eq_true rfl⟩ hS (by have hz9 := hS.1; rintro q (h | h) <;> first | exact Or.inr (by omega) | exact h.elim | exact Or.inl h | (simp only [ftA] at h ⊢; omega)) (fun v H1 locs hpo hfr hS => ?_)
      obtain ⟨rfl, rfl⟩ := hpo
      refine W.widen (k := 0) (n := 0) (Nat.le_of_ble_eq_true rfl) (Nat.le_of_ble_eq_true rfl) ?_
      refine lv_astore (lv' := [(5, .ref (sb + (4 + 2 * m9))), (0, .ref sb), (1, .ref (sb + (20 + 2 * f))), (2, .int (nI p0)), (3, .int (nI (szF q f))), (4, .int (nI m9))]) hx hb dX8_raffleOff_20 hl (by decide) rfl (fun ls hl => ?_)
      refine lv_aload hx hb dX8_raffleOff_22 (lv_at hl 0 rfl) ?_
      refine lv_ifnull hx hb dX8_raffleOff_24 ?_
      refine lv_aload hx hb dX8_raffleOff_27 (lv_at hl 0 rfl) ?_
      refine lv_dup hx hb dX8_raffleOff_29 rfl ?_
      refine gf_X8_106 hB (hS1.om (k := m9) (by omega)) rfl dX8_raffleOff_30 ?_
      refine lv_aload_n hx hb dX8_raffleOff_33 rfl (lv_at hl 2 rfl) ?_
      refine lv_iload hx hb dX8_raffleOff_34 (lv_at hl 5 rfl) ?_
      refine lv_iload_n hx hb dX8_raffleOff_36 rfl (lv_at hl 3 rfl) ?_
      refine cl_X8_109 (As := [.int (nI m9), .int (nI p0)]) (rest := [.int ((penZ (zOf q) (shrQ q f p0) (nmQ q) m9) (10 + m9)), .ref (sb + (4 + 2 * m9))]) hB (c_X1_shareOf l g H sb (penZ (zOf q) (shrQ q f p0) (nmQ q) m9) P D q f m9 p0 hS1 hPT (by first | assumption | omega) (hW.fr hf) (h0) (by omega) (hp0) (fun j hj => by rw [penZ_off m9 hm9 (by omega), zOf_fB hf hj, (hW.fr hf).by_ hj])) (hS1.of (k := f) (by omega)) rfl hl.1 (Nat.le_of_ble_eq_true rfl) dX8_raffleOff_37 ⟨Nat.le_of_ble_eq_true rfl, Nat.le_of_ble_eq_true rfl⟩ ⟨Nat.le_of_ble_eq_true rfl, Nat.le_of_ble_eq_true rfl⟩ hS (by have hz9 := hS.1; rintro q (h | h) <;> first | exact Or.inr (by omega) | exact h.elim | exact Or.inl h | (simp only [ftA] at h ⊢; omega)) (fun v H1 locs hpo hfr hS => ?_)
      obtain ⟨rfl, rfl⟩ := hpo
      refine W.widen (k := 0) (n := 0) (Nat.le_of_ble_eq_true rfl) (Nat.le_of_ble_eq_true rfl) ?_
      refine lv_iadd hx hb dX8_raffleOff_40 ?_
      refine pf_X8_106 hB (hS1.om (k := m9) (by omega)) (by first | exact Or.inl rfl | (simp only [ftA]; omega) | (simp [ftA]; omega)) hS rfl rfl (Nat.le_of_ble_eq_true rfl) dX8_raffleOff_41 (fun H locs hwr => ?_)
      have ho := hwr.2.1
      have hz := hwr.2.2.1
      obtain ⟨hS1, hS⟩ := hS1.w_mP (by omega) hwr
      have hPT := hPT.kept (fun q9 hq9 _ => ho q9 (fun e9 => hq9 (by rw [e9]; first | exact hD _ (by omega) (by omega))))
      refine lv_iinc (v := nI (m9 + 1)) (lv' := [(4, .int (nI (m9 + 1))), (5, .ref (sb + (4 + 2 * m9))), (0, .ref sb), (1, .ref (sb + (20 + 2 * f))), (2, .int (nI p0)), (3, .int (nI (szF q f)))]) hx hb dX8_raffleOff_44 hl (k := 5) rfl (nI_1 _) (by decide) rfl (fun ls hl => ?_)
      refine lv_goto (tgt := 8) hx hb dX8_raffleOff_47 (by decide) ?_
      refine ih8 (m9 + 1) _ _ _ ⟨(by omega), (by show StAt g sb (if m9 < nmQ q then _ else _) P _; first | (rw [if_pos hlt]; exact hS1) | (rw [if_neg (by omega)]; exact hS1)), hPT, hS, lv_sub hl [2, 3, 4, 5, 0] rfl⟩ (by dsimp only; omega)
    · skip
      refine lv_aload_n hx hb dX8_raffleOff_14 rfl (lv_at hl 0 rfl) ?_
      refine lv_iload hx hb dX8_raffleOff_15 (lv_at hl 4 rfl) ?_
      refine cl_X8_74 (As := [.int (nI m9)]) (rest := []) hB (c_X8_memberAt_o l g H sb (penZ (zOf q) (shrQ q f p0) (nmQ q) m9) P (nI m9) (nmQ q) hS1 (by rw [isIx_nI (by omega)]; exact decide_eq_false (by omega)) (hz0) (hnm5)) hS1.o rfl hl.1 (Nat.le_of_ble_eq_true rfl) dX8_raffleOff_17 ⟨Nat.le_of_ble_eq_true rfl, Nat.le_of_ble_eq_true rfl⟩ ⟨Nat.le_of_ble_eq_true rfl, Nat.le_of_ble_eq_true rfl⟩ hS (by have hz9 := hS.1; rintro q (h | h) <;> first | exact Or.inr (by omega) | exact h.elim | exact Or.inl h | (simp only [ftA] at h ⊢; omega)) (fun v H1 locs hpo hfr hS => ?_)
      obtain ⟨rfl, rfl⟩ := hpo
      refine W.widen (k := 0) (n := 0) (Nat.le_of_ble_eq_true rfl) (Nat.le_of_ble_eq_true rfl) ?_
      refine lv_astoreN (lv' := [(5, .null), (0, .ref sb), (1, .ref (sb + (20 + 2 * f))), (2, .int (nI p0)), (3, .int (nI (szF q f))), (4, .int (nI m9))]) hx hb dX8_raffleOff_20 hl (by decide) rfl (fun ls hl => ?_)
      refine lv_aloadN hx hb dX8_raffleOff_22 (lv_at hl 0 rfl) ?_
      refine lv_ifnullN (tgt := 44) hx hb dX8_raffleOff_24 (by decide) ?_
      refine lv_iinc (v := nI (m9 + 1)) (lv' := [(4, .int (nI (m9 + 1))), (5, .null), (0, .ref sb), (1, .ref (sb + (20 + 2 * f))), (2, .int (nI p0)), (3, .int (nI (szF q f)))]) hx hb dX8_raffleOff_44 hl (k := 5) rfl (nI_1 _) (by decide) rfl (fun ls hl => ?_)
      refine lv_goto (tgt := 8) hx hb dX8_raffleOff_47 (by decide) ?_
      refine ih8 (m9 + 1) _ _ _ ⟨(by omega), (by show StAt g sb (if m9 < nmQ q then _ else _) P _; first | (rw [if_pos hlt]; exact hS1) | (rw [if_neg (by omega)]; exact hS1)), hPT, hS, lv_sub hl [2, 3, 4, 5, 0] rfl⟩ (by dsimp only; omega)

def rm_c_X8_giveBackColour : Room := { frames := 1, cells := 0, slots := 0, locals := 21 }
set_option maxRecDepth 100000 in
set_option maxHeartbeats 400000 in
theorem c_X8_giveBackColour (l : Launch) (g : GG) (H0 : Heap) (sb : Nat) (P : Nat → Option Nat) (q : Nat → Int32) (c0 : Nat) (hS1 : StAt g sb (zOf q) P H0) (hW : WF q) (hZ : WZ q) (hc : c0 < 6) : Ct l yX8_giveBackColour cX8_giveBackColour 7 none rm_c_X8_giveBackColour g [.ref sb, .ref (sb + (14 + c0)), .int (nI c0)] H0 (ftA (fun q9 => sb ≤ q9 ∧ q9 < sb + 26) H0.size) (fun v H1 => v = none ∧ StAt g sb (zOf (ret1 q c0)) P H1) := by
  refine Ct.of (by decide) (fun _ h => Or.inr h) (Nat.le_of_ble_eq_true rfl) ?_
  intro p e s m below meth c ls hB hin hS hH hl
  have hx := hB.x
  have hb := hB.b
  have hl : lv_has ls 7 [(0, .ref sb), (1, .ref (sb + (14 + c0))), (2, .int (nI c0))] := hl
  have hnm5 := hW.2.2.1
  have hW5 : WF (retI c0 (q (50 + c0)) (gvnQ q c0) q 5) := hW.of (retI_off (by omega) 5 (by omega)) (retI_off (by omega) 5 (by omega)) (fun f hf => Same.wf (fun j h1 h2 => retI_off (by omega) 5 (by omega)) (hW.fr hf))
  refine lv_aload_n hx hb dX8_giveBackColour_0 rfl (lv_at hl 1 rfl) ?_
  refine gf_X8_64 hB (hS1.oc (k := c0) (by omega)) rfl dX8_giveBackColour_1 ?_
  refine mh_top (y := .int (q (50 + c0))) (by rw [zOf_lo (by omega)]) ?_
  refine lv_istore_n (lv' := [(3, .int (q (50 + c0))), (0, .ref sb), (1, .ref (sb + (14 + c0))), (2, .int (nI c0))]) hx hb dX8_giveBackColour_4 rfl hl (by decide) rfl (fun ls hl => ?_)
  by_cases hgv : gvnQ q c0 ≤ 0
  · skip
    refine lv_iconst (v := nI 0) hx hb dX8_giveBackColour_5 (by decide) ?_
    refine lv_istore (lv' := [(4, .int (nI 0)), (3, .int (q (50 + c0))), (0, .ref sb), (1, .ref (sb + (14 + c0))), (2, .int (nI c0))]) hx hb dX8_giveBackColour_6 hl (by decide) rfl (fun ls hl => ?_)
    refine mh_loop (σ := Nat) (fun xx9 H locs ls => match xx9 with | m9 => m9 ≤ 5 ∧ StAt g sb (zOf q) P H ∧ va_S (ftA (fun q9 => sb ≤ q9 ∧ q9 < sb + 26) H0.size) H0 H locs ∧ lv_has ls 7 [(0, .ref sb), (1, .ref (sb + (14 + c0))), (2, .int (nI c0)), (3, .int (q (50 + c0))), (4, .int (nI m9))]) (fun xx9 => match xx9 with | m9 => 5 - m9) ?_ 0 ⟨(by omega), hS1, hS, lv_sub hl [2, 3, 4, 1, 0] rfl⟩
    rintro m9 H locs ls ⟨hm9, hS1, hS, hl⟩ ih
    have ih8 := ih
    have hz0 : (zOf q) 0 = nI (nmQ q) := by rw [zOf_lo (by omega), hW.1]
    refine lv_iload hx hb dX8_giveBackColour_8 (lv_at hl 4 rfl) ?_
    refine lv_iconst (v := nI 5) hx hb dX8_giveBackColour_10 (by decide) ?_
    refine mn_icmp_ge (tgt := 93) hB dX8_giveBackColour_11 (by decide) (by omega) (by omega) (fun h_11 => ?_) (fun h_11 => ?_)
    · skip
      have hin9 : m9 = 5 := by omega
      subst hin9
      refine lv_aload_n hx hb dX8_giveBackColour_93 rfl (lv_at hl 1 rfl) ?_
      refine lv_dup hx hb dX8_giveBackColour_94 rfl ?_
      refine gf_X8_96 hB (hS1.oc (k := c0) (by omega)) rfl dX8_giveBackColour_95 ?_
      refine lv_iload_n hx hb dX8_giveBackColour_98 rfl (lv_at hl 3 rfl) ?_
      refine lv_iadd hx hb dX8_giveBackColour_99 ?_
      refine pf_X8_96 hB (hS1.oc (k := c0) (by omega)) (by first | exact Or.inl rfl | (simp only [ftA]; omega) | (simp [ftA]; omega)) hS rfl rfl (Nat.le_of_ble_eq_true rfl) dX8_giveBackColour_100 (fun H locs hwr => ?_)
      have ho := hwr.2.1
      have hz := hwr.2.2.1
      obtain ⟨hS1, hS⟩ := hS1.w_cX (by omega) hwr
      refine lv_aload_n hx hb dX8_giveBackColour_103 rfl (lv_at hl 1 rfl) ?_
      refine lv_iconst (v := nI 0) hx hb dX8_giveBackColour_104 (by decide) ?_
      refine pf_X8_64 hB (hS1.oc (k := c0) (by omega)) (by first | exact Or.inl rfl | (simp only [ftA]; omega) | (simp [ftA]; omega)) hS rfl rfl (Nat.le_of_ble_eq_true rfl) dX8_giveBackColour_105 (fun H locs hwr => ?_)
      have ho := hwr.2.1
      have hz := hwr.2.2.1
      obtain ⟨hS1, hS⟩ := hS1.w_cS (by omega) hwr
      refine mh_vret hB ⟨Nat.le_of_ble_eq_true rfl, Nat.le_of_ble_eq_true rfl⟩ hS dX8_giveBackColour_108 ⟨?_, ?_⟩
      · rfl
      · have e8 : retL q c0 = 0 := if_pos hgv
        have e7 : ret1 q c0 = upd (upd q (56 + c0) (q (56 + c0) + q (50 + c0))) (50 + c0) (nI 0) := by unfold ret1; rw [e8]; rfl
        rw [e7]
        have hS1 := hS1.congr (z2 := zOf (upd (upd q (56 + c0) (q (56 + c0) + q (50 + c0))) (50 + c0) (nI 0))) (fun j hj => by rw [← ret_end hc hW j hj, show lzR q q c0 = zOf q from funext (fun i => by unfold lzR; split <;> rfl)]) (fun _ _ => rfl)
        exact hS1
    · skip
      rcases Nat.lt_or_ge m9 (nmQ q) with hlt | hge
      · skip
        refine lv_aload_n hx hb dX8_giveBackColour_14 rfl (lv_at hl 0 rfl) ?_
        refine lv_iload hx hb dX8_giveBackColour_15 (lv_at hl 4 rfl) ?_
        refine cl_X8_74 (As := [.int (nI m9)]) (rest := []) hB (c_X8_memberAt l g H sb (zOf q) P m9 (nmQ q) hS1 (hlt) (hz0) (hnm5)) hS1.o rfl hl.1 (Nat.le_of_ble_eq_true rfl) dX8_giveBackColour_17 ⟨Nat.le_of_ble_eq_true rfl, Nat.le_of_ble_eq_true rfl⟩ ⟨Nat.le_of_ble_eq_true rfl, Nat.le_of_ble_eq_true rfl⟩ hS (by have hz9 := hS.1; rintro q (h | h) <;> first | exact Or.inr (by omega) | exact h.elim | exact Or.inl h | (simp only [ftA] at h ⊢; omega)) (fun v H1 locs hpo hfr hS => ?_)
        obtain ⟨rfl, rfl⟩ := hpo
        refine W.widen (k := 0) (n := 0) (Nat.le_of_ble_eq_true rfl) (Nat.le_of_ble_eq_true rfl) ?_
        refine lv_astore (lv' := [(5, .ref (sb + (4 + 2 * m9))), (0, .ref sb), (1, .ref (sb + (14 + c0))), (2, .int (nI c0)), (3, .int (q (50 + c0))), (4, .int (nI m9))]) hx hb dX8_giveBackColour_20 hl (by decide) rfl (fun ls hl => ?_)
        refine lv_aload hx hb dX8_giveBackColour_22 (lv_at hl 0 rfl) ?_
        refine lv_ifnull hx hb dX8_giveBackColour_24 ?_
        refine lv_aload_n hx hb dX8_giveBackColour_27 rfl (lv_at hl 2 rfl) ?_
        refine gf_X8_62 hB (hS1.oc (k := c0) (by omega)) rfl dX8_giveBackColour_28 ?_
        refine mh_top (y := .int (gvnQ q c0)) (by rw [zOf_cG hc]) ?_
        refine lv_if_le (tgt := 87) hx hb dX8_giveBackColour_31 (by decide) (fun h_31 => ?_) (fun h => absurd hgv h)
        refine lv_iinc (v := nI (m9 + 1)) (lv' := [(4, .int (nI (m9 + 1))), (5, .ref (sb + (4 + 2 * m9))), (0, .ref sb), (1, .ref (sb + (14 + c0))), (2, .int (nI c0)), (3, .int (q (50 + c0)))]) hx hb dX8_giveBackColour_87 hl (k := 5) rfl (nI_1 _) (by decide) rfl (fun ls hl => ?_)
        refine lv_goto (tgt := 8) hx hb dX8_giveBackColour_90 (by decide) ?_
        refine ih8 (m9 + 1) _ _ _ ⟨(by omega), hS1, hS, lv_sub hl [2, 3, 4, 5, 0] rfl⟩ (by dsimp only; omega)
      · skip
        refine lv_aload_n hx hb dX8_giveBackColour_14 rfl (lv_at hl 0 rfl) ?_
        refine lv_iload hx hb dX8_giveBackColour_15 (lv_at hl 4 rfl) ?_
        refine cl_X8_74 (As := [.int (nI m9)]) (rest := []) hB (c_X8_memberAt_o l g H sb (zOf q) P (nI m9) (nmQ q) hS1 (by rw [isIx_nI (by omega)]; exact decide_eq_false (by omega)) (hz0) (hnm5)) hS1.o rfl hl.1 (Nat.le_of_ble_eq_true rfl) dX8_giveBackColour_17 ⟨Nat.le_of_ble_eq_true rfl, Nat.le_of_ble_eq_true rfl⟩ ⟨Nat.le_of_ble_eq_true rfl, Nat.le_of_ble_eq_true rfl⟩ hS (by have hz9 := hS.1; rintro q (h | h) <;> first | exact Or.inr (by omega) | exact h.elim | exact Or.inl h | (simp only [ftA] at h ⊢; omega)) (fun v H1 locs hpo hfr hS => ?_)
        obtain ⟨rfl, rfl⟩ := hpo
        refine W.widen (k := 0) (n := 0) (Nat.le_of_ble_eq_true rfl) (Nat.le_of_ble_eq_true rfl) ?_
        refine lv_astoreN (lv' := [(5, .null), (0, .ref sb), (1, .ref (sb + (14 + c0))), (2, .int (nI c0)), (3, .int (q (50 + c0))), (4, .int (nI m9))]) hx hb dX8_giveBackColour_20 hl (by decide) rfl (fun ls hl => ?_)
        refine lv_aloadN hx hb dX8_giveBackColour_22 (lv_at hl 0 rfl) ?_
        refine lv_ifnullN (tgt := 87) hx hb dX8_giveBackColour_24 (by decide) ?_
        refine lv_iinc (v := nI (m9 + 1)) (lv' := [(4, .int (nI (m9 + 1))), (5, .null), (0, .ref sb), (1, .ref (sb + (14 + c0))), (2, .int (nI c0)), (3, .int (q (50 + c0)))]) hx hb dX8_giveBackColour_87 hl (k := 5) rfl (nI_1 _) (by decide) rfl (fun ls hl => ?_)
        refine lv_goto (tgt := 8) hx hb dX8_giveBackColour_90 (by decide) ?_
        refine ih8 (m9 + 1) _ _ _ ⟨(by omega), hS1, hS, lv_sub hl [2, 3, 4, 5, 0] rfl⟩ (by dsimp only; omega)
  · skip
    refine lv_iconst (v := nI 0) hx hb dX8_giveBackColour_5 (by decide) ?_
    refine lv_istore (lv' := [(4, .int (nI 0)), (3, .int (q (50 + c0))), (0, .ref sb), (1, .ref (sb + (14 + c0))), (2, .int (nI c0))]) hx hb dX8_giveBackColour_6 hl (by decide) rfl (fun ls hl => ?_)
    refine mh_loop (σ := Nat) (fun xx9 H locs ls => match xx9 with | m9 => m9 ≤ 5 ∧ StAt g sb (lzR q (retI c0 (q (50 + c0)) (gvnQ q c0) q m9) c0) P H ∧ va_S (ftA (fun q9 => sb ≤ q9 ∧ q9 < sb + 26) H0.size) H0 H locs ∧ lv_has ls 7 [(0, .ref sb), (1, .ref (sb + (14 + c0))), (2, .int (nI c0)), (3, .int ((retI c0 (q (50 + c0)) (gvnQ q c0) q m9) (50 + c0))), (4, .int (nI m9))]) (fun xx9 => match xx9 with | m9 => 5 - m9) ?_ 0 ⟨(by omega), (hS1.congr (fun j hj => by unfold lzR; split <;> rfl) (fun _ _ => rfl)), hS, lv_sub hl [2, 3, 4, 1, 0] rfl⟩
    rintro m9 H locs ls ⟨hm9, hS1, hS, hl⟩ ih
    have ih8 := ih
    have hz0 : (lzR q (retI c0 (q (50 + c0)) (gvnQ q c0) q m9) c0) 0 = nI (nmQ q) := by rw [lzR_off (by omega), zOf_lo (by omega), retI_off (by omega) m9 hm9, hW.1]
    have hg0 : (lzR q (retI c0 (q (50 + c0)) (gvnQ q c0) q m9) c0) (74 + c0) = gvnQ q c0 := by rw [lzR_off (by omega), zOf_cG hc]; exact sum_congr (fun j hj => retI_off (by omega) m9 hm9)
    refine lv_iload hx hb dX8_giveBackColour_8 (lv_at hl 4 rfl) ?_
    refine lv_iconst (v := nI 5) hx hb dX8_giveBackColour_10 (by decide) ?_
    refine mn_icmp_ge (tgt := 93) hB dX8_giveBackColour_11 (by decide) (by omega) (by omega) (fun h_11 => ?_) (fun h_11 => ?_)
    · skip
      have hin9 : m9 = 5 := by omega
      subst hin9
      refine lv_aload_n hx hb dX8_giveBackColour_93 rfl (lv_at hl 1 rfl) ?_
      refine lv_dup hx hb dX8_giveBackColour_94 rfl ?_
      refine gf_X8_96 hB (hS1.oc (k := c0) (by omega)) rfl dX8_giveBackColour_95 ?_
      refine lv_iload_n hx hb dX8_giveBackColour_98 rfl (lv_at hl 3 rfl) ?_
      refine lv_iadd hx hb dX8_giveBackColour_99 ?_
      refine pf_X8_96 hB (hS1.oc (k := c0) (by omega)) (by first | exact Or.inl rfl | (simp only [ftA]; omega) | (simp [ftA]; omega)) hS rfl rfl (Nat.le_of_ble_eq_true rfl) dX8_giveBackColour_100 (fun H locs hwr => ?_)
      have ho := hwr.2.1
      have hz := hwr.2.2.1
      obtain ⟨hS1, hS⟩ := hS1.w_cX (by omega) hwr
      refine lv_aload_n hx hb dX8_giveBackColour_103 rfl (lv_at hl 1 rfl) ?_
      refine lv_iconst (v := nI 0) hx hb dX8_giveBackColour_104 (by decide) ?_
      refine pf_X8_64 hB (hS1.oc (k := c0) (by omega)) (by first | exact Or.inl rfl | (simp only [ftA]; omega) | (simp [ftA]; omega)) hS rfl rfl (Nat.le_of_ble_eq_true rfl) dX8_giveBackColour_105 (fun H locs hwr => ?_)
      have ho := hwr.2.1
      have hz := hwr.2.2.1
      obtain ⟨hS1, hS⟩ := hS1.w_cS (by omega) hwr
      refine mh_vret hB ⟨Nat.le_of_ble_eq_true rfl, Nat.le_of_ble_eq_true rfl⟩ hS dX8_giveBackColour_108 ⟨?_, ?_⟩
      · rfl
      · have e8 : retL q c0 = 5 := if_neg hgv
        have e7 : ret1 q c0 = upd (upd (retI c0 (q (50 + c0)) (gvnQ q c0) q 5) (56 + c0) ((retI c0 (q (50 + c0)) (gvnQ q c0) q 5) (56 + c0) + (retI c0 (q (50 + c0)) (gvnQ q c0) q 5) (50 + c0))) (50 + c0) (nI 0) := by unfold ret1; rw [e8]
        rw [e7]
        exact hS1.congr (ret_end hc hW5) (fun _ _ => rfl)
    · skip
      rcases Nat.lt_or_ge m9 (nmQ q) with hlt | hge
      · skip
        refine lv_aload_n hx hb dX8_giveBackColour_14 rfl (lv_at hl 0 rfl) ?_
        refine lv_iload hx hb dX8_giveBackColour_15 (lv_at hl 4 rfl) ?_
        refine cl_X8_74 (As := [.int (nI m9)]) (rest := []) hB (c_X8_memberAt l g H sb (lzR q (retI c0 (q (50 + c0)) (gvnQ q c0) q m9) c0) P m9 (nmQ q) hS1 (hlt) (hz0) (hnm5)) hS1.o rfl hl.1 (Nat.le_of_ble_eq_true rfl) dX8_giveBackColour_17 ⟨Nat.le_of_ble_eq_true rfl, Nat.le_of_ble_eq_true rfl⟩ ⟨Nat.le_of_ble_eq_true rfl, Nat.le_of_ble_eq_true rfl⟩ hS (by have hz9 := hS.1; rintro q (h | h) <;> first | exact Or.inr (by omega) | exact h.elim | exact Or.inl h | (simp only [ftA] at h ⊢; omega)) (fun v H1 locs hpo hfr hS => ?_)
        obtain ⟨rfl, rfl⟩ := hpo
        refine W.widen (k := 0) (n := 0) (Nat.le_of_ble_eq_true rfl) (Nat.le_of_ble_eq_true rfl) ?_
        refine lv_astore (lv' := [(5, .ref (sb + (4 + 2 * m9))), (0, .ref sb), (1, .ref (sb + (14 + c0))), (2, .int (nI c0)), (3, .int ((retI c0 (q (50 + c0)) (gvnQ q c0) q m9) (50 + c0))), (4, .int (nI m9))]) hx hb dX8_giveBackColour_20 hl (by decide) rfl (fun ls hl => ?_)
        refine lv_aload hx hb dX8_giveBackColour_22 (lv_at hl 0 rfl) ?_
        refine lv_ifnull hx hb dX8_giveBackColour_24 ?_
        refine lv_aload_n hx hb dX8_giveBackColour_27 rfl (lv_at hl 2 rfl) ?_
        refine gf_X8_62 hB (hS1.oc (k := c0) (by omega)) rfl dX8_giveBackColour_28 ?_
        refine mh_top (y := .int (gvnQ q c0)) (by rw [hg0]) ?_
        refine lv_if_le (tgt := 87) hx hb dX8_giveBackColour_31 (by decide) (fun h => absurd h hgv) (fun h_31 => ?_)
        refine lv_aload_n hx hb dX8_giveBackColour_34 rfl (lv_at hl 2 rfl) ?_
        refine gf_X8_64 hB (hS1.oc (k := c0) (by omega)) rfl dX8_giveBackColour_35 ?_
        refine mh_top (y := .int (q (50 + c0))) (by rw [lzR_in, zOf_lo (by omega)]) ?_
        refine lv_i2l (v := (q (50 + c0)).toInt64) hx hb dX8_giveBackColour_38 rfl ?_
        refine lv_aload hx hb dX8_giveBackColour_39 (lv_at hl 0 rfl) ?_
        refine gf_X8_52 hB (hS1.om (k := m9) (by omega)) rfl dX8_giveBackColour_41 ?_
        refine lv_iload_n hx hb dX8_giveBackColour_44 rfl (lv_at hl 3 rfl) ?_
        refine cl_X8_129 (As := [.ref (sb + (5 + 2 * m9)), .int (nI c0)]) (rest := [.long ((q (50 + c0)).toInt64)]) hB (c_X6_at l g H (sb + (5 + 2 * m9)) 6 (fun j7 => (lzR q (retI c0 (q (50 + c0)) (gvnQ q c0) q m9) c0) (15 + 6 * m9 + j7)) c0 (hS1.om2 (k := m9) (by omega)) (hc) (by omega)) rfl hl.1 (Nat.le_of_ble_eq_true rfl) dX8_giveBackColour_45 ⟨Nat.le_of_ble_eq_true rfl, Nat.le_of_ble_eq_true rfl⟩ ⟨Nat.le_of_ble_eq_true rfl, Nat.le_of_ble_eq_true rfl⟩ hS (by have hz9 := hS.1; rintro q (h | h) <;> first | exact Or.inr (by omega) | exact h.elim | exact Or.inl h | (simp only [ftA] at h ⊢; omega)) (fun v H1 locs hpo hfr hS => ?_)
        obtain ⟨rfl, rfl⟩ := hpo
        refine W.widen (k := 0) (n := 0) (Nat.le_of_ble_eq_true rfl) (Nat.le_of_ble_eq_true rfl) ?_
        refine mh_top (y := .int ((retI c0 (q (50 + c0)) (gvnQ q c0) q m9) (15 + 6 * m9 + c0))) (by show Value.int ((lzR q (retI c0 (q (50 + c0)) (gvnQ q c0) q m9) c0) (15 + 6 * m9 + c0)) = _; rw [lzR_off (by omega), zOf_lo (by omega)]) ?_
        refine lv_i2l (v := ((retI c0 (q (50 + c0)) (gvnQ q c0) q m9) (15 + 6 * m9 + c0)).toInt64) hx hb dX8_giveBackColour_48 rfl ?_
        refine lv_lmul hx hb dX8_giveBackColour_49 ?_
        refine lv_aload_n hx hb dX8_giveBackColour_50 rfl (lv_at hl 2 rfl) ?_
        refine gf_X8_62 hB (hS1.oc (k := c0) (by omega)) rfl dX8_giveBackColour_51 ?_
        refine mh_top (y := .int (gvnQ q c0)) (by rw [hg0]) ?_
        refine lv_i2l (v := (gvnQ q c0).toInt64) hx hb dX8_giveBackColour_54 rfl ?_
        refine lv_ldiv hx hb dX8_giveBackColour_55 (l64ne hgv) ?_
        refine lv_l2i (v := ((((q (50 + c0)).toInt64) * (((retI c0 (q (50 + c0)) (gvnQ q c0) q m9) (15 + 6 * m9 + c0)).toInt64)) / ((gvnQ q c0).toInt64)).toInt32) hx hb dX8_giveBackColour_56 rfl ?_
        refine mh_top (y := .int (retN (retI c0 (q (50 + c0)) (gvnQ q c0) q m9) c0 (q (50 + c0)) (gvnQ q c0) m9)) (rfl) ?_
        refine lv_istore (lv' := [(6, .int (retN (retI c0 (q (50 + c0)) (gvnQ q c0) q m9) c0 (q (50 + c0)) (gvnQ q c0) m9)), (5, .ref (sb + (4 + 2 * m9))), (0, .ref sb), (1, .ref (sb + (14 + c0))), (2, .int (nI c0)), (3, .int ((retI c0 (q (50 + c0)) (gvnQ q c0) q m9) (50 + c0))), (4, .int (nI m9))]) hx hb dX8_giveBackColour_57 hl (by decide) rfl (fun ls hl => ?_)
        refine lv_aload hx hb dX8_giveBackColour_59 (lv_at hl 1 rfl) ?_
        refine lv_dup hx hb dX8_giveBackColour_61 rfl ?_
        refine gf_X8_133 hB (hS1.om (k := m9) (by omega)) rfl dX8_giveBackColour_62 ?_
        refine lv_iload hx hb dX8_giveBackColour_65 (lv_at hl 0 rfl) ?_
        refine lv_iadd hx hb dX8_giveBackColour_67 ?_
        refine pf_X8_133 hB (hS1.om (k := m9) (by omega)) (by first | exact Or.inl rfl | (simp only [ftA]; omega) | (simp [ftA]; omega)) hS rfl rfl (Nat.le_of_ble_eq_true rfl) dX8_giveBackColour_68 (fun H locs hwr => ?_)
        have ho := hwr.2.1
        have hz := hwr.2.2.1
        obtain ⟨hS1, hS⟩ := hS1.w_mR (by omega) hwr
        refine lv_aload_n hx hb dX8_giveBackColour_71 rfl (lv_at hl 3 rfl) ?_
        refine lv_dup hx hb dX8_giveBackColour_72 rfl ?_
        refine gf_X8_136 hB (hS1.oc (k := c0) (by omega)) rfl dX8_giveBackColour_73 ?_
        refine mh_top (y := .int ((lzR q (retI c0 (q (50 + c0)) (gvnQ q c0) q m9) c0) (62 + c0))) (by rw [upd_n (by omega)]) ?_
        refine lv_iload hx hb dX8_giveBackColour_76 (lv_at hl 0 rfl) ?_
        refine lv_iadd hx hb dX8_giveBackColour_78 ?_
        refine pf_X8_136 hB (hS1.oc (k := c0) (by omega)) (by first | exact Or.inl rfl | (simp only [ftA]; omega) | (simp [ftA]; omega)) hS rfl rfl (Nat.le_of_ble_eq_true rfl) dX8_giveBackColour_79 (fun H locs hwr => ?_)
        have ho := hwr.2.1
        have hz := hwr.2.2.1
        obtain ⟨hS1, hS⟩ := hS1.w_cR (by omega) hwr
        refine lv_iload_n hx hb dX8_giveBackColour_82 rfl (lv_at hl 5 rfl) ?_
        refine lv_iload hx hb dX8_giveBackColour_83 (lv_at hl 0 rfl) ?_
        refine lv_isub hx hb dX8_giveBackColour_85 ?_
        refine mh_top (y := .int ((retI c0 (q (50 + c0)) (gvnQ q c0) q (m9 + 1)) (50 + c0))) (by rw [ret_left (by omega)]) ?_
        refine lv_istore_n (lv' := [(3, .int ((retI c0 (q (50 + c0)) (gvnQ q c0) q (m9 + 1)) (50 + c0))), (6, .int (retN (retI c0 (q (50 + c0)) (gvnQ q c0) q m9) c0 (q (50 + c0)) (gvnQ q c0) m9)), (5, .ref (sb + (4 + 2 * m9))), (0, .ref sb), (1, .ref (sb + (14 + c0))), (2, .int (nI c0)), (4, .int (nI m9))]) hx hb dX8_giveBackColour_86 rfl hl (by decide) rfl (fun ls hl => ?_)
        refine lv_iinc (v := nI (m9 + 1)) (lv' := [(4, .int (nI (m9 + 1))), (3, .int ((retI c0 (q (50 + c0)) (gvnQ q c0) q (m9 + 1)) (50 + c0))), (6, .int (retN (retI c0 (q (50 + c0)) (gvnQ q c0) q m9) c0 (q (50 + c0)) (gvnQ q c0) m9)), (5, .ref (sb + (4 + 2 * m9))), (0, .ref sb), (1, .ref (sb + (14 + c0))), (2, .int (nI c0))]) hx hb dX8_giveBackColour_87 hl (k := 6) rfl (nI_1 _) (by decide) rfl (fun ls hl => ?_)
        refine lv_goto (tgt := 8) hx hb dX8_giveBackColour_90 (by decide) ?_
        have hS1 := hS1.congr (ret_step hc (by omega) hW) (fun _ _ => rfl)
        refine ih8 (m9 + 1) _ _ _ ⟨(by omega), hS1, hS, lv_sub hl [4, 5, 6, 1, 0] rfl⟩ (by dsimp only; omega)
      · skip
        refine lv_aload_n hx hb dX8_giveBackColour_14 rfl (lv_at hl 0 rfl) ?_
        refine lv_iload hx hb dX8_giveBackColour_15 (lv_at hl 4 rfl) ?_
        refine cl_X8_74 (As := [.int (nI m9)]) (rest := []) hB (c_X8_memberAt_o l g H sb (lzR q (retI c0 (q (50 + c0)) (gvnQ q c0) q m9) c0) P (nI m9) (nmQ q) hS1 (by rw [isIx_nI (by omega)]; exact decide_eq_false (by omega)) (hz0) (hnm5)) hS1.o rfl hl.1 (Nat.le_of_ble_eq_true rfl) dX8_giveBackColour_17 ⟨Nat.le_of_ble_eq_true rfl, Nat.le_of_ble_eq_true rfl⟩ ⟨Nat.le_of_ble_eq_true rfl, Nat.le_of_ble_eq_true rfl⟩ hS (by have hz9 := hS.1; rintro q (h | h) <;> first | exact Or.inr (by omega) | exact h.elim | exact Or.inl h | (simp only [ftA] at h ⊢; omega)) (fun v H1 locs hpo hfr hS => ?_)
        obtain ⟨rfl, rfl⟩ := hpo
        refine W.widen (k := 0) (n := 0) (Nat.le_of_ble_eq_true rfl) (Nat.le_of_ble_eq_true rfl) ?_
        refine lv_astoreN (lv' := [(5, .null), (0, .ref sb), (1, .ref (sb + (14 + c0))), (2, .int (nI c0)), (3, .int ((retI c0 (q (50 + c0)) (gvnQ q c0) q m9) (50 + c0))), (4, .int (nI m9))]) hx hb dX8_giveBackColour_20 hl (by decide) rfl (fun ls hl => ?_)
        refine lv_aloadN hx hb dX8_giveBackColour_22 (lv_at hl 0 rfl) ?_
        refine lv_ifnullN (tgt := 87) hx hb dX8_giveBackColour_24 (by decide) ?_
        refine lv_iinc (v := nI (m9 + 1)) (lv' := [(4, .int (nI (m9 + 1))), (5, .null), (0, .ref sb), (1, .ref (sb + (14 + c0))), (2, .int (nI c0)), (3, .int ((retI c0 (q (50 + c0)) (gvnQ q c0) q m9) (50 + c0)))]) hx hb dX8_giveBackColour_87 hl (k := 5) rfl (nI_1 _) (by decide) rfl (fun ls hl => ?_)
        refine lv_goto (tgt := 8) hx hb dX8_giveBackColour_90 (by decide) ?_
        have e9 : retI c0 (q (50 + c0)) (gvnQ q c0) q (m9 + 1) = retI c0 (q (50 + c0)) (gvnQ q c0) q m9 := funext (ret_skip hc (by omega) ((hZ m9 hge (by omega)).1 c0 hc))
        rw [← e9] at hS1 hl
        refine ih8 (m9 + 1) _ _ _ ⟨(by omega), hS1, hS, lv_sub hl [2, 3, 4, 5, 0] rfl⟩ (by dsimp only; omega)

def rm_c_X8_giveBackStock : Room := { frames := 2, cells := 0, slots := 0, locals := 47 }
set_option maxRecDepth 100000 in
set_option maxHeartbeats 400000 in
theorem c_X8_giveBackStock (l : Launch) (g : GG) (H0 : Heap) (sb : Nat) (P : Nat → Option Nat) (D : Nat → Prop) (q : Nat → Int32) (hS1 : StAt g sb (zOf q) P H0) (hPT : PT g D P q H0) (hD : ∀ q9, sb ≤ q9 → q9 < sb + 26 → D q9) (hW : WF q) (hZ : WZ q) : Ct l yX8_giveBackStock cX8_giveBackStock 4 (some .int) rm_c_X8_giveBackStock g [.ref sb] H0 (ftA (fun q9 => sb ≤ q9 ∧ q9 < sb + 26) H0.size) (fun v H1 => v = some (.int (retT q 6)) ∧ StAt g sb (zOf (retO q 6)) P H1 ∧ PT g D P (retO q 6) H1) := by
  refine Ct.of (by decide) (fun _ h => Or.inr h) (Nat.le_of_ble_eq_true rfl) ?_
  intro p e s m below meth c ls hB hin hS hH hl
  have hx := hB.x
  have hb := hB.b
  have hl : lv_has ls 4 [(0, .ref sb)] := hl
  refine lv_aload_n hx hb dX8_giveBackStock_0 rfl (lv_at hl 0 rfl) ?_
  refine lv_iconst (v := nI 4) hx hb dX8_giveBackStock_1 (by decide) ?_
  refine cl_X8_122 (As := [.int (nI 4)]) (rest := []) hB (c_X8_clothInAll l g H0 sb (zOf q) P 4 hS1 (by omega)) hS1.o rfl hl.1 (Nat.le_of_ble_eq_true rfl) dX8_giveBackStock_2 ⟨Nat.le_of_ble_eq_true rfl, Nat.le_of_ble_eq_true rfl⟩ ⟨Nat.le_of_ble_eq_true rfl, Nat.le_of_ble_eq_true rfl⟩ hS (by have hz9 := hS.1; rintro q (h | h) <;> first | exact Or.inr (by omega) | exact h.elim | exact Or.inl h | (simp only [ftA] at h ⊢; omega)) (fun v H1 locs hpo hfr hS => ?_)
  obtain ⟨rfl, rfl⟩ := hpo
  refine W.widen (k := 0) (n := 0) (Nat.le_of_ble_eq_true rfl) (Nat.le_of_ble_eq_true rfl) ?_
  refine lv_istore_n (lv' := [(1, .int (bx_sum (fun j9 => clV (zOf q) j9 4) 6)), (0, .ref sb)]) hx hb dX8_giveBackStock_5 rfl hl (by decide) rfl (fun ls hl => ?_)
  refine lv_iconst (v := nI 0) hx hb dX8_giveBackStock_6 (by decide) ?_
  refine lv_istore_n (lv' := [(2, .int (nI 0)), (1, .int (bx_sum (fun j9 => clV (zOf q) j9 4) 6)), (0, .ref sb)]) hx hb dX8_giveBackStock_7 rfl hl (by decide) rfl (fun ls hl => ?_)
  refine mh_loop (σ := Nat) (fun xx9 H locs ls => match xx9 with | c9 => c9 ≤ 6 ∧ StAt g sb (zOf (retO q c9)) P H ∧ PT g D P q H ∧ va_S (ftA (fun q9 => sb ≤ q9 ∧ q9 < sb + 26) H0.size) H0 H locs ∧ lv_has ls 4 [(0, .ref sb), (1, .int (bx_sum (fun j9 => clV (zOf q) j9 4) 6)), (2, .int (nI c9))]) (fun xx9 => match xx9 with | c9 => 6 - c9) ?_ 0 ⟨(by omega), hS1, hPT, hS, lv_sub hl [2, 1, 0] rfl⟩
  rintro c9 H locs ls ⟨hc9, hS1, hPT, hS, hl⟩ ih
  have ih8 := ih
  refine lv_iload_n hx hb dX8_giveBackStock_8 rfl (lv_at hl 2 rfl) ?_
  refine lv_bipush (v := nI 6) hx hb dX8_giveBackStock_9 (by decide) ?_
  refine mn_icmp_ge (tgt := 36) hB dX8_giveBackStock_11 (by decide) (by omega) (by omega) (fun h_11 => ?_) (fun h_11 => ?_)
  · skip
    have hin9 : c9 = 6 := by omega
    subst hin9
    refine lv_aload_n hx hb dX8_giveBackStock_36 rfl (lv_at hl 0 rfl) ?_
    refine lv_iconst (v := nI 4) hx hb dX8_giveBackStock_37 (by decide) ?_
    refine cl_X8_122 (As := [.int (nI 4)]) (rest := []) hB (c_X8_clothInAll l g H sb (zOf (retO q 6)) P 4 hS1 (by omega)) hS1.o rfl hl.1 (Nat.le_of_ble_eq_true rfl) dX8_giveBackStock_38 ⟨Nat.le_of_ble_eq_true rfl, Nat.le_of_ble_eq_true rfl⟩ ⟨Nat.le_of_ble_eq_true rfl, Nat.le_of_ble_eq_true rfl⟩ hS (by have hz9 := hS.1; rintro q (h | h) <;> first | exact Or.inr (by omega) | exact h.elim | exact Or.inl h | (simp only [ftA] at h ⊢; omega)) (fun v H1 locs hpo hfr hS => ?_)
    obtain ⟨rfl, rfl⟩ := hpo
    refine W.widen (k := 0) (n := 0) (Nat.le_of_ble_eq_true rfl) (Nat.le_of_ble_eq_true rfl) ?_
    refine lv_iload_n hx hb dX8_giveBackStock_41 rfl (lv_at hl 1 rfl) ?_
    refine lv_isub hx hb dX8_giveBackStock_42 ?_
    refine mh_iret hB ⟨Nat.le_of_ble_eq_true rfl, Nat.le_of_ble_eq_true rfl⟩ hS dX8_giveBackStock_43 ⟨?_, ?_, ?_⟩
    · have e9 := retT_sum q 6 (by omega)
      have e8 : bx_sum (fun j9 => clV (zOf (retO q 6)) j9 4) 6 = bx_sum (fun j => retO q 6 (62 + j)) 6 := sum_congr (fun j hj => zOf_lo (by omega))
      have e7 : bx_sum (fun j9 => clV (zOf q) j9 4) 6 = bx_sum (fun j => q (62 + j)) 6 := sum_congr (fun j hj => zOf_lo (by omega))
      rw [e8, e7, e9, i32_sub, Int32.add_comm (bx_sum _ 6), Int32.add_assoc, i32_self, Int32.add_zero]
    · exact hS1
    · exact hPT.ofRet hW (by omega)
  · skip
    refine lv_aload_n hx hb dX8_giveBackStock_14 rfl (lv_at hl 0 rfl) ?_
    refine lv_iload_n hx hb dX8_giveBackStock_15 rfl (lv_at hl 2 rfl) ?_
    refine cl_X8_44 (As := [.int (nI c9)]) (rest := []) hB (c_X8_clothAt l g H sb (zOf (retO q c9)) P c9 hS1 (by omega)) hS1.o rfl hl.1 (Nat.le_of_ble_eq_true rfl) dX8_giveBackStock_16 ⟨Nat.le_of_ble_eq_true rfl, Nat.le_of_ble_eq_true rfl⟩ ⟨Nat.le_of_ble_eq_true rfl, Nat.le_of_ble_eq_true rfl⟩ hS (by have hz9 := hS.1; rintro q (h | h) <;> first | exact Or.inr (by omega) | exact h.elim | exact Or.inl h | (simp only [ftA] at h ⊢; omega)) (fun v H1 locs hpo hfr hS => ?_)
    obtain ⟨rfl, rfl⟩ := hpo
    refine W.widen (k := 0) (n := 0) (Nat.le_of_ble_eq_true rfl) (Nat.le_of_ble_eq_true rfl) ?_
    refine lv_astore_n (lv' := [(3, .ref (sb + (14 + c9))), (0, .ref sb), (1, .int (bx_sum (fun j9 => clV (zOf q) j9 4) 6)), (2, .int (nI c9))]) hx hb dX8_giveBackStock_19 rfl hl (by decide) rfl (fun ls hl => ?_)
    refine lv_aload_n hx hb dX8_giveBackStock_20 rfl (lv_at hl 0 rfl) ?_
    refine lv_ifnull hx hb dX8_giveBackStock_21 ?_
    refine lv_aload_n hx hb dX8_giveBackStock_24 rfl (lv_at hl 1 rfl) ?_
    refine lv_aload_n hx hb dX8_giveBackStock_25 rfl (lv_at hl 0 rfl) ?_
    refine lv_iload_n hx hb dX8_giveBackStock_26 rfl (lv_at hl 3 rfl) ?_
    refine cl_X8_125 (As := [.ref (sb + (14 + c9)), .int (nI c9)]) (rest := []) hB (c_X8_giveBackColour l g H sb P (retO q c9) c9 hS1 (retO_WFc hW hc9) (retO_WZ hZ hc9) (by omega)) hS1.o rfl hl.1 (Nat.le_of_ble_eq_true rfl) dX8_giveBackStock_27 ⟨Nat.le_of_ble_eq_true rfl, Nat.le_of_ble_eq_true rfl⟩ ⟨Nat.le_of_ble_eq_true rfl, Nat.le_of_ble_eq_true rfl⟩ hS (by have hz9 := hS.1; rintro q (h | h) <;> first | exact Or.inr (by omega) | exact h.elim | exact Or.inl h | (simp only [ftA] at h ⊢; omega)) (fun v H1 locs hpo hfr hS => ?_)
    obtain ⟨rfl, hS1⟩ := hpo
    have hPT := hPT.keptF hfr (fun q9 hq9 => by first | exact hq9.elim | exact hD q9 (by have := hq9; omega) (by have := hq9; omega))
    generalize H1 = H at hfr hS hPT hS1 ⊢
    refine W.widen (k := 0) (n := 0) (Nat.le_of_ble_eq_true rfl) (Nat.le_of_ble_eq_true rfl) ?_
    refine lv_iinc (v := nI (c9 + 1)) (lv' := [(2, .int (nI (c9 + 1))), (3, .ref (sb + (14 + c9))), (0, .ref sb), (1, .int (bx_sum (fun j9 => clV (zOf q) j9 4) 6))]) hx hb dX8_giveBackStock_30 hl (k := 3) rfl (nI_1 _) (by decide) rfl (fun ls hl => ?_)
    refine lv_goto (tgt := 8) hx hb dX8_giveBackStock_33 (by decide) ?_
    refine ih8 (c9 + 1) _ _ _ ⟨(by omega), hS1, hPT, hS, lv_sub hl [2, 3, 0] rfl⟩ (by dsimp only; omega)
