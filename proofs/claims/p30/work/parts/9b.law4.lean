theorem c_L_frame (l : Launch) (g : GG) (H0 : Heap) (xb lim : Nat) (q : Nat → Int32) (n : Nat) (rm sl sv tx : Nat → Int32) (ln f : Nat) (hC : CLS g xb lim q n rm sl sv tx ln H0) (hf : f < 3) : Ct l yL_frame cL_frame 11 (some .boolean) rm_c_L_frame_p g [.ref xb, .int (nI f)] H0 (ftA (CF xb lim) H0.size) (fun v H1 => v = some (.int (nI 1)) ∧ CLS g xb lim q n rm sl sv tx ln H1) := by
  by_cases hs0 : 0 < szF q f
  · exact c_L_frame_p l g H0 xb lim q n rm sl sv tx ln f hC hf hs0
  · exact c_L_frame_e l g H0 xb lim q n rm sl sv tx ln f hC hf (by omega)

def rm_c_L_sound : Room := { frames := 7, cells := 0, slots := 0, locals := 175 }
set_option maxRecDepth 100000 in
set_option maxHeartbeats 400000 in
theorem c_L_sound (l : Launch) (g : GG) (H0 : Heap) (xb : Nat) (lim : Nat) (q : Nat → Int32) (n : Nat) (rm : Nat → Int32) (sl : Nat → Int32) (sv : Nat → Int32) (tx : Nat → Int32) (ln : Nat) (t : Nat) (hC : CLS g xb lim q n rm sl sv tx ln H0) (hSD : SD t q) (ht : t ≤ 60) : Ct l yL_sound cL_sound 1 (some .boolean) rm_c_L_sound g [.ref xb] H0 (ftA (CF xb lim) H0.size) (fun v H1 => v = some (.int (nI 1)) ∧ CLS g xb lim q n rm sl sv tx ln H1) := by
  refine Ct.of (by decide) (fun _ h => Or.inr h) (Nat.le_of_ble_eq_true rfl) ?_
  intro p e s m below meth c ls hB hin hS hH hl
  have hx := hB.x
  have hb := hB.b
  have hl : lv_has ls 1 [(0, .ref xb)] := hl
  have hW := hC.wf
  have hZw := hC.wz
  refine lv_aload_n hx hb dL_sound_0 rfl (lv_at hl 0 rfl) ?_
  refine cl_L_87 (As := [.ref xb]) (rest := []) hB (c_L_cloth l g H0 xb lim q n rm sl sv tx ln t (hC) (by first | assumption | omega) (by first | assumption | omega)) rfl hl.1 (Nat.le_of_ble_eq_true rfl) dL_sound_1 ⟨Nat.le_of_ble_eq_true rfl, Nat.le_of_ble_eq_true rfl⟩ ⟨Nat.le_of_ble_eq_true rfl, Nat.le_of_ble_eq_true rfl⟩ hS (by have hz9 := hS.1; rintro q (h | h) <;> first | exact Or.inr (by omega) | exact h.elim | exact Or.inl h | (simp only [ftA] at h ⊢; omega)) (fun v H1 locs hpo hfr hS => ?_)
  obtain ⟨rfl, rfl⟩ := hpo
  refine W.widen (k := 0) (n := 0) (Nat.le_of_ble_eq_true rfl) (Nat.le_of_ble_eq_true rfl) ?_
  refine mn_if_eq (tgt := 42) hB dL_sound_4 (by decide) (by omega) (fun h => by exfalso; omega) (fun h_4 => ?_)
  refine lv_aload_n hx hb dL_sound_7 rfl (lv_at hl 0 rfl) ?_
  refine cl_L_90 (As := [.ref xb]) (rest := []) hB (c_L_members l g H0 xb lim q n rm sl sv tx ln t (hC) (by first | assumption | omega) (by first | assumption | omega)) rfl hl.1 (Nat.le_of_ble_eq_true rfl) dL_sound_8 ⟨Nat.le_of_ble_eq_true rfl, Nat.le_of_ble_eq_true rfl⟩ ⟨Nat.le_of_ble_eq_true rfl, Nat.le_of_ble_eq_true rfl⟩ hS (by have hz9 := hS.1; rintro q (h | h) <;> first | exact Or.inr (by omega) | exact h.elim | exact Or.inl h | (simp only [ftA] at h ⊢; omega)) (fun v H1 locs hpo hfr hS => ?_)
  obtain ⟨rfl, rfl⟩ := hpo
  refine W.widen (k := 0) (n := 0) (Nat.le_of_ble_eq_true rfl) (Nat.le_of_ble_eq_true rfl) ?_
  refine mn_if_eq (tgt := 42) hB dL_sound_11 (by decide) (by omega) (fun h => by exfalso; omega) (fun h_11 => ?_)
  refine lv_aload_n hx hb dL_sound_14 rfl (lv_at hl 0 rfl) ?_
  refine lv_iconst (v := nI 0) hx hb dL_sound_15 (by decide) ?_
  refine cl_L_93 (As := [.ref xb, .int (nI 0)]) (rest := []) hB (c_L_frame l g H0 xb lim q n rm sl sv tx ln 0 (hC) (by first | assumption | omega)) rfl hl.1 (Nat.le_of_ble_eq_true rfl) dL_sound_16 ⟨Nat.le_of_ble_eq_true rfl, Nat.le_of_ble_eq_true rfl⟩ ⟨Nat.le_of_ble_eq_true rfl, Nat.le_of_ble_eq_true rfl⟩ hS (by have hz9 := hS.1; rintro q9 (h9 | h9); exact Or.inl h9; exact Or.inr (by omega)) (fun v H1 locs hpo hfr hS => ?_)
  obtain ⟨rfl, hC⟩ := hpo
  generalize H1 = H at hfr hS hC ⊢
  refine W.widen (k := 0) (n := 0) (Nat.le_of_ble_eq_true rfl) (Nat.le_of_ble_eq_true rfl) ?_
  refine mn_if_eq (tgt := 42) hB dL_sound_19 (by decide) (by omega) (fun h => by exfalso; omega) (fun h_19 => ?_)
  refine lv_aload_n hx hb dL_sound_22 rfl (lv_at hl 0 rfl) ?_
  refine lv_iconst (v := nI 1) hx hb dL_sound_23 (by decide) ?_
  refine cl_L_93 (As := [.ref xb, .int (nI 1)]) (rest := []) hB (c_L_frame l g H xb lim q n rm sl sv tx ln 1 (hC) (by first | assumption | omega)) rfl hl.1 (Nat.le_of_ble_eq_true rfl) dL_sound_24 ⟨Nat.le_of_ble_eq_true rfl, Nat.le_of_ble_eq_true rfl⟩ ⟨Nat.le_of_ble_eq_true rfl, Nat.le_of_ble_eq_true rfl⟩ hS (by have hz9 := hS.1; rintro q9 (h9 | h9); exact Or.inl h9; exact Or.inr (by omega)) (fun v H1 locs hpo hfr hS => ?_)
  obtain ⟨rfl, hC⟩ := hpo
  generalize H1 = H at hfr hS hC ⊢
  refine W.widen (k := 0) (n := 0) (Nat.le_of_ble_eq_true rfl) (Nat.le_of_ble_eq_true rfl) ?_
  refine mn_if_eq (tgt := 42) hB dL_sound_27 (by decide) (by omega) (fun h => by exfalso; omega) (fun h_27 => ?_)
  refine lv_aload_n hx hb dL_sound_30 rfl (lv_at hl 0 rfl) ?_
  refine lv_iconst (v := nI 2) hx hb dL_sound_31 (by decide) ?_
  refine cl_L_93 (As := [.ref xb, .int (nI 2)]) (rest := []) hB (c_L_frame l g H xb lim q n rm sl sv tx ln 2 (hC) (by first | assumption | omega)) rfl hl.1 (Nat.le_of_ble_eq_true rfl) dL_sound_32 ⟨Nat.le_of_ble_eq_true rfl, Nat.le_of_ble_eq_true rfl⟩ ⟨Nat.le_of_ble_eq_true rfl, Nat.le_of_ble_eq_true rfl⟩ hS (by have hz9 := hS.1; rintro q9 (h9 | h9); exact Or.inl h9; exact Or.inr (by omega)) (fun v H1 locs hpo hfr hS => ?_)
  obtain ⟨rfl, hC⟩ := hpo
  generalize H1 = H at hfr hS hC ⊢
  refine W.widen (k := 0) (n := 0) (Nat.le_of_ble_eq_true rfl) (Nat.le_of_ble_eq_true rfl) ?_
  refine mn_if_eq (tgt := 42) hB dL_sound_35 (by decide) (by omega) (fun h => by exfalso; omega) (fun h_35 => ?_)
  refine lv_iconst (v := nI 1) hx hb dL_sound_38 (by decide) ?_
  refine lv_goto (tgt := 43) hx hb dL_sound_39 (by decide) ?_
  refine mh_zret hB ⟨Nat.le_of_ble_eq_true rfl, Nat.le_of_ble_eq_true rfl⟩ hS dL_sound_43 (by first | rfl | decide | (split <;> rfl)) ⟨?_, ?_⟩
  · rfl
  · exact hC

def rm_c_L_acts : Room := { frames := 8, cells := 28, slots := 385, locals := 185 }
set_option maxRecDepth 100000 in
set_option maxHeartbeats 400000 in
theorem c_L_acts (l : Launch) (g : GG) (H0 : Heap) (xb : Nat) (lim : Nat) (q : Nat → Int32) (n : Nat) (rm : Nat → Int32) (sl : Nat → Int32) (sv : Nat → Int32) (tx : Nat → Int32) (ln : Nat) (t : Nat) (y : Nat) (hC : CLS g xb lim q n rm sl sv tx ln H0) (hSD : SD t q) (ht : t ≤ 60) (hy : y < 2147483648) : Ct l yL_acts cL_acts 9 (some .boolean) rm_c_L_acts g [.ref xb, .int (nI y)] H0 (ftA (CF xb lim) H0.size) (fun v H1 => v = some (.int (nI 1)) ∧ AcP g xb lim t H1) := by
  refine Ct.of (by decide) (fun _ h => Or.inr h) (Nat.le_of_ble_eq_true rfl) ?_
  intro p e s m below meth c ls hB hin hS hH hl
  have hx := hB.x
  have hb := hB.b
  have hl : lv_has ls 9 [(0, .ref xb), (1, .int (nI y))] := hl
  have hW := hC.wf
  have hZw := hC.wz
  have hn5 := hW.2.2.1
  have hF := hW.fr (show y / 8 % 3 < 3 by omega)
  have hz6 := WF.sz hF
  have hsw := WF.sw hF
  have hw16 := hF.w16
  refine lv_iload_n hx hb dL_acts_0 rfl (lv_at hl 1 rfl) ?_
  refine lv_iconst (v := nI 3) hx hb dL_acts_1 (by decide) ?_
  refine lv_ishr hx hb dL_acts_2 ?_
  refine mh_top (y := .int (nI (y / 8))) (by rw [shr_nI (by omega) (by omega) (show 2 ^ 3 = 8 from rfl)]) ?_
  refine lv_istore_n (lv' := [(2, .int (nI (y / 8))), (0, .ref xb), (1, .int (nI y))]) hx hb dL_acts_3 rfl hl (by decide) rfl (fun ls hl => ?_)
  refine lv_iload_n hx hb dL_acts_4 rfl (lv_at hl 0 rfl) ?_
  refine lv_iconst (v := nI 3) hx hb dL_acts_5 (by decide) ?_
  refine mn_irem hB dL_acts_6 (by omega) (by omega) (by omega) ?_
  refine lv_istore_n (lv' := [(3, .int (nI ((y / 8) % 3))), (2, .int (nI (y / 8))), (0, .ref xb), (1, .int (nI y))]) hx hb dL_acts_7 rfl hl (by decide) rfl (fun ls hl => ?_)
  refine lv_aload_n hx hb dL_acts_8 rfl (lv_at hl 2 rfl) ?_
  refine lv_iconst (v := nI 0) hx hb dL_acts_9 (by decide) ?_
  refine cl_L_19 (As := [.int (nI 0)]) (rest := []) hB (f_X10_about_0 l g H0 xb lim q n rm sl sv tx ln (hC)) hC.ob rfl hl.1 (Nat.le_of_ble_eq_true rfl) dL_acts_10 ⟨Nat.le_of_ble_eq_true rfl, Nat.le_of_ble_eq_true rfl⟩ ⟨Nat.le_of_ble_eq_true rfl, Nat.le_of_ble_eq_true rfl⟩ hS (by have hz9 := hS.1; rintro q (h | h) <;> first | exact Or.inr (by omega) | exact h.elim | exact Or.inl h | (simp only [ftA] at h ⊢; omega)) (fun v H1 locs hpo hfr hS => ?_)
  obtain ⟨rfl, rfl⟩ := hpo
  refine W.widen (k := 0) (n := 0) (Nat.le_of_ble_eq_true rfl) (Nat.le_of_ble_eq_true rfl) ?_
  refine mh_top (y := .int (nI (nmQ q))) (by rw [abV_0 hW]) ?_
  refine lv_istore (lv' := [(4, .int (nI (nmQ q))), (3, .int (nI ((y / 8) % 3))), (2, .int (nI (y / 8))), (0, .ref xb), (1, .int (nI y))]) hx hb dL_acts_13 hl (by decide) rfl (fun ls hl => ?_)
  refine lv_iload_n hx hb dL_acts_15 rfl (lv_at hl 4 rfl) ?_
  refine lv_bipush (v := nI 7) hx hb dL_acts_16 (by decide) ?_
  refine lv_iand hx hb dL_acts_18 ?_
  refine mh_top (y := .int (nI (y % 8))) (congrArg Value.int (and_nI (k := y) (j := 3) (d := 8) (by omega) (by omega) rfl (by omega))) ?_
  rcases (show y % 8 = 0 ∨ y % 8 = 1 ∨ y % 8 = 2 ∨ y % 8 = 3 ∨ y % 8 = 4 ∨ y % 8 = 5 ∨ y % 8 = 6 ∨ y % 8 = 7 by omega) with h8 | h8 | h8 | h8 | h8 | h8 | h8 | h8
  · refine mh_top (y := .int (nI 0)) (by rw [h8]) ?_
    refine lv_tableIn (tgt := 60) (off := 41) hx hb dL_acts_19 (by decide) (by decide) (by decide) (by decide) ?_
    refine lv_iload hx hb dL_acts_60 (lv_at hl 0 rfl) ?_
    refine lv_iconst (v := nI 5) hx hb dL_acts_62 (by decide) ?_
    refine mn_icmp_eq (tgt := 75) hB dL_acts_63 (by decide) (by omega) (by omega) (fun h_63 => ?_) (fun h_63 => ?_)
    · skip
      refine lv_iconst (v := nI 1) hx hb dL_acts_75 (by decide) ?_
      refine lv_goto (tgt := 80) hx hb dL_acts_76 (by decide) ?_
      refine mh_zret hB ⟨Nat.le_of_ble_eq_true rfl, Nat.le_of_ble_eq_true rfl⟩ hS dL_acts_80 (by first | rfl | decide | (split <;> rfl)) ⟨?_, ?_⟩
      · rfl
      · exact ⟨_, _, _, _, _, _, _, hC, by first | exact hSD2 | exact hSD.up (by omega)⟩
    · skip
      refine lv_aload_n hx hb dL_acts_66 rfl (lv_at hl 3 rfl) ?_
      refine cl_L_56 (As := []) (rest := []) hB (f_X10_addMember l g H0 xb lim q n rm sl sv tx ln (hC) (by omega)) hC.ob rfl hl.1 (Nat.le_of_ble_eq_true rfl) dL_acts_67 ⟨Nat.le_of_ble_eq_true rfl, Nat.le_of_ble_eq_true rfl⟩ ⟨Nat.le_of_ble_eq_true rfl, Nat.le_of_ble_eq_true rfl⟩ hS (by have hz9 := hS.1; rintro q9 (h9 | h9); exact Or.inl h9; exact Or.inr (by omega)) (fun v H1 locs hpo hfr hS => ?_)
      obtain ⟨rfl, hC⟩ := hpo
      generalize H1 = H at hfr hS hC ⊢
      refine W.widen (k := 26) (n := 126) (Nat.le_of_ble_eq_true rfl) (Nat.le_of_ble_eq_true rfl) ?_
      have hSD2 : SD (t + 1) (upd q 0 (nI (nmQ q + 1))) := sd_add hSD hW (by omega)
      refine lv_iload hx hb dL_acts_70 (lv_at hl 0 rfl) ?_
      refine mn_icmp_ne (tgt := 79) hB dL_acts_72 (by decide) (by omega) (by omega) (fun h => by exfalso; omega) (fun h_72 => ?_)
      refine lv_iconst (v := nI 1) hx hb dL_acts_75 (by decide) ?_
      refine lv_goto (tgt := 80) hx hb dL_acts_76 (by decide) ?_
      refine mh_zret hB ⟨Nat.le_of_ble_eq_true rfl, Nat.le_of_ble_eq_true rfl⟩ hS dL_acts_80 (by first | rfl | decide | (split <;> rfl)) ⟨?_, ?_⟩
      · rfl
      · exact ⟨_, _, _, _, _, _, _, hC, by first | exact hSD2 | exact hSD.up (by omega)⟩
  · refine mh_top (y := .int (nI 1)) (by rw [h8]) ?_
    refine lv_tableIn (tgt := 81) (off := 62) hx hb dL_acts_19 (by decide) (by decide) (by decide) (by decide) ?_
    refine lv_iload_n hx hb dL_acts_81 rfl (lv_at hl 2 rfl) ?_
    refine lv_iconst (v := nI 4) hx hb dL_acts_82 (by decide) ?_
    refine lv_ishr hx hb dL_acts_83 ?_
    refine mh_top (y := .int (nI (y / 8 / 16))) (by rw [shr_nI (by omega) (by omega) (show 2 ^ 4 = 16 from rfl)]) ?_
    refine lv_bipush (v := nI 6) hx hb dL_acts_84 (by decide) ?_
    refine mn_irem hB dL_acts_86 (by omega) (by omega) (by omega) ?_
    refine lv_istore (lv' := [(5, .int (nI ((y / 8 / 16) % 6))), (4, .int (nI (nmQ q))), (3, .int (nI ((y / 8) % 3))), (2, .int (nI (y / 8))), (0, .ref xb), (1, .int (nI y))]) hx hb dL_acts_87 hl (by decide) rfl (fun ls hl => ?_)
    refine lv_aload_n hx hb dL_acts_89 rfl (lv_at hl 4 rfl) ?_
    refine lv_iload hx hb dL_acts_90 (lv_at hl 0 rfl) ?_
    refine lv_iconst (v := nI 0) hx hb dL_acts_92 (by decide) ?_
    refine cl_L_9 (As := [.int (nI ((y / 8 / 16) % 6)), .int (nI 0)]) (rest := []) hB (f_X10_cloth l g H0 xb lim q n rm sl sv tx ln ((y / 8 / 16) % 6) 0 (hC) (by first | assumption | omega) (by first | assumption | omega)) hC.ob rfl hl.1 (Nat.le_of_ble_eq_true rfl) dL_acts_93 ⟨Nat.le_of_ble_eq_true rfl, Nat.le_of_ble_eq_true rfl⟩ ⟨Nat.le_of_ble_eq_true rfl, Nat.le_of_ble_eq_true rfl⟩ hS (by have hz9 := hS.1; rintro q (h | h) <;> first | exact Or.inr (by omega) | exact h.elim | exact Or.inl h | (simp only [ftA] at h ⊢; omega)) (fun v H1 locs hpo hfr hS => ?_)
    obtain ⟨rfl, rfl⟩ := hpo
    refine W.widen (k := 0) (n := 0) (Nat.le_of_ble_eq_true rfl) (Nat.le_of_ble_eq_true rfl) ?_
    refine lv_istore (lv' := [(6, .int (coV q ((y / 8 / 16) % 6) 0)), (5, .int (nI ((y / 8 / 16) % 6))), (4, .int (nI (nmQ q))), (3, .int (nI ((y / 8) % 3))), (2, .int (nI (y / 8))), (0, .ref xb), (1, .int (nI y))]) hx hb dL_acts_96 hl (by decide) rfl (fun ls hl => ?_)
    refine lv_iload hx hb dL_acts_98 (lv_at hl 2 rfl) ?_
    refine mn_if_eq (tgt := 139) hB dL_acts_100 (by decide) (by omega) (fun h_100 => ?_) (fun h_100 => ?_)
    · skip
      refine lv_iconst (v := nI 1) hx hb dL_acts_139 (by decide) ?_
      refine lv_goto (tgt := 144) hx hb dL_acts_140 (by decide) ?_
      refine mh_zret hB ⟨Nat.le_of_ble_eq_true rfl, Nat.le_of_ble_eq_true rfl⟩ hS dL_acts_144 (by first | rfl | decide | (split <;> rfl)) ⟨?_, ?_⟩
      · rfl
      · exact ⟨_, _, _, _, _, _, _, hC, by first | exact hSD2 | exact hSD.up (by omega)⟩
    · skip
      refine lv_aload_n hx hb dL_acts_103 rfl (lv_at hl 5 rfl) ?_
      refine lv_iload_n hx hb dL_acts_104 rfl (lv_at hl 4 rfl) ?_
      refine lv_iconst (v := nI 2) hx hb dL_acts_105 (by decide) ?_
      refine lv_ishr hx hb dL_acts_106 ?_
      refine mh_top (y := .int (nI (y / 8 / 4))) (by rw [shr_nI (by omega) (by omega) (show 2 ^ 2 = 4 from rfl)]) ?_
      refine lv_iload hx hb dL_acts_107 (lv_at hl 2 rfl) ?_
      refine mn_irem hB dL_acts_109 (by omega) (by omega) (by omega) ?_
      refine lv_iload hx hb dL_acts_110 (lv_at hl 1 rfl) ?_
      refine lv_iconst (v := nI 1) hx hb dL_acts_112 (by decide) ?_
      refine lv_iload_n hx hb dL_acts_113 rfl (lv_at hl 4 rfl) ?_
      refine lv_bipush (v := nI 7) hx hb dL_acts_114 (by decide) ?_
      refine lv_ishr hx hb dL_acts_116 ?_
      refine mh_top (y := .int (nI (y / 8 / 128))) (by rw [shr_nI (by omega) (by omega) (show 2 ^ 7 = 128 from rfl)]) ?_
      refine lv_bipush (v := nI 20) hx hb dL_acts_117 (by decide) ?_
      refine mn_irem hB dL_acts_119 (by omega) (by omega) (by omega) ?_
      refine mn_iadd hB dL_acts_120 ?_
      refine cl_L_59 (As := [.int (nI ((y / 8 / 4) % (nmQ q))), .int (nI ((y / 8 / 16) % 6)), .int (nI (1 + ((y / 8 / 128) % 20)))]) (rest := []) hB (f_X10_give l g H0 xb lim q n rm sl sv tx ln ((y / 8 / 4) % (nmQ q)) ((y / 8 / 16) % 6) (1 + ((y / 8 / 128) % 20)) (hC) (Nat.mod_lt _ (by omega)) (by omega) (by omega) (by omega)) hC.ob rfl hl.1 (Nat.le_of_ble_eq_true rfl) dL_acts_121 ⟨Nat.le_of_ble_eq_true rfl, Nat.le_of_ble_eq_true rfl⟩ ⟨Nat.le_of_ble_eq_true rfl, Nat.le_of_ble_eq_true rfl⟩ hS (by have hz9 := hS.1; rintro q9 (h9 | h9); exact Or.inl h9; exact Or.inr (by omega)) (fun v H1 locs hpo hfr hS => ?_)
      obtain ⟨rfl, hC⟩ := hpo
      generalize H1 = H at hfr hS hC ⊢
      refine W.widen (k := 26) (n := 126) (Nat.le_of_ble_eq_true rfl) (Nat.le_of_ble_eq_true rfl) ?_
      have hSD2 : SD (t + 1) (givQ q (y / 8 / 4 % nmQ q) (y / 8 / 16 % 6) (nI (1 + y / 8 / 128 % 20))) := sd_give hSD hW (by have := Nat.mod_lt (y / 8 / 4) (show 0 < nmQ q by omega); omega) (by omega) (by omega)
      refine lv_iload hx hb dL_acts_124 (lv_at hl 0 rfl) ?_
      refine lv_iconst (v := nI 1) hx hb dL_acts_126 (by decide) ?_
      refine lv_iadd hx hb dL_acts_127 ?_
      refine lv_iload_n hx hb dL_acts_128 rfl (lv_at hl 4 rfl) ?_
      refine lv_bipush (v := nI 7) hx hb dL_acts_129 (by decide) ?_
      refine lv_ishr hx hb dL_acts_131 ?_
      refine mh_top (y := .int (nI (y / 8 / 128))) (by rw [shr_nI (by omega) (by omega) (show 2 ^ 7 = 128 from rfl)]) ?_
      refine lv_bipush (v := nI 20) hx hb dL_acts_132 (by decide) ?_
      refine mn_irem hB dL_acts_134 (by omega) (by omega) (by omega) ?_
      refine lv_iadd hx hb dL_acts_135 ?_
      refine lv_icmp_ne (tgt := 143) hx hb dL_acts_136 (by decide) (fun h => absurd (giv_50 (by have := Nat.mod_lt (y / 8 / 4) (show 0 < nmQ q by omega); omega)) h) (fun h_136 => ?_)
      refine lv_iconst (v := nI 1) hx hb dL_acts_139 (by decide) ?_
      refine lv_goto (tgt := 144) hx hb dL_acts_140 (by decide) ?_
      refine mh_zret hB ⟨Nat.le_of_ble_eq_true rfl, Nat.le_of_ble_eq_true rfl⟩ hS dL_acts_144 (by first | rfl | decide | (split <;> rfl)) ⟨?_, ?_⟩
      · rfl
      · exact ⟨_, _, _, _, _, _, _, hC, by first | exact hSD2 | exact hSD.up (by omega)⟩
  · refine mh_top (y := .int (nI 2)) (by rw [h8]) ?_
    refine lv_tableIn (tgt := 81) (off := 62) hx hb dL_acts_19 (by decide) (by decide) (by decide) (by decide) ?_
    refine lv_iload_n hx hb dL_acts_81 rfl (lv_at hl 2 rfl) ?_
    refine lv_iconst (v := nI 4) hx hb dL_acts_82 (by decide) ?_
    refine lv_ishr hx hb dL_acts_83 ?_
    refine mh_top (y := .int (nI (y / 8 / 16))) (by rw [shr_nI (by omega) (by omega) (show 2 ^ 4 = 16 from rfl)]) ?_
    refine lv_bipush (v := nI 6) hx hb dL_acts_84 (by decide) ?_
    refine mn_irem hB dL_acts_86 (by omega) (by omega) (by omega) ?_
    refine lv_istore (lv' := [(5, .int (nI ((y / 8 / 16) % 6))), (4, .int (nI (nmQ q))), (3, .int (nI ((y / 8) % 3))), (2, .int (nI (y / 8))), (0, .ref xb), (1, .int (nI y))]) hx hb dL_acts_87 hl (by decide) rfl (fun ls hl => ?_)
    refine lv_aload_n hx hb dL_acts_89 rfl (lv_at hl 4 rfl) ?_
    refine lv_iload hx hb dL_acts_90 (lv_at hl 0 rfl) ?_
    refine lv_iconst (v := nI 0) hx hb dL_acts_92 (by decide) ?_
    refine cl_L_9 (As := [.int (nI ((y / 8 / 16) % 6)), .int (nI 0)]) (rest := []) hB (f_X10_cloth l g H0 xb lim q n rm sl sv tx ln ((y / 8 / 16) % 6) 0 (hC) (by first | assumption | omega) (by first | assumption | omega)) hC.ob rfl hl.1 (Nat.le_of_ble_eq_true rfl) dL_acts_93 ⟨Nat.le_of_ble_eq_true rfl, Nat.le_of_ble_eq_true rfl⟩ ⟨Nat.le_of_ble_eq_true rfl, Nat.le_of_ble_eq_true rfl⟩ hS (by have hz9 := hS.1; rintro q (h | h) <;> first | exact Or.inr (by omega) | exact h.elim | exact Or.inl h | (simp only [ftA] at h ⊢; omega)) (fun v H1 locs hpo hfr hS => ?_)
    obtain ⟨rfl, rfl⟩ := hpo
    refine W.widen (k := 0) (n := 0) (Nat.le_of_ble_eq_true rfl) (Nat.le_of_ble_eq_true rfl) ?_
    refine lv_istore (lv' := [(6, .int (coV q ((y / 8 / 16) % 6) 0)), (5, .int (nI ((y / 8 / 16) % 6))), (4, .int (nI (nmQ q))), (3, .int (nI ((y / 8) % 3))), (2, .int (nI (y / 8))), (0, .ref xb), (1, .int (nI y))]) hx hb dL_acts_96 hl (by decide) rfl (fun ls hl => ?_)
    refine lv_iload hx hb dL_acts_98 (lv_at hl 2 rfl) ?_
    refine mn_if_eq (tgt := 139) hB dL_acts_100 (by decide) (by omega) (fun h_100 => ?_) (fun h_100 => ?_)
    · skip
      refine lv_iconst (v := nI 1) hx hb dL_acts_139 (by decide) ?_
      refine lv_goto (tgt := 144) hx hb dL_acts_140 (by decide) ?_
      refine mh_zret hB ⟨Nat.le_of_ble_eq_true rfl, Nat.le_of_ble_eq_true rfl⟩ hS dL_acts_144 (by first | rfl | decide | (split <;> rfl)) ⟨?_, ?_⟩
      · rfl
      · exact ⟨_, _, _, _, _, _, _, hC, by first | exact hSD2 | exact hSD.up (by omega)⟩
    · skip
      refine lv_aload_n hx hb dL_acts_103 rfl (lv_at hl 5 rfl) ?_
      refine lv_iload_n hx hb dL_acts_104 rfl (lv_at hl 4 rfl) ?_
      refine lv_iconst (v := nI 2) hx hb dL_acts_105 (by decide) ?_
      refine lv_ishr hx hb dL_acts_106 ?_
      refine mh_top (y := .int (nI (y / 8 / 4))) (by rw [shr_nI (by omega) (by omega) (show 2 ^ 2 = 4 from rfl)]) ?_
      refine lv_iload hx hb dL_acts_107 (lv_at hl 2 rfl) ?_
      refine mn_irem hB dL_acts_109 (by omega) (by omega) (by omega) ?_
      refine lv_iload hx hb dL_acts_110 (lv_at hl 1 rfl) ?_
      refine lv_iconst (v := nI 1) hx hb dL_acts_112 (by decide) ?_
      refine lv_iload_n hx hb dL_acts_113 rfl (lv_at hl 4 rfl) ?_
      refine lv_bipush (v := nI 7) hx hb dL_acts_114 (by decide) ?_
      refine lv_ishr hx hb dL_acts_116 ?_
      refine mh_top (y := .int (nI (y / 8 / 128))) (by rw [shr_nI (by omega) (by omega) (show 2 ^ 7 = 128 from rfl)]) ?_
      refine lv_bipush (v := nI 20) hx hb dL_acts_117 (by decide) ?_
      refine mn_irem hB dL_acts_119 (by omega) (by omega) (by omega) ?_
      refine mn_iadd hB dL_acts_120 ?_
      refine cl_L_59 (As := [.int (nI ((y / 8 / 4) % (nmQ q))), .int (nI ((y / 8 / 16) % 6)), .int (nI (1 + ((y / 8 / 128) % 20)))]) (rest := []) hB (f_X10_give l g H0 xb lim q n rm sl sv tx ln ((y / 8 / 4) % (nmQ q)) ((y / 8 / 16) % 6) (1 + ((y / 8 / 128) % 20)) (hC) (Nat.mod_lt _ (by omega)) (by omega) (by omega) (by omega)) hC.ob rfl hl.1 (Nat.le_of_ble_eq_true rfl) dL_acts_121 ⟨Nat.le_of_ble_eq_true rfl, Nat.le_of_ble_eq_true rfl⟩ ⟨Nat.le_of_ble_eq_true rfl, Nat.le_of_ble_eq_true rfl⟩ hS (by have hz9 := hS.1; rintro q9 (h9 | h9); exact Or.inl h9; exact Or.inr (by omega)) (fun v H1 locs hpo hfr hS => ?_)
      obtain ⟨rfl, hC⟩ := hpo
      generalize H1 = H at hfr hS hC ⊢
      refine W.widen (k := 26) (n := 126) (Nat.le_of_ble_eq_true rfl) (Nat.le_of_ble_eq_true rfl) ?_
      have hSD2 : SD (t + 1) (givQ q (y / 8 / 4 % nmQ q) (y / 8 / 16 % 6) (nI (1 + y / 8 / 128 % 20))) := sd_give hSD hW (by have := Nat.mod_lt (y / 8 / 4) (show 0 < nmQ q by omega); omega) (by omega) (by omega)
      refine lv_iload hx hb dL_acts_124 (lv_at hl 0 rfl) ?_
      refine lv_iconst (v := nI 1) hx hb dL_acts_126 (by decide) ?_
      refine lv_iadd hx hb dL_acts_127 ?_
      refine lv_iload_n hx hb dL_acts_128 rfl (lv_at hl 4 rfl) ?_
      refine lv_bipush (v := nI 7) hx hb dL_acts_129 (by decide) ?_
      refine lv_ishr hx hb dL_acts_131 ?_
      refine mh_top (y := .int (nI (y / 8 / 128))) (by rw [shr_nI (by omega) (by omega) (show 2 ^ 7 = 128 from rfl)]) ?_
      refine lv_bipush (v := nI 20) hx hb dL_acts_132 (by decide) ?_
      refine mn_irem hB dL_acts_134 (by omega) (by omega) (by omega) ?_
      refine lv_iadd hx hb dL_acts_135 ?_
      refine lv_icmp_ne (tgt := 143) hx hb dL_acts_136 (by decide) (fun h => absurd (giv_50 (by have := Nat.mod_lt (y / 8 / 4) (show 0 < nmQ q by omega); omega)) h) (fun h_136 => ?_)
      refine lv_iconst (v := nI 1) hx hb dL_acts_139 (by decide) ?_
      refine lv_goto (tgt := 144) hx hb dL_acts_140 (by decide) ?_
      refine mh_zret hB ⟨Nat.le_of_ble_eq_true rfl, Nat.le_of_ble_eq_true rfl⟩ hS dL_acts_144 (by first | rfl | decide | (split <;> rfl)) ⟨?_, ?_⟩
      · rfl
      · exact ⟨_, _, _, _, _, _, _, hC, by first | exact hSD2 | exact hSD.up (by omega)⟩
  · refine mh_top (y := .int (nI 3)) (by rw [h8]) ?_
    refine lv_tableIn (tgt := 145) (off := 126) hx hb dL_acts_19 (by decide) (by decide) (by decide) (by decide) ?_
    refine lv_aload_n hx hb dL_acts_145 rfl (lv_at hl 3 rfl) ?_
    refine lv_iload_n hx hb dL_acts_146 rfl (lv_at hl 1 rfl) ?_
    refine lv_iconst (v := nI 0) hx hb dL_acts_147 (by decide) ?_
    refine cl_L_26 (As := [.int (nI ((y / 8) % 3)), .int (nI 0)]) (rest := []) hB (f_X10_frame_0 l g H0 xb lim q n rm sl sv tx ln ((y / 8) % 3) (hC) (by first | assumption | omega)) hC.ob rfl hl.1 (Nat.le_of_ble_eq_true rfl) dL_acts_148 ⟨Nat.le_of_ble_eq_true rfl, Nat.le_of_ble_eq_true rfl⟩ ⟨Nat.le_of_ble_eq_true rfl, Nat.le_of_ble_eq_true rfl⟩ hS (by have hz9 := hS.1; rintro q (h | h) <;> first | exact Or.inr (by omega) | exact h.elim | exact Or.inl h | (simp only [ftA] at h ⊢; omega)) (fun v H1 locs hpo hfr hS => ?_)
    obtain ⟨rfl, rfl⟩ := hpo
    refine W.widen (k := 0) (n := 0) (Nat.le_of_ble_eq_true rfl) (Nat.le_of_ble_eq_true rfl) ?_
    refine mh_top (y := .int (nI (wdF q (y / 8 % 3)))) (by rw [hF.w]) ?_
    refine mn_if_gt (tgt := 174) hB dL_acts_151 (by decide) (by omega) (fun h_151 => ?_) (fun h_151 => ?_)
    · skip
      refine lv_iconst (v := nI 1) hx hb dL_acts_174 (by decide) ?_
      refine lv_goto (tgt := 179) hx hb dL_acts_175 (by decide) ?_
      refine mh_zret hB ⟨Nat.le_of_ble_eq_true rfl, Nat.le_of_ble_eq_true rfl⟩ hS dL_acts_179 (by first | rfl | decide | (split <;> rfl)) ⟨?_, ?_⟩
      · rfl
      · exact ⟨_, _, _, _, _, _, _, hC, by first | exact hSD2 | exact hSD.up (by omega)⟩
    · skip
      obtain ⟨bq, hq1, hq2⟩ := ty_13 (a := (y / 8 / 4) % 6) (b := (y / 8 / 4) / 8 % 6) (c := (y / 8 / 4) / 64 % 6) (d := (y / 8 / 4) / 512 % 6) (Nat.mod_lt _ (by omega)) (Nat.mod_lt _ (by omega)) (Nat.mod_lt _ (by omega)) (Nat.mod_lt _ (by omega))
      refine lv_aload_n hx hb dL_acts_154 rfl (lv_at hl 3 rfl) ?_
      refine lv_iload_n hx hb dL_acts_155 rfl (lv_at hl 2 rfl) ?_
      refine lv_iconst (v := nI 2) hx hb dL_acts_156 (by decide) ?_
      refine lv_ishr hx hb dL_acts_157 ?_
      refine mh_top (y := .int (nI (y / 8 / 4))) (by rw [shr_nI (by omega) (by omega) (show 2 ^ 2 = 4 from rfl)]) ?_
      refine cl_L_62 (As := [.ref xb, .int (nI (y / 8 / 4))]) (rest := []) hB (c_L_types l g H0 xb lim q n rm sl sv tx ln (y / 8 / 4) (hC) (by omega)) rfl hl.1 (Nat.le_of_ble_eq_true rfl) dL_acts_158 ⟨Nat.le_of_ble_eq_true rfl, Nat.le_of_ble_eq_true rfl⟩ ⟨Nat.le_of_ble_eq_true rfl, Nat.le_of_ble_eq_true rfl⟩ hS (by have hz9 := hS.1; rintro q9 (h9 | h9); exact Or.inl h9; exact Or.inr (by omega)) (fun v H1 locs hpo hfr hS => ?_)
      obtain ⟨rfl, hC⟩ := hpo
      generalize H1 = H at hfr hS hC ⊢
      refine W.widen (k := 0) (n := 0) (Nat.le_of_ble_eq_true rfl) (Nat.le_of_ble_eq_true rfl) ?_
      refine mn_if_eq (tgt := 178) hB dL_acts_161 (by decide) (by omega) (fun h => by exfalso; omega) (fun h_161 => ?_)
      refine lv_aload_n hx hb dL_acts_164 rfl (lv_at hl 3 rfl) ?_
      refine lv_iload_n hx hb dL_acts_165 rfl (lv_at hl 1 rfl) ?_
      refine cl_L_68 (As := [.int (nI ((y / 8) % 3))]) (rest := []) hB (f_X10_start l g H xb lim q n rm sl sv (txR tx (tcY ((y / 8 / 4) % 6) ((y / 8 / 4) / 8 % 6) ((y / 8 / 4) / 64 % 6) ((y / 8 / 4) / 512 % 6)) 13) 13 (tcY ((y / 8 / 4) % 6) ((y / 8 / 4) / 8 % 6) ((y / 8 / 4) / 64 % 6) ((y / 8 / 4) / 512 % 6)) ((y / 8) % 3) bq (hC) (txR_ok (Nat.mod_lt _ (by omega)) (Nat.mod_lt _ (by omega)) (Nat.mod_lt _ (by omega)) (Nat.mod_lt _ (by omega))) (by first | assumption | omega) (sz_wd (by omega)) (hq1)) hC.ob rfl hl.1 (Nat.le_of_ble_eq_true rfl) dL_acts_166 ⟨Nat.le_of_ble_eq_true rfl, Nat.le_of_ble_eq_true rfl⟩ ⟨Nat.le_of_ble_eq_true rfl, Nat.le_of_ble_eq_true rfl⟩ hS (by have hz9 := hS.1; rintro q9 (h9 | h9); exact Or.inl h9; exact Or.inr (by omega)) (fun v H1 locs hpo hfr hS => ?_)
      obtain ⟨rfl, hC⟩ := hpo
      generalize H1 = H at hfr hS hC ⊢
      refine W.widen (k := 28) (n := 385) (Nat.le_of_ble_eq_true rfl) (Nat.le_of_ble_eq_true rfl) ?_
      refine mh_top (y := .int (nI 8)) (by rw [hq2]) ?_
      have hSD2 : SD (t + 1) (stQ q (y / 8 % 3) bq) := sd_start hSD hW (by omega) (sz_wd (by omega)) (whole_ok (by omega) hq1)
      refine lv_bipush (v := nI 8) hx hb dL_acts_169 (by decide) ?_
      refine mn_icmp_ne (tgt := 178) hB dL_acts_171 (by decide) (by omega) (by omega) (fun h => by exfalso; omega) (fun h_171 => ?_)
      refine lv_iconst (v := nI 1) hx hb dL_acts_174 (by decide) ?_
      refine lv_goto (tgt := 179) hx hb dL_acts_175 (by decide) ?_
      refine mh_zret hB ⟨Nat.le_of_ble_eq_true rfl, Nat.le_of_ble_eq_true rfl⟩ hS dL_acts_179 (by first | rfl | decide | (split <;> rfl)) ⟨?_, ?_⟩
      · rfl
      · exact ⟨_, _, _, _, _, _, _, hC, by first | exact hSD2 | exact hSD.up (by omega)⟩
  · refine mh_top (y := .int (nI 4)) (by rw [h8]) ?_
    refine lv_tableIn (tgt := 180) (off := 161) hx hb dL_acts_19 (by decide) (by decide) (by decide) (by decide) ?_
    refine lv_aload_n hx hb dL_acts_180 rfl (lv_at hl 3 rfl) ?_
    refine lv_iload_n hx hb dL_acts_181 rfl (lv_at hl 1 rfl) ?_
    refine lv_iconst (v := nI 2) hx hb dL_acts_182 (by decide) ?_
    refine cl_L_26 (As := [.int (nI ((y / 8) % 3)), .int (nI 2)]) (rest := []) hB (f_X10_frame_2 l g H0 xb lim q n rm sl sv tx ln ((y / 8) % 3) (hC) (by first | assumption | omega)) hC.ob rfl hl.1 (Nat.le_of_ble_eq_true rfl) dL_acts_183 ⟨Nat.le_of_ble_eq_true rfl, Nat.le_of_ble_eq_true rfl⟩ ⟨Nat.le_of_ble_eq_true rfl, Nat.le_of_ble_eq_true rfl⟩ hS (by have hz9 := hS.1; rintro q (h | h) <;> first | exact Or.inr (by omega) | exact h.elim | exact Or.inl h | (simp only [ftA] at h ⊢; omega)) (fun v H1 locs hpo hfr hS => ?_)
    obtain ⟨rfl, rfl⟩ := hpo
    refine W.widen (k := 0) (n := 0) (Nat.le_of_ble_eq_true rfl) (Nat.le_of_ble_eq_true rfl) ?_
    refine mh_top (y := .int (nI (swF q (y / 8 % 3)))) (by rw [hF.s]) ?_
    refine lv_istore (lv' := [(7, .int (nI (swF q (y / 8 % 3)))), (4, .int (nI (nmQ q))), (3, .int (nI ((y / 8) % 3))), (2, .int (nI (y / 8))), (0, .ref xb), (1, .int (nI y))]) hx hb dL_acts_186 hl (by decide) rfl (fun ls hl => ?_)
    refine lv_aload_n hx hb dL_acts_188 rfl (lv_at hl 4 rfl) ?_
    refine lv_iconst (v := nI 1) hx hb dL_acts_189 (by decide) ?_
    refine cl_L_19 (As := [.int (nI 1)]) (rest := []) hB (f_X10_about_1 l g H0 xb lim q n rm sl sv tx ln (hC)) hC.ob rfl hl.1 (Nat.le_of_ble_eq_true rfl) dL_acts_190 ⟨Nat.le_of_ble_eq_true rfl, Nat.le_of_ble_eq_true rfl⟩ ⟨Nat.le_of_ble_eq_true rfl, Nat.le_of_ble_eq_true rfl⟩ hS (by have hz9 := hS.1; rintro q (h | h) <;> first | exact Or.inr (by omega) | exact h.elim | exact Or.inl h | (simp only [ftA] at h ⊢; omega)) (fun v H1 locs hpo hfr hS => ?_)
    obtain ⟨rfl, rfl⟩ := hpo
    refine W.widen (k := 0) (n := 0) (Nat.le_of_ble_eq_true rfl) (Nat.le_of_ble_eq_true rfl) ?_
    refine lv_istore (lv' := [(8, .int (abV q 1)), (7, .int (nI (swF q (y / 8 % 3)))), (4, .int (nI (nmQ q))), (3, .int (nI ((y / 8) % 3))), (2, .int (nI (y / 8))), (0, .ref xb), (1, .int (nI y))]) hx hb dL_acts_193 hl (by decide) rfl (fun ls hl => ?_)
    refine lv_iload hx hb dL_acts_195 (lv_at hl 2 rfl) ?_
    refine mn_if_eq (tgt := 249) hB dL_acts_197 (by decide) (by omega) (fun h_197 => ?_) (fun h_197 => ?_)
    · skip
      refine lv_iconst (v := nI 1) hx hb dL_acts_249 (by decide) ?_
      refine lv_goto (tgt := 254) hx hb dL_acts_250 (by decide) ?_
      refine mh_zret hB ⟨Nat.le_of_ble_eq_true rfl, Nat.le_of_ble_eq_true rfl⟩ hS dL_acts_254 (by first | rfl | decide | (split <;> rfl)) ⟨?_, ?_⟩
      · rfl
      · exact ⟨_, _, _, _, _, _, _, hC, by first | exact hSD2 | exact hSD.up (by omega)⟩
    · skip
      refine lv_aload_n hx hb dL_acts_200 rfl (lv_at hl 5 rfl) ?_
      refine lv_iload_n hx hb dL_acts_201 rfl (lv_at hl 3 rfl) ?_
      refine lv_iconst (v := nI 0) hx hb dL_acts_202 (by decide) ?_
      refine cl_L_26 (As := [.int (nI ((y / 8) % 3)), .int (nI 0)]) (rest := []) hB (f_X10_frame_0 l g H0 xb lim q n rm sl sv tx ln ((y / 8) % 3) (hC) (by first | assumption | omega)) hC.ob rfl hl.1 (Nat.le_of_ble_eq_true rfl) dL_acts_203 ⟨Nat.le_of_ble_eq_true rfl, Nat.le_of_ble_eq_true rfl⟩ ⟨Nat.le_of_ble_eq_true rfl, Nat.le_of_ble_eq_true rfl⟩ hS (by have hz9 := hS.1; rintro q (h | h) <;> first | exact Or.inr (by omega) | exact h.elim | exact Or.inl h | (simp only [ftA] at h ⊢; omega)) (fun v H1 locs hpo hfr hS => ?_)
      obtain ⟨rfl, rfl⟩ := hpo
      refine W.widen (k := 0) (n := 0) (Nat.le_of_ble_eq_true rfl) (Nat.le_of_ble_eq_true rfl) ?_
      refine mh_top (y := .int (nI (wdF q (y / 8 % 3)))) (by rw [hF.w]) ?_
      refine mn_if_eq (tgt := 249) hB dL_acts_206 (by decide) (by omega) (fun h_206 => ?_) (fun h_206 => ?_)
      · skip
        refine lv_iconst (v := nI 1) hx hb dL_acts_249 (by decide) ?_
        refine lv_goto (tgt := 254) hx hb dL_acts_250 (by decide) ?_
        refine mh_zret hB ⟨Nat.le_of_ble_eq_true rfl, Nat.le_of_ble_eq_true rfl⟩ hS dL_acts_254 (by first | rfl | decide | (split <;> rfl)) ⟨?_, ?_⟩
        · rfl
        · exact ⟨_, _, _, _, _, _, _, hC, by first | exact hSD2 | exact hSD.up (by omega)⟩
      · skip
        refine lv_aload_n hx hb dL_acts_209 rfl (lv_at hl 5 rfl) ?_
        refine lv_iload_n hx hb dL_acts_210 rfl (lv_at hl 3 rfl) ?_
        refine lv_iconst (v := nI 1) hx hb dL_acts_211 (by decide) ?_
        refine lv_iload_n hx hb dL_acts_212 rfl (lv_at hl 4 rfl) ?_
        refine lv_iconst (v := nI 4) hx hb dL_acts_213 (by decide) ?_
        refine lv_ishr hx hb dL_acts_214 ?_
        refine mh_top (y := .int (nI (y / 8 / 16))) (by rw [shr_nI (by omega) (by omega) (show 2 ^ 4 = 16 from rfl)]) ?_
        refine lv_bipush (v := nI 9) hx hb dL_acts_215 (by decide) ?_
        refine mn_irem hB dL_acts_217 (by omega) (by omega) (by omega) ?_
        refine mn_iadd hB dL_acts_218 ?_
        refine cl_L_71 (As := [.int (nI ((y / 8) % 3)), .int (nI (1 + ((y / 8 / 16) % 9)))]) (rest := []) hB (f_X10_sew l g H0 xb lim q n rm sl sv tx ln ((y / 8) % 3) (1 + ((y / 8 / 16) % 9)) (hC) (by first | assumption | omega) (by omega) (by omega) (wd_sz hF (by omega)) (by omega)) hC.ob rfl hl.1 (Nat.le_of_ble_eq_true rfl) dL_acts_219 ⟨Nat.le_of_ble_eq_true rfl, Nat.le_of_ble_eq_true rfl⟩ ⟨Nat.le_of_ble_eq_true rfl, Nat.le_of_ble_eq_true rfl⟩ hS (by have hz9 := hS.1; rintro q9 (h9 | h9); exact Or.inl h9; exact Or.inr (by omega)) (fun v H1 locs hpo hfr hS => ?_)
        obtain ⟨rfl, hC⟩ := hpo
        generalize H1 = H at hfr hS hC ⊢
        refine W.widen (k := 26) (n := 126) (Nat.le_of_ble_eq_true rfl) (Nat.le_of_ble_eq_true rfl) ?_
        obtain ⟨hSD2, hsw2, htn2⟩ := sd_sewE (n := (1 + y / 8 / 16 % 9)) hSD hW (show y / 8 % 3 < 3 by omega) (show 0 < nmQ q by omega)
        have hnm2 := sewE_nm (n := (1 + y / 8 / 16 % 9)) (show y / 8 % 3 < 3 by omega) hW (show 0 < nmQ q by omega)
        have hW2 := hC.wf
        have hnl := sewN_le (y / 8 % 3) (tnQ q) (1 + y / 8 / 16 % 9) q
        have hml := Nat.mod_lt (tnQ q + 1) (show 0 < nmQ q by omega)
        have htl := tn_lt hW (by omega)
        refine lv_aload_n hx hb dL_acts_222 rfl (lv_at hl 5 rfl) ?_
        refine lv_iload_n hx hb dL_acts_223 rfl (lv_at hl 3 rfl) ?_
        refine lv_iconst (v := nI 2) hx hb dL_acts_224 (by decide) ?_
        refine cl_L_26 (As := [.int (nI ((y / 8) % 3)), .int (nI 2)]) (rest := [.int (nI (sewN ((y / 8) % 3) (tnQ q) (1 + ((y / 8 / 16) % 9)) q))]) hB (f_X10_frame_2 l g H xb lim (sewE ((y / 8) % 3) (1 + ((y / 8 / 16) % 9)) q) (nxtS n) (remA rm n q) sl sv tx ln ((y / 8) % 3) (hC) (by first | assumption | omega)) hC.ob rfl hl.1 (Nat.le_of_ble_eq_true rfl) dL_acts_225 ⟨Nat.le_of_ble_eq_true rfl, Nat.le_of_ble_eq_true rfl⟩ ⟨Nat.le_of_ble_eq_true rfl, Nat.le_of_ble_eq_true rfl⟩ hS (by have hz9 := hS.1; rintro q (h | h) <;> first | exact Or.inr (by omega) | exact h.elim | exact Or.inl h | (simp only [ftA] at h ⊢; omega)) (fun v H1 locs hpo hfr hS => ?_)
        obtain ⟨rfl, rfl⟩ := hpo
        refine W.widen (k := 26) (n := 126) (Nat.le_of_ble_eq_true rfl) (Nat.le_of_ble_eq_true rfl) ?_
        refine mh_top (y := .int (nI (swF q (y / 8 % 3) + sewN (y / 8 % 3) (tnQ q) (1 + y / 8 / 16 % 9) q))) (by rw [(hW2.fr (show y / 8 % 3 < 3 by omega)).s, hsw2]) ?_
        refine lv_iload hx hb dL_acts_228 (lv_at hl 1 rfl) ?_
        refine mn_isub hB dL_acts_230 (by omega) ?_
        refine mn_icmp_ne (tgt := 253) hB dL_acts_231 (by decide) (by omega) (by omega) (fun h => by exfalso; omega) (fun h_231 => ?_)
        refine lv_aload_n hx hb dL_acts_234 rfl (lv_at hl 5 rfl) ?_
        refine lv_iconst (v := nI 1) hx hb dL_acts_235 (by decide) ?_
        refine cl_L_19 (As := [.int (nI 1)]) (rest := []) hB (f_X10_about_1 l g H xb lim (sewE ((y / 8) % 3) (1 + ((y / 8 / 16) % 9)) q) (nxtS n) (remA rm n q) sl sv tx ln (hC)) hC.ob rfl hl.1 (Nat.le_of_ble_eq_true rfl) dL_acts_236 ⟨Nat.le_of_ble_eq_true rfl, Nat.le_of_ble_eq_true rfl⟩ ⟨Nat.le_of_ble_eq_true rfl, Nat.le_of_ble_eq_true rfl⟩ hS (by have hz9 := hS.1; rintro q (h | h) <;> first | exact Or.inr (by omega) | exact h.elim | exact Or.inl h | (simp only [ftA] at h ⊢; omega)) (fun v H1 locs hpo hfr hS => ?_)
        obtain ⟨rfl, rfl⟩ := hpo
        refine W.widen (k := 26) (n := 126) (Nat.le_of_ble_eq_true rfl) (Nat.le_of_ble_eq_true rfl) ?_
        refine mh_top (y := .int (nI ((tnQ q + 1) % nmQ q))) (by rw [show abV (sewE (y / 8 % 3) (1 + y / 8 / 16 % 9) q) 1 = nI ((tnQ q + 1) % nmQ q) from (if_neg (by rw [hnm2]; omega)).trans htn2]) ?_
        refine lv_iload hx hb dL_acts_239 (lv_at hl 0 rfl) ?_
        refine mh_top (y := .int (nI (tnQ q))) (by rw [abV_1 hW (by omega)]) ?_
        refine lv_iconst (v := nI 1) hx hb dL_acts_241 (by decide) ?_
        refine mn_iadd hB dL_acts_242 ?_
        refine lv_iload hx hb dL_acts_243 (lv_at hl 2 rfl) ?_
        refine mn_irem hB dL_acts_245 (by omega) (by omega) (by omega) ?_
        refine mn_icmp_ne (tgt := 253) hB dL_acts_246 (by decide) (by omega) (by omega) (fun h => by exfalso; omega) (fun h_246 => ?_)
        refine lv_iconst (v := nI 1) hx hb dL_acts_249 (by decide) ?_
        refine lv_goto (tgt := 254) hx hb dL_acts_250 (by decide) ?_
        refine mh_zret hB ⟨Nat.le_of_ble_eq_true rfl, Nat.le_of_ble_eq_true rfl⟩ hS dL_acts_254 (by first | rfl | decide | (split <;> rfl)) ⟨?_, ?_⟩
        · rfl
        · exact ⟨_, _, _, _, _, _, _, hC, by first | exact hSD2 | exact hSD.up (by omega)⟩
  · refine mh_top (y := .int (nI 5)) (by rw [h8]) ?_
    refine lv_tableIn (tgt := 180) (off := 161) hx hb dL_acts_19 (by decide) (by decide) (by decide) (by decide) ?_
    refine lv_aload_n hx hb dL_acts_180 rfl (lv_at hl 3 rfl) ?_
    refine lv_iload_n hx hb dL_acts_181 rfl (lv_at hl 1 rfl) ?_
    refine lv_iconst (v := nI 2) hx hb dL_acts_182 (by decide) ?_
    refine cl_L_26 (As := [.int (nI ((y / 8) % 3)), .int (nI 2)]) (rest := []) hB (f_X10_frame_2 l g H0 xb lim q n rm sl sv tx ln ((y / 8) % 3) (hC) (by first | assumption | omega)) hC.ob rfl hl.1 (Nat.le_of_ble_eq_true rfl) dL_acts_183 ⟨Nat.le_of_ble_eq_true rfl, Nat.le_of_ble_eq_true rfl⟩ ⟨Nat.le_of_ble_eq_true rfl, Nat.le_of_ble_eq_true rfl⟩ hS (by have hz9 := hS.1; rintro q (h | h) <;> first | exact Or.inr (by omega) | exact h.elim | exact Or.inl h | (simp only [ftA] at h ⊢; omega)) (fun v H1 locs hpo hfr hS => ?_)
    obtain ⟨rfl, rfl⟩ := hpo
    refine W.widen (k := 0) (n := 0) (Nat.le_of_ble_eq_true rfl) (Nat.le_of_ble_eq_true rfl) ?_
    refine mh_top (y := .int (nI (swF q (y / 8 % 3)))) (by rw [hF.s]) ?_
    refine lv_istore (lv' := [(7, .int (nI (swF q (y / 8 % 3)))), (4, .int (nI (nmQ q))), (3, .int (nI ((y / 8) % 3))), (2, .int (nI (y / 8))), (0, .ref xb), (1, .int (nI y))]) hx hb dL_acts_186 hl (by decide) rfl (fun ls hl => ?_)
    refine lv_aload_n hx hb dL_acts_188 rfl (lv_at hl 4 rfl) ?_
    refine lv_iconst (v := nI 1) hx hb dL_acts_189 (by decide) ?_
    refine cl_L_19 (As := [.int (nI 1)]) (rest := []) hB (f_X10_about_1 l g H0 xb lim q n rm sl sv tx ln (hC)) hC.ob rfl hl.1 (Nat.le_of_ble_eq_true rfl) dL_acts_190 ⟨Nat.le_of_ble_eq_true rfl, Nat.le_of_ble_eq_true rfl⟩ ⟨Nat.le_of_ble_eq_true rfl, Nat.le_of_ble_eq_true rfl⟩ hS (by have hz9 := hS.1; rintro q (h | h) <;> first | exact Or.inr (by omega) | exact h.elim | exact Or.inl h | (simp only [ftA] at h ⊢; omega)) (fun v H1 locs hpo hfr hS => ?_)
    obtain ⟨rfl, rfl⟩ := hpo
    refine W.widen (k := 0) (n := 0) (Nat.le_of_ble_eq_true rfl) (Nat.le_of_ble_eq_true rfl) ?_
    refine lv_istore (lv' := [(8, .int (abV q 1)), (7, .int (nI (swF q (y / 8 % 3)))), (4, .int (nI (nmQ q))), (3, .int (nI ((y / 8) % 3))), (2, .int (nI (y / 8))), (0, .ref xb), (1, .int (nI y))]) hx hb dL_acts_193 hl (by decide) rfl (fun ls hl => ?_)
    refine lv_iload hx hb dL_acts_195 (lv_at hl 2 rfl) ?_
    refine mn_if_eq (tgt := 249) hB dL_acts_197 (by decide) (by omega) (fun h_197 => ?_) (fun h_197 => ?_)
    · skip
      refine lv_iconst (v := nI 1) hx hb dL_acts_249 (by decide) ?_
      refine lv_goto (tgt := 254) hx hb dL_acts_250 (by decide) ?_
      refine mh_zret hB ⟨Nat.le_of_ble_eq_true rfl, Nat.le_of_ble_eq_true rfl⟩ hS dL_acts_254 (by first | rfl | decide | (split <;> rfl)) ⟨?_, ?_⟩
      · rfl
      · exact ⟨_, _, _, _, _, _, _, hC, by first | exact hSD2 | exact hSD.up (by omega)⟩
    · skip
      refine lv_aload_n hx hb dL_acts_200 rfl (lv_at hl 5 rfl) ?_
      refine lv_iload_n hx hb dL_acts_201 rfl (lv_at hl 3 rfl) ?_
      refine lv_iconst (v := nI 0) hx hb dL_acts_202 (by decide) ?_
      refine cl_L_26 (As := [.int (nI ((y / 8) % 3)), .int (nI 0)]) (rest := []) hB (f_X10_frame_0 l g H0 xb lim q n rm sl sv tx ln ((y / 8) % 3) (hC) (by first | assumption | omega)) hC.ob rfl hl.1 (Nat.le_of_ble_eq_true rfl) dL_acts_203 ⟨Nat.le_of_ble_eq_true rfl, Nat.le_of_ble_eq_true rfl⟩ ⟨Nat.le_of_ble_eq_true rfl, Nat.le_of_ble_eq_true rfl⟩ hS (by have hz9 := hS.1; rintro q (h | h) <;> first | exact Or.inr (by omega) | exact h.elim | exact Or.inl h | (simp only [ftA] at h ⊢; omega)) (fun v H1 locs hpo hfr hS => ?_)
      obtain ⟨rfl, rfl⟩ := hpo
      refine W.widen (k := 0) (n := 0) (Nat.le_of_ble_eq_true rfl) (Nat.le_of_ble_eq_true rfl) ?_
      refine mh_top (y := .int (nI (wdF q (y / 8 % 3)))) (by rw [hF.w]) ?_
      refine mn_if_eq (tgt := 249) hB dL_acts_206 (by decide) (by omega) (fun h_206 => ?_) (fun h_206 => ?_)
      · skip
        refine lv_iconst (v := nI 1) hx hb dL_acts_249 (by decide) ?_
        refine lv_goto (tgt := 254) hx hb dL_acts_250 (by decide) ?_
        refine mh_zret hB ⟨Nat.le_of_ble_eq_true rfl, Nat.le_of_ble_eq_true rfl⟩ hS dL_acts_254 (by first | rfl | decide | (split <;> rfl)) ⟨?_, ?_⟩
        · rfl
        · exact ⟨_, _, _, _, _, _, _, hC, by first | exact hSD2 | exact hSD.up (by omega)⟩
      · skip
        refine lv_aload_n hx hb dL_acts_209 rfl (lv_at hl 5 rfl) ?_
        refine lv_iload_n hx hb dL_acts_210 rfl (lv_at hl 3 rfl) ?_
        refine lv_iconst (v := nI 1) hx hb dL_acts_211 (by decide) ?_
        refine lv_iload_n hx hb dL_acts_212 rfl (lv_at hl 4 rfl) ?_
        refine lv_iconst (v := nI 4) hx hb dL_acts_213 (by decide) ?_
        refine lv_ishr hx hb dL_acts_214 ?_
        refine mh_top (y := .int (nI (y / 8 / 16))) (by rw [shr_nI (by omega) (by omega) (show 2 ^ 4 = 16 from rfl)]) ?_
        refine lv_bipush (v := nI 9) hx hb dL_acts_215 (by decide) ?_
        refine mn_irem hB dL_acts_217 (by omega) (by omega) (by omega) ?_
        refine mn_iadd hB dL_acts_218 ?_
        refine cl_L_71 (As := [.int (nI ((y / 8) % 3)), .int (nI (1 + ((y / 8 / 16) % 9)))]) (rest := []) hB (f_X10_sew l g H0 xb lim q n rm sl sv tx ln ((y / 8) % 3) (1 + ((y / 8 / 16) % 9)) (hC) (by first | assumption | omega) (by omega) (by omega) (wd_sz hF (by omega)) (by omega)) hC.ob rfl hl.1 (Nat.le_of_ble_eq_true rfl) dL_acts_219 ⟨Nat.le_of_ble_eq_true rfl, Nat.le_of_ble_eq_true rfl⟩ ⟨Nat.le_of_ble_eq_true rfl, Nat.le_of_ble_eq_true rfl⟩ hS (by have hz9 := hS.1; rintro q9 (h9 | h9); exact Or.inl h9; exact Or.inr (by omega)) (fun v H1 locs hpo hfr hS => ?_)
        obtain ⟨rfl, hC⟩ := hpo
        generalize H1 = H at hfr hS hC ⊢
        refine W.widen (k := 26) (n := 126) (Nat.le_of_ble_eq_true rfl) (Nat.le_of_ble_eq_true rfl) ?_
        obtain ⟨hSD2, hsw2, htn2⟩ := sd_sewE (n := (1 + y / 8 / 16 % 9)) hSD hW (show y / 8 % 3 < 3 by omega) (show 0 < nmQ q by omega)
        have hnm2 := sewE_nm (n := (1 + y / 8 / 16 % 9)) (show y / 8 % 3 < 3 by omega) hW (show 0 < nmQ q by omega)
        have hW2 := hC.wf
        have hnl := sewN_le (y / 8 % 3) (tnQ q) (1 + y / 8 / 16 % 9) q
        have hml := Nat.mod_lt (tnQ q + 1) (show 0 < nmQ q by omega)
        have htl := tn_lt hW (by omega)
        refine lv_aload_n hx hb dL_acts_222 rfl (lv_at hl 5 rfl) ?_
        refine lv_iload_n hx hb dL_acts_223 rfl (lv_at hl 3 rfl) ?_
        refine lv_iconst (v := nI 2) hx hb dL_acts_224 (by decide) ?_
        refine cl_L_26 (As := [.int (nI ((y / 8) % 3)), .int (nI 2)]) (rest := [.int (nI (sewN ((y / 8) % 3) (tnQ q) (1 + ((y / 8 / 16) % 9)) q))]) hB (f_X10_frame_2 l g H xb lim (sewE ((y / 8) % 3) (1 + ((y / 8 / 16) % 9)) q) (nxtS n) (remA rm n q) sl sv tx ln ((y / 8) % 3) (hC) (by first | assumption | omega)) hC.ob rfl hl.1 (Nat.le_of_ble_eq_true rfl) dL_acts_225 ⟨Nat.le_of_ble_eq_true rfl, Nat.le_of_ble_eq_true rfl⟩ ⟨Nat.le_of_ble_eq_true rfl, Nat.le_of_ble_eq_true rfl⟩ hS (by have hz9 := hS.1; rintro q (h | h) <;> first | exact Or.inr (by omega) | exact h.elim | exact Or.inl h | (simp only [ftA] at h ⊢; omega)) (fun v H1 locs hpo hfr hS => ?_)
        obtain ⟨rfl, rfl⟩ := hpo
        refine W.widen (k := 26) (n := 126) (Nat.le_of_ble_eq_true rfl) (Nat.le_of_ble_eq_true rfl) ?_
        refine mh_top (y := .int (nI (swF q (y / 8 % 3) + sewN (y / 8 % 3) (tnQ q) (1 + y / 8 / 16 % 9) q))) (by rw [(hW2.fr (show y / 8 % 3 < 3 by omega)).s, hsw2]) ?_
        refine lv_iload hx hb dL_acts_228 (lv_at hl 1 rfl) ?_
        refine mn_isub hB dL_acts_230 (by omega) ?_
        refine mn_icmp_ne (tgt := 253) hB dL_acts_231 (by decide) (by omega) (by omega) (fun h => by exfalso; omega) (fun h_231 => ?_)
        refine lv_aload_n hx hb dL_acts_234 rfl (lv_at hl 5 rfl) ?_
        refine lv_iconst (v := nI 1) hx hb dL_acts_235 (by decide) ?_
        refine cl_L_19 (As := [.int (nI 1)]) (rest := []) hB (f_X10_about_1 l g H xb lim (sewE ((y / 8) % 3) (1 + ((y / 8 / 16) % 9)) q) (nxtS n) (remA rm n q) sl sv tx ln (hC)) hC.ob rfl hl.1 (Nat.le_of_ble_eq_true rfl) dL_acts_236 ⟨Nat.le_of_ble_eq_true rfl, Nat.le_of_ble_eq_true rfl⟩ ⟨Nat.le_of_ble_eq_true rfl, Nat.le_of_ble_eq_true rfl⟩ hS (by have hz9 := hS.1; rintro q (h | h) <;> first | exact Or.inr (by omega) | exact h.elim | exact Or.inl h | (simp only [ftA] at h ⊢; omega)) (fun v H1 locs hpo hfr hS => ?_)
        obtain ⟨rfl, rfl⟩ := hpo
        refine W.widen (k := 26) (n := 126) (Nat.le_of_ble_eq_true rfl) (Nat.le_of_ble_eq_true rfl) ?_
        refine mh_top (y := .int (nI ((tnQ q + 1) % nmQ q))) (by rw [show abV (sewE (y / 8 % 3) (1 + y / 8 / 16 % 9) q) 1 = nI ((tnQ q + 1) % nmQ q) from (if_neg (by rw [hnm2]; omega)).trans htn2]) ?_
        refine lv_iload hx hb dL_acts_239 (lv_at hl 0 rfl) ?_
        refine mh_top (y := .int (nI (tnQ q))) (by rw [abV_1 hW (by omega)]) ?_
        refine lv_iconst (v := nI 1) hx hb dL_acts_241 (by decide) ?_
        refine mn_iadd hB dL_acts_242 ?_
        refine lv_iload hx hb dL_acts_243 (lv_at hl 2 rfl) ?_
        refine mn_irem hB dL_acts_245 (by omega) (by omega) (by omega) ?_
        refine mn_icmp_ne (tgt := 253) hB dL_acts_246 (by decide) (by omega) (by omega) (fun h => by exfalso; omega) (fun h_246 => ?_)
        refine lv_iconst (v := nI 1) hx hb dL_acts_249 (by decide) ?_
        refine lv_goto (tgt := 254) hx hb dL_acts_250 (by decide) ?_
        refine mh_zret hB ⟨Nat.le_of_ble_eq_true rfl, Nat.le_of_ble_eq_true rfl⟩ hS dL_acts_254 (by first | rfl | decide | (split <;> rfl)) ⟨?_, ?_⟩
        · rfl
        · exact ⟨_, _, _, _, _, _, _, hC, by first | exact hSD2 | exact hSD.up (by omega)⟩
  · refine mh_top (y := .int (nI 6)) (by rw [h8]) ?_
    refine lv_tableIn (tgt := 255) (off := 236) hx hb dL_acts_19 (by decide) (by decide) (by decide) (by decide) ?_
    refine lv_aload_n hx hb dL_acts_255 rfl (lv_at hl 3 rfl) ?_
    refine lv_iload_n hx hb dL_acts_256 rfl (lv_at hl 1 rfl) ?_
    refine lv_iload_n hx hb dL_acts_257 rfl (lv_at hl 2 rfl) ?_
    refine lv_iconst (v := nI 4) hx hb dL_acts_258 (by decide) ?_
    refine lv_ishr hx hb dL_acts_259 ?_
    refine mh_top (y := .int (nI (y / 8 / 16))) (by rw [shr_nI (by omega) (by omega) (show 2 ^ 4 = 16 from rfl)]) ?_
    refine lv_sipush (v := nI 10000) hx hb dL_acts_260 (by decide +kernel) ?_
    refine mn_irem hB dL_acts_263 (by omega) (by omega) (by omega) ?_
    by_cases h9 : 0 < szF q (y / 8 % 3) ∧ swF q (y / 8 % 3) = szF q (y / 8 % 3)
    · skip
      refine cl_L_74 (As := [.ref xb, .int (nI ((y / 8) % 3)), .int (nI ((y / 8 / 16) % 10000))]) (rest := []) hB (c_L_gets_y l g H0 xb lim q n rm sl sv tx ln ((y / 8) % 3) ((y / 8 / 16) % 10000) (hC) (by first | assumption | omega) (by omega) (h9.1) (h9.2)) rfl hl.1 (Nat.le_of_ble_eq_true rfl) dL_acts_264 ⟨Nat.le_of_ble_eq_true rfl, Nat.le_of_ble_eq_true rfl⟩ ⟨Nat.le_of_ble_eq_true rfl, Nat.le_of_ble_eq_true rfl⟩ hS (by have hz9 := hS.1; rintro q9 (h9 | h9); exact Or.inl h9; exact Or.inr (by omega)) (fun v H1 locs hpo hfr hS => ?_)
      obtain ⟨rfl, hC⟩ := hpo
      generalize H1 = H at hfr hS hC ⊢
      refine W.widen (k := 26) (n := 126) (Nat.le_of_ble_eq_true rfl) (Nat.le_of_ble_eq_true rfl) ?_
      have hSD2 : SD (t + 1) (rafQ q (y / 8 % 3) (y / 8 / 16 % 10000)) := sd_raf hSD hW hZw (by omega) (by omega) h9.1 h9.2
      refine mh_zret hB ⟨Nat.le_of_ble_eq_true rfl, Nat.le_of_ble_eq_true rfl⟩ hS dL_acts_267 (by first | rfl | decide | (split <;> rfl)) ⟨?_, ?_⟩
      · rfl
      · exact ⟨_, _, _, _, _, _, _, hC, by first | exact hSD2 | exact hSD.up (by omega)⟩
    · skip
      refine cl_L_74 (As := [.ref xb, .int (nI ((y / 8) % 3)), .int (nI ((y / 8 / 16) % 10000))]) (rest := []) hB (c_L_gets_n l g H0 xb lim q n rm sl sv tx ln ((y / 8) % 3) ((y / 8 / 16) % 10000) (hC) (by first | assumption | omega) (by omega) (h9)) rfl hl.1 (Nat.le_of_ble_eq_true rfl) dL_acts_264 ⟨Nat.le_of_ble_eq_true rfl, Nat.le_of_ble_eq_true rfl⟩ ⟨Nat.le_of_ble_eq_true rfl, Nat.le_of_ble_eq_true rfl⟩ hS (by have hz9 := hS.1; rintro q (h | h) <;> first | exact Or.inr (by omega) | exact h.elim | exact Or.inl h | (simp only [ftA] at h ⊢; omega)) (fun v H1 locs hpo hfr hS => ?_)
      obtain ⟨rfl, rfl⟩ := hpo
      refine W.widen (k := 0) (n := 0) (Nat.le_of_ble_eq_true rfl) (Nat.le_of_ble_eq_true rfl) ?_
      refine mh_zret hB ⟨Nat.le_of_ble_eq_true rfl, Nat.le_of_ble_eq_true rfl⟩ hS dL_acts_267 (by first | rfl | decide | (split <;> rfl)) ⟨?_, ?_⟩
      · rfl
      · exact ⟨_, _, _, _, _, _, _, hC, by first | exact hSD2 | exact hSD.up (by omega)⟩
  · refine mh_top (y := .int (nI 7)) (by rw [h8]) ?_
    refine lv_tableOut (tgt := 268) hx hb dL_acts_19 (by decide) (by decide) ?_
    refine lv_iload_n hx hb dL_acts_268 rfl (lv_at hl 2 rfl) ?_
    refine lv_iconst (v := nI 4) hx hb dL_acts_269 (by decide) ?_
    refine lv_ishr hx hb dL_acts_270 ?_
    refine mh_top (y := .int (nI (y / 8 / 16))) (by rw [shr_nI (by omega) (by omega) (show 2 ^ 4 = 16 from rfl)]) ?_
    refine lv_bipush (v := nI 7) hx hb dL_acts_271 (by decide) ?_
    refine lv_iand hx hb dL_acts_273 ?_
    refine mh_top (y := .int (nI (y / 8 / 16 % 8))) (congrArg Value.int (and_nI (k := y / 8 / 16) (j := 3) (d := 8) (by omega) (by omega) rfl (by omega))) ?_
    refine mn_if_le (tgt := 325) hB dL_acts_274 (by decide) (by omega) (fun h_274 => ?_) (fun h_274 => ?_)
    · skip
      refine lv_iload_n hx hb dL_acts_325 rfl (lv_at hl 2 rfl) ?_
      refine lv_bipush (v := nI 7) hx hb dL_acts_326 (by decide) ?_
      refine lv_ishr hx hb dL_acts_328 ?_
      refine mh_top (y := .int (nI (y / 8 / 128))) (by rw [shr_nI (by omega) (by omega) (show 2 ^ 7 = 128 from rfl)]) ?_
      refine lv_iconst (v := nI 1) hx hb dL_acts_329 (by decide) ?_
      refine lv_iand hx hb dL_acts_330 ?_
      refine mh_top (y := .int (nI (y / 8 / 128 % 2))) (congrArg Value.int (and_nI (k := y / 8 / 128) (j := 1) (d := 2) (by omega) (by omega) rfl (by omega))) ?_
      refine mn_if_ne (tgt := 358) hB dL_acts_331 (by decide) (by omega) (fun h_331 => ?_) (fun h_331 => ?_)
      · skip
        refine lv_aload_n hx hb dL_acts_358 rfl (lv_at hl 3 rfl) ?_
        refine lv_iload_n hx hb dL_acts_359 rfl (lv_at hl 1 rfl) ?_
        refine lv_iconst (v := nI 0) hx hb dL_acts_360 (by decide) ?_
        refine cl_L_26 (As := [.int (nI ((y / 8) % 3)), .int (nI 0)]) (rest := []) hB (f_X10_frame_0 l g H0 xb lim q n rm sl sv tx ln ((y / 8) % 3) (hC) (by first | assumption | omega)) hC.ob rfl hl.1 (Nat.le_of_ble_eq_true rfl) dL_acts_361 ⟨Nat.le_of_ble_eq_true rfl, Nat.le_of_ble_eq_true rfl⟩ ⟨Nat.le_of_ble_eq_true rfl, Nat.le_of_ble_eq_true rfl⟩ hS (by have hz9 := hS.1; rintro q (h | h) <;> first | exact Or.inr (by omega) | exact h.elim | exact Or.inl h | (simp only [ftA] at h ⊢; omega)) (fun v H1 locs hpo hfr hS => ?_)
        obtain ⟨rfl, rfl⟩ := hpo
        refine W.widen (k := 0) (n := 0) (Nat.le_of_ble_eq_true rfl) (Nat.le_of_ble_eq_true rfl) ?_
        refine mh_top (y := .int (nI (wdF q (y / 8 % 3)))) (by rw [hF.w]) ?_
        refine mn_if_eq (tgt := 384) hB dL_acts_364 (by decide) (by omega) (fun h_364 => ?_) (fun h_364 => ?_)
        · skip
          refine lv_iconst (v := nI 1) hx hb dL_acts_384 (by decide) ?_
          refine lv_goto (tgt := 389) hx hb dL_acts_385 (by decide) ?_
          refine mh_zret hB ⟨Nat.le_of_ble_eq_true rfl, Nat.le_of_ble_eq_true rfl⟩ hS dL_acts_389 (by first | rfl | decide | (split <;> rfl)) ⟨?_, ?_⟩
          · rfl
          · exact ⟨_, _, _, _, _, _, _, hC, by first | exact hSD2 | exact hSD.up (by omega)⟩
        · skip
          refine lv_aload_n hx hb dL_acts_367 rfl (lv_at hl 3 rfl) ?_
          refine lv_iload_n hx hb dL_acts_368 rfl (lv_at hl 1 rfl) ?_
          refine cl_L_84 (As := [.int (nI ((y / 8) % 3))]) (rest := []) hB (f_X10_takeApart l g H0 xb lim q n rm sl sv tx ln ((y / 8) % 3) (hC) (by first | assumption | omega) (wd_sz hF (by omega))) hC.ob rfl hl.1 (Nat.le_of_ble_eq_true rfl) dL_acts_369 ⟨Nat.le_of_ble_eq_true rfl, Nat.le_of_ble_eq_true rfl⟩ ⟨Nat.le_of_ble_eq_true rfl, Nat.le_of_ble_eq_true rfl⟩ hS (by have hz9 := hS.1; rintro q9 (h9 | h9); exact Or.inl h9; exact Or.inr (by omega)) (fun v H1 locs hpo hfr hS => ?_)
          obtain ⟨rfl, hC⟩ := hpo
          generalize H1 = H at hfr hS hC ⊢
          refine W.widen (k := 26) (n := 126) (Nat.le_of_ble_eq_true rfl) (Nat.le_of_ble_eq_true rfl) ?_
          have hSD2 : SD (t + 1) (tapQ q (y / 8 % 3)) := sd_tap hSD hW (by omega)
          have hW2 := hC.wf
          refine mn_if_lt (tgt := 388) hB dL_acts_372 (by decide) (by omega) (fun h => by exfalso; omega) (fun h_372 => ?_)
          refine lv_aload_n hx hb dL_acts_375 rfl (lv_at hl 3 rfl) ?_
          refine lv_iload_n hx hb dL_acts_376 rfl (lv_at hl 1 rfl) ?_
          refine lv_iconst (v := nI 0) hx hb dL_acts_377 (by decide) ?_
          refine cl_L_26 (As := [.int (nI ((y / 8) % 3)), .int (nI 0)]) (rest := []) hB (f_X10_frame_0 l g H xb lim (tapQ q ((y / 8) % 3)) (nxtS n) (remA rm n q) sl sv tx ln ((y / 8) % 3) (hC) (by first | assumption | omega)) hC.ob rfl hl.1 (Nat.le_of_ble_eq_true rfl) dL_acts_378 ⟨Nat.le_of_ble_eq_true rfl, Nat.le_of_ble_eq_true rfl⟩ ⟨Nat.le_of_ble_eq_true rfl, Nat.le_of_ble_eq_true rfl⟩ hS (by have hz9 := hS.1; rintro q (h | h) <;> first | exact Or.inr (by omega) | exact h.elim | exact Or.inl h | (simp only [ftA] at h ⊢; omega)) (fun v H1 locs hpo hfr hS => ?_)
          obtain ⟨rfl, rfl⟩ := hpo
          refine W.widen (k := 26) (n := 126) (Nat.le_of_ble_eq_true rfl) (Nat.le_of_ble_eq_true rfl) ?_
          refine mh_top (y := .int (nI 0)) (by rw [(hW2.fr (show y / 8 % 3 < 3 by omega)).w, show wdF (tapQ q (y / 8 % 3)) (y / 8 % 3) = 0 from (emp_dim _ _).1]) ?_
          refine mn_if_ne (tgt := 388) hB dL_acts_381 (by decide) (by omega) (fun h => by exfalso; omega) (fun h_381 => ?_)
          refine lv_iconst (v := nI 1) hx hb dL_acts_384 (by decide) ?_
          refine lv_goto (tgt := 389) hx hb dL_acts_385 (by decide) ?_
          refine mh_zret hB ⟨Nat.le_of_ble_eq_true rfl, Nat.le_of_ble_eq_true rfl⟩ hS dL_acts_389 (by first | rfl | decide | (split <;> rfl)) ⟨?_, ?_⟩
          · rfl
          · exact ⟨_, _, _, _, _, _, _, hC, by first | exact hSD2 | exact hSD.up (by omega)⟩
      · skip
        refine lv_aload_n hx hb dL_acts_334 rfl (lv_at hl 3 rfl) ?_
        refine cl_L_81 (As := []) (rest := []) hB (f_X10_returnCloth l g H0 xb lim q n rm sl sv tx ln (hC)) hC.ob rfl hl.1 (Nat.le_of_ble_eq_true rfl) dL_acts_335 ⟨Nat.le_of_ble_eq_true rfl, Nat.le_of_ble_eq_true rfl⟩ ⟨Nat.le_of_ble_eq_true rfl, Nat.le_of_ble_eq_true rfl⟩ hS (by have hz9 := hS.1; rintro q9 (h9 | h9); exact Or.inl h9; exact Or.inr (by omega)) (fun v H1 locs hpo hfr hS => ?_)
        obtain ⟨rfl, hC⟩ := hpo
        generalize H1 = H at hfr hS hC ⊢
        refine W.widen (k := 26) (n := 126) (Nat.le_of_ble_eq_true rfl) (Nat.le_of_ble_eq_true rfl) ?_
        obtain ⟨hSD2, hst2⟩ := sd_retO hSD hW hZw
        refine lv_if_lt (tgt := 354) hx hb dL_acts_338 (by decide) (fun h => absurd h (retT_ge hSD (by omega) hW hZw)) (fun h_338 => ?_)
        refine lv_aload_n hx hb dL_acts_341 rfl (lv_at hl 3 rfl) ?_
        refine lv_bipush (v := nI 6) hx hb dL_acts_342 (by decide) ?_
        refine cl_L_19 (As := [.int (nI 6)]) (rest := []) hB (f_X10_about_6 l g H xb lim (retO q 6) (nxtS n) (remA rm n q) sl sv tx ln (hC)) hC.ob rfl hl.1 (Nat.le_of_ble_eq_true rfl) dL_acts_344 ⟨Nat.le_of_ble_eq_true rfl, Nat.le_of_ble_eq_true rfl⟩ ⟨Nat.le_of_ble_eq_true rfl, Nat.le_of_ble_eq_true rfl⟩ hS (by have hz9 := hS.1; rintro q (h | h) <;> first | exact Or.inr (by omega) | exact h.elim | exact Or.inl h | (simp only [ftA] at h ⊢; omega)) (fun v H1 locs hpo hfr hS => ?_)
        obtain ⟨rfl, rfl⟩ := hpo
        refine W.widen (k := 26) (n := 126) (Nat.le_of_ble_eq_true rfl) (Nat.le_of_ble_eq_true rfl) ?_
        refine mh_top (y := .int (nI 0)) (by rw [hst2]) ?_
        refine mn_if_ne (tgt := 354) hB dL_acts_347 (by decide) (by omega) (fun h => by exfalso; omega) (fun h_347 => ?_)
        refine lv_iconst (v := nI 1) hx hb dL_acts_350 (by decide) ?_
        refine lv_goto (tgt := 389) hx hb dL_acts_351 (by decide) ?_
        refine mh_zret hB ⟨Nat.le_of_ble_eq_true rfl, Nat.le_of_ble_eq_true rfl⟩ hS dL_acts_389 (by first | rfl | decide | (split <;> rfl)) ⟨?_, ?_⟩
        · rfl
        · exact ⟨_, _, _, _, _, _, _, hC, by first | exact hSD2 | exact hSD.up (by omega)⟩
    · skip
      refine lv_aload_n hx hb dL_acts_277 rfl (lv_at hl 3 rfl) ?_
      refine lv_iload_n hx hb dL_acts_278 rfl (lv_at hl 1 rfl) ?_
      refine lv_iconst (v := nI 0) hx hb dL_acts_279 (by decide) ?_
      refine cl_L_26 (As := [.int (nI ((y / 8) % 3)), .int (nI 0)]) (rest := []) hB (f_X10_frame_0 l g H0 xb lim q n rm sl sv tx ln ((y / 8) % 3) (hC) (by first | assumption | omega)) hC.ob rfl hl.1 (Nat.le_of_ble_eq_true rfl) dL_acts_280 ⟨Nat.le_of_ble_eq_true rfl, Nat.le_of_ble_eq_true rfl⟩ ⟨Nat.le_of_ble_eq_true rfl, Nat.le_of_ble_eq_true rfl⟩ hS (by have hz9 := hS.1; rintro q (h | h) <;> first | exact Or.inr (by omega) | exact h.elim | exact Or.inl h | (simp only [ftA] at h ⊢; omega)) (fun v H1 locs hpo hfr hS => ?_)
      obtain ⟨rfl, rfl⟩ := hpo
      refine W.widen (k := 0) (n := 0) (Nat.le_of_ble_eq_true rfl) (Nat.le_of_ble_eq_true rfl) ?_
      refine mh_top (y := .int (nI (wdF q (y / 8 % 3)))) (by rw [hF.w]) ?_
      refine mn_if_eq (tgt := 317) hB dL_acts_283 (by decide) (by omega) (fun h_283 => ?_) (fun h_283 => ?_)
      · skip
        refine lv_iconst (v := nI 1) hx hb dL_acts_317 (by decide) ?_
        refine lv_goto (tgt := 389) hx hb dL_acts_318 (by decide) ?_
        refine mh_zret hB ⟨Nat.le_of_ble_eq_true rfl, Nat.le_of_ble_eq_true rfl⟩ hS dL_acts_389 (by first | rfl | decide | (split <;> rfl)) ⟨?_, ?_⟩
        · rfl
        · exact ⟨_, _, _, _, _, _, _, hC, by first | exact hSD2 | exact hSD.up (by omega)⟩
      · skip
        refine lv_aload_n hx hb dL_acts_286 rfl (lv_at hl 3 rfl) ?_
        refine lv_iload_n hx hb dL_acts_287 rfl (lv_at hl 1 rfl) ?_
        refine lv_iconst (v := nI 2) hx hb dL_acts_288 (by decide) ?_
        refine cl_L_26 (As := [.int (nI ((y / 8) % 3)), .int (nI 2)]) (rest := []) hB (f_X10_frame_2 l g H0 xb lim q n rm sl sv tx ln ((y / 8) % 3) (hC) (by first | assumption | omega)) hC.ob rfl hl.1 (Nat.le_of_ble_eq_true rfl) dL_acts_289 ⟨Nat.le_of_ble_eq_true rfl, Nat.le_of_ble_eq_true rfl⟩ ⟨Nat.le_of_ble_eq_true rfl, Nat.le_of_ble_eq_true rfl⟩ hS (by have hz9 := hS.1; rintro q (h | h) <;> first | exact Or.inr (by omega) | exact h.elim | exact Or.inl h | (simp only [ftA] at h ⊢; omega)) (fun v H1 locs hpo hfr hS => ?_)
        obtain ⟨rfl, rfl⟩ := hpo
        refine W.widen (k := 0) (n := 0) (Nat.le_of_ble_eq_true rfl) (Nat.le_of_ble_eq_true rfl) ?_
        refine mh_top (y := .int (nI (swF q (y / 8 % 3)))) (by rw [hF.s]) ?_
        refine mn_if_gt (tgt := 317) hB dL_acts_292 (by decide) (by omega) (fun h_292 => ?_) (fun h_292 => ?_)
        · skip
          refine lv_iconst (v := nI 1) hx hb dL_acts_317 (by decide) ?_
          refine lv_goto (tgt := 389) hx hb dL_acts_318 (by decide) ?_
          refine mh_zret hB ⟨Nat.le_of_ble_eq_true rfl, Nat.le_of_ble_eq_true rfl⟩ hS dL_acts_389 (by first | rfl | decide | (split <;> rfl)) ⟨?_, ?_⟩
          · rfl
          · exact ⟨_, _, _, _, _, _, _, hC, by first | exact hSD2 | exact hSD.up (by omega)⟩
        · skip
          refine lv_aload_n hx hb dL_acts_295 rfl (lv_at hl 3 rfl) ?_
          refine lv_iload_n hx hb dL_acts_296 rfl (lv_at hl 1 rfl) ?_
          refine lv_iload_n hx hb dL_acts_297 rfl (lv_at hl 2 rfl) ?_
          refine lv_bipush (v := nI 7) hx hb dL_acts_298 (by decide) ?_
          refine lv_ishr hx hb dL_acts_300 ?_
          refine mh_top (y := .int (nI (y / 8 / 128))) (by rw [shr_nI (by omega) (by omega) (show 2 ^ 7 = 128 from rfl)]) ?_
          refine lv_bipush (v := nI 6) hx hb dL_acts_301 (by decide) ?_
          refine mn_irem hB dL_acts_303 (by omega) (by omega) (by omega) ?_
          refine lv_iload_n hx hb dL_acts_304 rfl (lv_at hl 2 rfl) ?_
          refine lv_bipush (v := nI 10) hx hb dL_acts_305 (by decide) ?_
          refine lv_ishr hx hb dL_acts_307 ?_
          refine mh_top (y := .int (nI (y / 8 / 1024))) (by rw [shr_nI (by omega) (by omega) (show 2 ^ 10 = 1024 from rfl)]) ?_
          refine lv_bipush (v := nI 6) hx hb dL_acts_308 (by decide) ?_
          refine mn_irem hB dL_acts_310 (by omega) (by omega) (by omega) ?_
          rcases Nat.decEq ((y / 8 / 128) % 6) ((y / 8 / 1024) % 6) with h9 | h9
          rotate_left
          · skip
            have hab : ((y / 8 / 128) % 6) = ((y / 8 / 1024) % 6) := h9
            refine mh_top (y := .int (nI ((y / 8 / 128) % 6))) (by rw [hab]) ?_
            refine cl_L_78 (As := [.int (nI ((y / 8) % 3)), .int (nI ((y / 8 / 128) % 6)), .int (nI ((y / 8 / 128) % 6))]) (rest := []) hB (f_X10_recolour_e l g H0 xb lim q n rm sl sv tx ln ((y / 8) % 3) ((y / 8 / 128) % 6) (hC) (by first | assumption | omega) (by first | assumption | omega) (wd_sz hF (by omega)) (by omega)) hC.ob rfl hl.1 (Nat.le_of_ble_eq_true rfl) dL_acts_311 ⟨Nat.le_of_ble_eq_true rfl, Nat.le_of_ble_eq_true rfl⟩ ⟨Nat.le_of_ble_eq_true rfl, Nat.le_of_ble_eq_true rfl⟩ hS (by have hz9 := hS.1; rintro q9 (h9 | h9); exact Or.inl h9; exact Or.inr (by omega)) (fun v H1 locs hpo hfr hS => ?_)
            obtain ⟨rfl, hC⟩ := hpo
            generalize H1 = H at hfr hS hC ⊢
            refine W.widen (k := 28) (n := 385) (Nat.le_of_ble_eq_true rfl) (Nat.le_of_ble_eq_true rfl) ?_
            have hSD2 : SD (t + 1) (recQ q (y / 8 % 3) ((y / 8 / 128) % 6) ((y / 8 / 128) % 6)) := sd_rec hSD hW (by omega) (by omega)
            refine mn_if_lt (tgt := 321) hB dL_acts_314 (by decide) (by omega) (fun h => by exfalso; omega) (fun h_314 => ?_)
            refine lv_iconst (v := nI 1) hx hb dL_acts_317 (by decide) ?_
            refine lv_goto (tgt := 389) hx hb dL_acts_318 (by decide) ?_
            refine mh_zret hB ⟨Nat.le_of_ble_eq_true rfl, Nat.le_of_ble_eq_true rfl⟩ hS dL_acts_389 (by first | rfl | decide | (split <;> rfl)) ⟨?_, ?_⟩
            · rfl
            · exact ⟨_, _, _, _, _, _, _, hC, by first | exact hSD2 | exact hSD.up (by omega)⟩
          · skip
            have hab : ¬ ((y / 8 / 128) % 6) = ((y / 8 / 1024) % 6) := h9
            refine cl_L_78 (As := [.int (nI ((y / 8) % 3)), .int (nI ((y / 8 / 128) % 6)), .int (nI ((y / 8 / 1024) % 6))]) (rest := []) hB (f_X10_recolour l g H0 xb lim q n rm sl sv tx ln ((y / 8) % 3) ((y / 8 / 128) % 6) ((y / 8 / 1024) % 6) (hC) (by first | assumption | omega) (by first | assumption | omega) (by first | assumption | omega) (wd_sz hF (by omega)) (by omega) (hab)) hC.ob rfl hl.1 (Nat.le_of_ble_eq_true rfl) dL_acts_311 ⟨Nat.le_of_ble_eq_true rfl, Nat.le_of_ble_eq_true rfl⟩ ⟨Nat.le_of_ble_eq_true rfl, Nat.le_of_ble_eq_true rfl⟩ hS (by have hz9 := hS.1; rintro q9 (h9 | h9); exact Or.inl h9; exact Or.inr (by omega)) (fun v H1 locs hpo hfr hS => ?_)
            obtain ⟨rfl, hC⟩ := hpo
            generalize H1 = H at hfr hS hC ⊢
            refine W.widen (k := 28) (n := 385) (Nat.le_of_ble_eq_true rfl) (Nat.le_of_ble_eq_true rfl) ?_
            have hSD2 : SD (t + 1) (recQ q (y / 8 % 3) ((y / 8 / 128) % 6) ((y / 8 / 1024) % 6)) := sd_rec hSD hW (by omega) (by omega)
            have hrn : recN q (y / 8 % 3) ((y / 8 / 128) % 6) ((y / 8 / 1024) % 6) ≤ 256 := by unfold recN; split; omega; exact Nat.le_trans (cntR_le _ _ _) hz6
            refine mn_if_lt (tgt := 321) hB dL_acts_314 (by decide) (by omega) (fun h => by exfalso; omega) (fun h_314 => ?_)
            refine lv_iconst (v := nI 1) hx hb dL_acts_317 (by decide) ?_
            refine lv_goto (tgt := 389) hx hb dL_acts_318 (by decide) ?_
            refine mh_zret hB ⟨Nat.le_of_ble_eq_true rfl, Nat.le_of_ble_eq_true rfl⟩ hS dL_acts_389 (by first | rfl | decide | (split <;> rfl)) ⟨?_, ?_⟩
            · rfl
            · exact ⟨_, _, _, _, _, _, _, hC, by first | exact hSD2 | exact hSD.up (by omega)⟩

