theorem applS_d {sg w0 h0 : Nat} {c0 : Nat → Nat} {b2 : PBl} (h : applS sg (w0, h0, c0) = some b2) (h1 : sg ≠ 60) (h2 : sg ≠ 94) : w0 * (sg - 48) ≤ 16 := by
  unfold applS at h
  rw [if_neg h1, if_neg h2] at h
  by_cases z : (sg - 48) * w0 ≤ 16
  · rw [Nat.mul_comm]; exact z
  · rw [if_neg z] at h; cases h
theorem applS_n {sg w0 h0 : Nat} {c0 : Nat → Nat} (h : applS sg (w0, h0, c0) = none) : sg ≠ 60 ∧ sg ≠ 94 ∧ ¬ w0 * (sg - 48) ≤ 16 := by
  unfold applS at h
  by_cases z1 : sg = 60
  · rw [if_pos z1] at h; cases h
  · rw [if_neg z1] at h
    by_cases z2 : sg = 94
    · rw [if_pos z2] at h; cases h
    · rw [if_neg z2] at h
      by_cases z : (sg - 48) * w0 ≤ 16
      · rw [if_pos z] at h; cases h
      · exact ⟨z1, z2, by rw [Nat.mul_comm]; exact z⟩

def rm_c_X9_applyPrefix : Room := { frames := 1, cells := 0, slots := 0, locals := 23 }
set_option maxRecDepth 100000 in
set_option maxHeartbeats 400000 in
theorem c_X9_applyPrefix (l : Launch) (g : GG) (H0 : Heap) (tb : Nat) (tx : Nat → Int32) (ln : Nat) (wd : Nat → Int32) (ht : Nat → Int32) (fi : Nat → Int32) (la : Nat → Int32) (nx : Nat → Int32) (di : Nat → Int32) (op : Nat → Int32) (oc : Int32) (wh : Int32) (e0 : Nat) (f0 : Nat) (sg : Nat) (w0 : Nat) (h0 : Nat) (c0 : Nat → Nat) (b2 : PBl) (hT : TxAt g tb tx ln wd ht fi la nx di op oc wh H0) (he : e0 < 60) (hf : f0 < 60) (hs : tx e0 = nI sg) (hw9 : wd f0 = nI w0) (hh9 : ht f0 = nI h0) (hw0 : w0 ≤ 16) (hh0 : h0 ≤ 16) (hsg : sg = 60 ∨ sg = 94 ∨ (50 ≤ sg ∧ sg ≤ 57)) (hap : applS sg (w0, h0, c0) = some b2) : Ct l yX9_applyPrefix cX9_applyPrefix 6 (some .boolean) rm_c_X9_applyPrefix g [.ref tb, .int (nI e0), .int (nI f0)] H0 (ftA (fun q9 => tb ≤ q9 ∧ q9 < tb + 9) H0.size) (fun v H1 => v = some (.int (nI 1)) ∧ TxAt g tb tx ln (upd wd e0 (nI b2.1)) (upd ht e0 (nI b2.2.1)) (upd fi e0 (nI f0)) la nx di op oc wh H1) := by
  refine Ct.of (by decide) (fun _ h => Or.inr h) (Nat.le_of_ble_eq_true rfl) ?_
  intro p e s m below meth c ls hB hin hS hH hl
  have hx := hB.x
  have hb := hB.b
  have hl : lv_has ls 6 [(0, .ref tb), (1, .int (nI e0)), (2, .int (nI f0))] := hl
  have hm9 : w0 * (sg - 48) ≤ 16 * 207 := Nat.mul_le_mul hw0 (by omega)
  have hcm := Nat.mul_comm w0 (sg - 48)
  refine lv_aload_n hx hb dX9_applyPrefix_0 rfl (lv_at hl 0 rfl) ?_
  refine gf_X9_9 hB hT.1 rfl dX9_applyPrefix_1 ?_
  refine lv_iload_n hx hb dX9_applyPrefix_4 rfl (lv_at hl 1 rfl) ?_
  refine cl_X9_56 (As := [.ref (tb + 1), .int (nI e0)]) (rest := []) hB (c_X6_at l g H0 (tb + 1) 60 tx e0 hT.a_tx (he) (by first | assumption | omega)) rfl hl.1 (Nat.le_of_ble_eq_true rfl) dX9_applyPrefix_5 ⟨Nat.le_of_ble_eq_true rfl, Nat.le_of_ble_eq_true rfl⟩ ⟨Nat.le_of_ble_eq_true rfl, Nat.le_of_ble_eq_true rfl⟩ hS (by have hz9 := hS.1; rintro q (h | h) <;> first | exact Or.inr (by omega) | exact h.elim | exact Or.inl h | (simp only [ftA] at h ⊢; omega)) (fun v H1 locs hpo hfr hS => ?_)
  obtain ⟨rfl, rfl⟩ := hpo
  refine W.widen (k := 0) (n := 0) (Nat.le_of_ble_eq_true rfl) (Nat.le_of_ble_eq_true rfl) ?_
  refine mh_top (y := .int (nI sg)) (by rw [hs]) ?_
  refine lv_istore_n (lv' := [(3, .int (nI sg)), (0, .ref tb), (1, .int (nI e0)), (2, .int (nI f0))]) hx hb dX9_applyPrefix_8 rfl hl (by decide) rfl (fun ls hl => ?_)
  refine lv_aload_n hx hb dX9_applyPrefix_9 rfl (lv_at hl 1 rfl) ?_
  refine gf_X9_15 hB hT.1 rfl dX9_applyPrefix_10 ?_
  refine lv_iload_n hx hb dX9_applyPrefix_13 rfl (lv_at hl 3 rfl) ?_
  refine cl_X9_56 (As := [.ref (tb + 2), .int (nI f0)]) (rest := []) hB (c_X6_at l g H0 (tb + 2) 60 wd f0 hT.a_wd (hf) (by first | assumption | omega)) rfl hl.1 (Nat.le_of_ble_eq_true rfl) dX9_applyPrefix_14 ⟨Nat.le_of_ble_eq_true rfl, Nat.le_of_ble_eq_true rfl⟩ ⟨Nat.le_of_ble_eq_true rfl, Nat.le_of_ble_eq_true rfl⟩ hS (by have hz9 := hS.1; rintro q (h | h) <;> first | exact Or.inr (by omega) | exact h.elim | exact Or.inl h | (simp only [ftA] at h ⊢; omega)) (fun v H1 locs hpo hfr hS => ?_)
  obtain ⟨rfl, rfl⟩ := hpo
  refine W.widen (k := 0) (n := 0) (Nat.le_of_ble_eq_true rfl) (Nat.le_of_ble_eq_true rfl) ?_
  refine mh_top (y := .int (nI w0)) (by rw [hw9]) ?_
  refine lv_istore (lv' := [(4, .int (nI w0)), (3, .int (nI sg)), (0, .ref tb), (1, .int (nI e0)), (2, .int (nI f0))]) hx hb dX9_applyPrefix_17 hl (by decide) rfl (fun ls hl => ?_)
  refine lv_aload_n hx hb dX9_applyPrefix_19 rfl (lv_at hl 2 rfl) ?_
  refine gf_X9_18 hB hT.1 rfl dX9_applyPrefix_20 ?_
  refine lv_iload_n hx hb dX9_applyPrefix_23 rfl (lv_at hl 4 rfl) ?_
  refine cl_X9_56 (As := [.ref (tb + 3), .int (nI f0)]) (rest := []) hB (c_X6_at l g H0 (tb + 3) 60 ht f0 hT.a_ht (hf) (by first | assumption | omega)) rfl hl.1 (Nat.le_of_ble_eq_true rfl) dX9_applyPrefix_24 ⟨Nat.le_of_ble_eq_true rfl, Nat.le_of_ble_eq_true rfl⟩ ⟨Nat.le_of_ble_eq_true rfl, Nat.le_of_ble_eq_true rfl⟩ hS (by have hz9 := hS.1; rintro q (h | h) <;> first | exact Or.inr (by omega) | exact h.elim | exact Or.inl h | (simp only [ftA] at h ⊢; omega)) (fun v H1 locs hpo hfr hS => ?_)
  obtain ⟨rfl, rfl⟩ := hpo
  refine W.widen (k := 0) (n := 0) (Nat.le_of_ble_eq_true rfl) (Nat.le_of_ble_eq_true rfl) ?_
  refine mh_top (y := .int (nI h0)) (by rw [hh9]) ?_
  refine lv_istore (lv' := [(5, .int (nI h0)), (4, .int (nI w0)), (3, .int (nI sg)), (0, .ref tb), (1, .int (nI e0)), (2, .int (nI f0))]) hx hb dX9_applyPrefix_27 hl (by decide) rfl (fun ls hl => ?_)
  refine lv_aload_n hx hb dX9_applyPrefix_29 rfl (lv_at hl 3 rfl) ?_
  refine gf_X9_21 hB hT.1 rfl dX9_applyPrefix_30 ?_
  refine lv_iload_n hx hb dX9_applyPrefix_33 rfl (lv_at hl 4 rfl) ?_
  refine lv_iload_n hx hb dX9_applyPrefix_34 rfl (lv_at hl 5 rfl) ?_
  refine cl_X9_43 (As := [.ref (tb + 4), .int (nI e0), .int (nI f0)]) (rest := []) hB (c_X6_put l g H0 (tb + 4) 60 fi e0 (nI f0) hT.a_fi (by first | assumption | omega) (by first | assumption | omega)) rfl hl.1 (Nat.le_of_ble_eq_true rfl) dX9_applyPrefix_35 ⟨Nat.le_of_ble_eq_true rfl, Nat.le_of_ble_eq_true rfl⟩ ⟨Nat.le_of_ble_eq_true rfl, Nat.le_of_ble_eq_true rfl⟩ hS (by have hz9 := hS.1; rintro q (h | h) <;> first | exact Or.inr (by omega) | exact h.elim | exact Or.inl h | (simp only [ftA] at h ⊢; omega)) (fun v H1 locs hpo hfr hS => ?_)
  obtain ⟨rfl, ha⟩ := hpo
  have hT := hT.f_fi hfr ha
  generalize H1 = H at hfr hS hT ⊢
  refine W.widen (k := 0) (n := 0) (Nat.le_of_ble_eq_true rfl) (Nat.le_of_ble_eq_true rfl) ?_
  refine lv_iload_n hx hb dX9_applyPrefix_38 rfl (lv_at hl 2 rfl) ?_
  refine lv_bipush (v := nI 94) hx hb dX9_applyPrefix_39 (by decide) ?_
  refine mn_icmp_ne (tgt := 56) hB dX9_applyPrefix_41 (by decide) (by omega) (by omega) (fun h_41 => ?_) (fun h_41 => ?_)
  · skip
    refine lv_iload_n hx hb dX9_applyPrefix_56 rfl (lv_at hl 2 rfl) ?_
    refine lv_bipush (v := nI 60) hx hb dX9_applyPrefix_57 (by decide) ?_
    refine mn_icmp_ne (tgt := 74) hB dX9_applyPrefix_59 (by decide) (by omega) (by omega) (fun h_59 => ?_) (fun h_59 => ?_)
    · skip
      refine lv_iload hx hb dX9_applyPrefix_74 (lv_at hl 1 rfl) ?_
      refine lv_iload_n hx hb dX9_applyPrefix_76 rfl (lv_at hl 2 rfl) ?_
      refine lv_bipush (v := nI 48) hx hb dX9_applyPrefix_77 (by decide) ?_
      refine mn_isub hB dX9_applyPrefix_79 (by omega) ?_
      refine mn_imul hB dX9_applyPrefix_80 ?_
      refine lv_bipush (v := nI 16) hx hb dX9_applyPrefix_81 (by decide) ?_
      refine mn_icmp_gt (tgt := 103) hB dX9_applyPrefix_83 (by decide) (by omega) (by omega) (fun h => by exfalso; have := applS_d hap (by omega) (by omega); omega) (fun h_83 => ?_)
      refine lv_aload_n hx hb dX9_applyPrefix_86 rfl (lv_at hl 3 rfl) ?_
      refine lv_iload_n hx hb dX9_applyPrefix_87 rfl (lv_at hl 4 rfl) ?_
      refine lv_iload hx hb dX9_applyPrefix_88 (lv_at hl 1 rfl) ?_
      refine lv_iload_n hx hb dX9_applyPrefix_90 rfl (lv_at hl 2 rfl) ?_
      refine lv_bipush (v := nI 48) hx hb dX9_applyPrefix_91 (by decide) ?_
      refine mn_isub hB dX9_applyPrefix_93 (by omega) ?_
      refine mn_imul hB dX9_applyPrefix_94 ?_
      refine lv_iload hx hb dX9_applyPrefix_95 (lv_at hl 0 rfl) ?_
      refine cl_X9_88 (As := [.int (nI e0), .int (nI (w0 * (sg - 48))), .int (nI h0)]) (rest := []) hB (c_X9_setSize l g H tb tx ln wd ht (upd fi e0 (nI f0)) la nx di op oc wh e0 (w0 * (sg - 48)) h0 hT (by first | assumption | omega)) hT.1 rfl hl.1 (Nat.le_of_ble_eq_true rfl) dX9_applyPrefix_97 ⟨Nat.le_of_ble_eq_true rfl, Nat.le_of_ble_eq_true rfl⟩ ⟨Nat.le_of_ble_eq_true rfl, Nat.le_of_ble_eq_true rfl⟩ hS (by have hz9 := hS.1; rintro q (h | h) <;> first | exact Or.inr (by omega) | exact h.elim | exact Or.inl h | (simp only [ftA] at h ⊢; omega)) (fun v H1 locs hpo hfr hS => ?_)
      obtain ⟨rfl, hT⟩ := hpo
      generalize H1 = H at hfr hS hT ⊢
      refine W.widen (k := 0) (n := 0) (Nat.le_of_ble_eq_true rfl) (Nat.le_of_ble_eq_true rfl) ?_
      refine lv_goto (tgt := 105) hx hb dX9_applyPrefix_100 (by decide) ?_
      refine lv_iconst (v := nI 1) hx hb dX9_applyPrefix_105 (by decide) ?_
      refine mh_zret hB ⟨Nat.le_of_ble_eq_true rfl, Nat.le_of_ble_eq_true rfl⟩ hS dX9_applyPrefix_106 (by first | rfl | decide | (split <;> rfl)) ⟨?_, ?_⟩
      · rfl
      · unfold applS at hap
        dsimp only at hap
        rw [if_neg (by omega), if_neg (by omega), if_pos (by omega)] at hap
        cases hap
        rw [hcm] at hT
        exact hT
    · skip
      refine lv_aload_n hx hb dX9_applyPrefix_62 rfl (lv_at hl 3 rfl) ?_
      refine lv_iload_n hx hb dX9_applyPrefix_63 rfl (lv_at hl 4 rfl) ?_
      refine lv_iload hx hb dX9_applyPrefix_64 (lv_at hl 1 rfl) ?_
      refine lv_iload hx hb dX9_applyPrefix_66 (lv_at hl 0 rfl) ?_
      refine cl_X9_88 (As := [.int (nI e0), .int (nI w0), .int (nI h0)]) (rest := []) hB (c_X9_setSize l g H tb tx ln wd ht (upd fi e0 (nI f0)) la nx di op oc wh e0 w0 h0 hT (by first | assumption | omega)) hT.1 rfl hl.1 (Nat.le_of_ble_eq_true rfl) dX9_applyPrefix_68 ⟨Nat.le_of_ble_eq_true rfl, Nat.le_of_ble_eq_true rfl⟩ ⟨Nat.le_of_ble_eq_true rfl, Nat.le_of_ble_eq_true rfl⟩ hS (by have hz9 := hS.1; rintro q (h | h) <;> first | exact Or.inr (by omega) | exact h.elim | exact Or.inl h | (simp only [ftA] at h ⊢; omega)) (fun v H1 locs hpo hfr hS => ?_)
      obtain ⟨rfl, hT⟩ := hpo
      generalize H1 = H at hfr hS hT ⊢
      refine W.widen (k := 0) (n := 0) (Nat.le_of_ble_eq_true rfl) (Nat.le_of_ble_eq_true rfl) ?_
      refine lv_goto (tgt := 105) hx hb dX9_applyPrefix_71 (by decide) ?_
      refine lv_iconst (v := nI 1) hx hb dX9_applyPrefix_105 (by decide) ?_
      refine mh_zret hB ⟨Nat.le_of_ble_eq_true rfl, Nat.le_of_ble_eq_true rfl⟩ hS dX9_applyPrefix_106 (by first | rfl | decide | (split <;> rfl)) ⟨?_, ?_⟩
      · rfl
      · unfold applS at hap
        dsimp only at hap
        rw [if_pos (by omega)] at hap
        cases hap
        exact hT
  · skip
    refine lv_aload_n hx hb dX9_applyPrefix_44 rfl (lv_at hl 3 rfl) ?_
    refine lv_iload_n hx hb dX9_applyPrefix_45 rfl (lv_at hl 4 rfl) ?_
    refine lv_iload hx hb dX9_applyPrefix_46 (lv_at hl 0 rfl) ?_
    refine lv_iload hx hb dX9_applyPrefix_48 (lv_at hl 1 rfl) ?_
    refine cl_X9_88 (As := [.int (nI e0), .int (nI h0), .int (nI w0)]) (rest := []) hB (c_X9_setSize l g H tb tx ln wd ht (upd fi e0 (nI f0)) la nx di op oc wh e0 h0 w0 hT (by first | assumption | omega)) hT.1 rfl hl.1 (Nat.le_of_ble_eq_true rfl) dX9_applyPrefix_50 ⟨Nat.le_of_ble_eq_true rfl, Nat.le_of_ble_eq_true rfl⟩ ⟨Nat.le_of_ble_eq_true rfl, Nat.le_of_ble_eq_true rfl⟩ hS (by have hz9 := hS.1; rintro q (h | h) <;> first | exact Or.inr (by omega) | exact h.elim | exact Or.inl h | (simp only [ftA] at h ⊢; omega)) (fun v H1 locs hpo hfr hS => ?_)
    obtain ⟨rfl, hT⟩ := hpo
    generalize H1 = H at hfr hS hT ⊢
    refine W.widen (k := 0) (n := 0) (Nat.le_of_ble_eq_true rfl) (Nat.le_of_ble_eq_true rfl) ?_
    refine lv_goto (tgt := 105) hx hb dX9_applyPrefix_53 (by decide) ?_
    refine lv_iconst (v := nI 1) hx hb dX9_applyPrefix_105 (by decide) ?_
    refine mh_zret hB ⟨Nat.le_of_ble_eq_true rfl, Nat.le_of_ble_eq_true rfl⟩ hS dX9_applyPrefix_106 (by first | rfl | decide | (split <;> rfl)) ⟨?_, ?_⟩
    · rfl
    · unfold applS at hap
      dsimp only at hap
      rw [if_neg (by omega), if_pos (by omega)] at hap
      cases hap
      exact hT

def rm_c_X9_applyPrefix_n : Room := { frames := 1, cells := 0, slots := 0, locals := 22 }
set_option maxRecDepth 100000 in
set_option maxHeartbeats 400000 in
theorem c_X9_applyPrefix_n (l : Launch) (g : GG) (H0 : Heap) (tb : Nat) (tx : Nat → Int32) (ln : Nat) (wd : Nat → Int32) (ht : Nat → Int32) (fi : Nat → Int32) (la : Nat → Int32) (nx : Nat → Int32) (di : Nat → Int32) (op : Nat → Int32) (oc : Int32) (wh : Int32) (e0 : Nat) (f0 : Nat) (sg : Nat) (w0 : Nat) (h0 : Nat) (c0 : Nat → Nat) (hT : TxAt g tb tx ln wd ht fi la nx di op oc wh H0) (he : e0 < 60) (hf : f0 < 60) (hs : tx e0 = nI sg) (hw9 : wd f0 = nI w0) (hh9 : ht f0 = nI h0) (hw0 : w0 ≤ 16) (hh0 : h0 ≤ 16) (hsg : sg = 60 ∨ sg = 94 ∨ (50 ≤ sg ∧ sg ≤ 57)) (hap : applS sg (w0, h0, c0) = none) : Ct l yX9_applyPrefix cX9_applyPrefix 6 (some .boolean) rm_c_X9_applyPrefix_n g [.ref tb, .int (nI e0), .int (nI f0)] H0 (ftA (fun q9 => tb ≤ q9 ∧ q9 < tb + 9) H0.size) (fun v H1 => v = some (.int (nI 0)) ∧ TxAt g tb tx ln wd ht (upd fi e0 (nI f0)) la nx di op oc wh H1) := by
  refine Ct.of (by decide) (fun _ h => Or.inr h) (Nat.le_of_ble_eq_true rfl) ?_
  intro p e s m below meth c ls hB hin hS hH hl
  have hx := hB.x
  have hb := hB.b
  have hl : lv_has ls 6 [(0, .ref tb), (1, .int (nI e0)), (2, .int (nI f0))] := hl
  have hm9 : w0 * (sg - 48) ≤ 16 * 207 := Nat.mul_le_mul hw0 (by omega)
  have hcm := Nat.mul_comm w0 (sg - 48)
  obtain ⟨hd1, hd2, hd3⟩ := applS_n hap
  refine lv_aload_n hx hb dX9_applyPrefix_0 rfl (lv_at hl 0 rfl) ?_
  refine gf_X9_9 hB hT.1 rfl dX9_applyPrefix_1 ?_
  refine lv_iload_n hx hb dX9_applyPrefix_4 rfl (lv_at hl 1 rfl) ?_
  refine cl_X9_56 (As := [.ref (tb + 1), .int (nI e0)]) (rest := []) hB (c_X6_at l g H0 (tb + 1) 60 tx e0 hT.a_tx (he) (by first | assumption | omega)) rfl hl.1 (Nat.le_of_ble_eq_true rfl) dX9_applyPrefix_5 ⟨Nat.le_of_ble_eq_true rfl, Nat.le_of_ble_eq_true rfl⟩ ⟨Nat.le_of_ble_eq_true rfl, Nat.le_of_ble_eq_true rfl⟩ hS (by have hz9 := hS.1; rintro q (h | h) <;> first | exact Or.inr (by omega) | exact h.elim | exact Or.inl h | (simp only [ftA] at h ⊢; omega)) (fun v H1 locs hpo hfr hS => ?_)
  obtain ⟨rfl, rfl⟩ := hpo
  refine W.widen (k := 0) (n := 0) (Nat.le_of_ble_eq_true rfl) (Nat.le_of_ble_eq_true rfl) ?_
  refine mh_top (y := .int (nI sg)) (by rw [hs]) ?_
  refine lv_istore_n (lv' := [(3, .int (nI sg)), (0, .ref tb), (1, .int (nI e0)), (2, .int (nI f0))]) hx hb dX9_applyPrefix_8 rfl hl (by decide) rfl (fun ls hl => ?_)
  refine lv_aload_n hx hb dX9_applyPrefix_9 rfl (lv_at hl 1 rfl) ?_
  refine gf_X9_15 hB hT.1 rfl dX9_applyPrefix_10 ?_
  refine lv_iload_n hx hb dX9_applyPrefix_13 rfl (lv_at hl 3 rfl) ?_
  refine cl_X9_56 (As := [.ref (tb + 2), .int (nI f0)]) (rest := []) hB (c_X6_at l g H0 (tb + 2) 60 wd f0 hT.a_wd (hf) (by first | assumption | omega)) rfl hl.1 (Nat.le_of_ble_eq_true rfl) dX9_applyPrefix_14 ⟨Nat.le_of_ble_eq_true rfl, Nat.le_of_ble_eq_true rfl⟩ ⟨Nat.le_of_ble_eq_true rfl, Nat.le_of_ble_eq_true rfl⟩ hS (by have hz9 := hS.1; rintro q (h | h) <;> first | exact Or.inr (by omega) | exact h.elim | exact Or.inl h | (simp only [ftA] at h ⊢; omega)) (fun v H1 locs hpo hfr hS => ?_)
  obtain ⟨rfl, rfl⟩ := hpo
  refine W.widen (k := 0) (n := 0) (Nat.le_of_ble_eq_true rfl) (Nat.le_of_ble_eq_true rfl) ?_
  refine mh_top (y := .int (nI w0)) (by rw [hw9]) ?_
  refine lv_istore (lv' := [(4, .int (nI w0)), (3, .int (nI sg)), (0, .ref tb), (1, .int (nI e0)), (2, .int (nI f0))]) hx hb dX9_applyPrefix_17 hl (by decide) rfl (fun ls hl => ?_)
  refine lv_aload_n hx hb dX9_applyPrefix_19 rfl (lv_at hl 2 rfl) ?_
  refine gf_X9_18 hB hT.1 rfl dX9_applyPrefix_20 ?_
  refine lv_iload_n hx hb dX9_applyPrefix_23 rfl (lv_at hl 4 rfl) ?_
  refine cl_X9_56 (As := [.ref (tb + 3), .int (nI f0)]) (rest := []) hB (c_X6_at l g H0 (tb + 3) 60 ht f0 hT.a_ht (hf) (by first | assumption | omega)) rfl hl.1 (Nat.le_of_ble_eq_true rfl) dX9_applyPrefix_24 ⟨Nat.le_of_ble_eq_true rfl, Nat.le_of_ble_eq_true rfl⟩ ⟨Nat.le_of_ble_eq_true rfl, Nat.le_of_ble_eq_true rfl⟩ hS (by have hz9 := hS.1; rintro q (h | h) <;> first | exact Or.inr (by omega) | exact h.elim | exact Or.inl h | (simp only [ftA] at h ⊢; omega)) (fun v H1 locs hpo hfr hS => ?_)
  obtain ⟨rfl, rfl⟩ := hpo
  refine W.widen (k := 0) (n := 0) (Nat.le_of_ble_eq_true rfl) (Nat.le_of_ble_eq_true rfl) ?_
  refine mh_top (y := .int (nI h0)) (by rw [hh9]) ?_
  refine lv_istore (lv' := [(5, .int (nI h0)), (4, .int (nI w0)), (3, .int (nI sg)), (0, .ref tb), (1, .int (nI e0)), (2, .int (nI f0))]) hx hb dX9_applyPrefix_27 hl (by decide) rfl (fun ls hl => ?_)
  refine lv_aload_n hx hb dX9_applyPrefix_29 rfl (lv_at hl 3 rfl) ?_
  refine gf_X9_21 hB hT.1 rfl dX9_applyPrefix_30 ?_
  refine lv_iload_n hx hb dX9_applyPrefix_33 rfl (lv_at hl 4 rfl) ?_
  refine lv_iload_n hx hb dX9_applyPrefix_34 rfl (lv_at hl 5 rfl) ?_
  refine cl_X9_43 (As := [.ref (tb + 4), .int (nI e0), .int (nI f0)]) (rest := []) hB (c_X6_put l g H0 (tb + 4) 60 fi e0 (nI f0) hT.a_fi (by first | assumption | omega) (by first | assumption | omega)) rfl hl.1 (Nat.le_of_ble_eq_true rfl) dX9_applyPrefix_35 ⟨Nat.le_of_ble_eq_true rfl, Nat.le_of_ble_eq_true rfl⟩ ⟨Nat.le_of_ble_eq_true rfl, Nat.le_of_ble_eq_true rfl⟩ hS (by have hz9 := hS.1; rintro q (h | h) <;> first | exact Or.inr (by omega) | exact h.elim | exact Or.inl h | (simp only [ftA] at h ⊢; omega)) (fun v H1 locs hpo hfr hS => ?_)
  obtain ⟨rfl, ha⟩ := hpo
  have hT := hT.f_fi hfr ha
  generalize H1 = H at hfr hS hT ⊢
  refine W.widen (k := 0) (n := 0) (Nat.le_of_ble_eq_true rfl) (Nat.le_of_ble_eq_true rfl) ?_
  refine lv_iload_n hx hb dX9_applyPrefix_38 rfl (lv_at hl 2 rfl) ?_
  refine lv_bipush (v := nI 94) hx hb dX9_applyPrefix_39 (by decide) ?_
  refine mn_icmp_ne (tgt := 56) hB dX9_applyPrefix_41 (by decide) (by omega) (by omega) (fun h_41 => ?_) (fun h => by exfalso; omega)
  refine lv_iload_n hx hb dX9_applyPrefix_56 rfl (lv_at hl 2 rfl) ?_
  refine lv_bipush (v := nI 60) hx hb dX9_applyPrefix_57 (by decide) ?_
  refine mn_icmp_ne (tgt := 74) hB dX9_applyPrefix_59 (by decide) (by omega) (by omega) (fun h_59 => ?_) (fun h => by exfalso; omega)
  refine lv_iload hx hb dX9_applyPrefix_74 (lv_at hl 1 rfl) ?_
  refine lv_iload_n hx hb dX9_applyPrefix_76 rfl (lv_at hl 2 rfl) ?_
  refine lv_bipush (v := nI 48) hx hb dX9_applyPrefix_77 (by decide) ?_
  refine mn_isub hB dX9_applyPrefix_79 (by omega) ?_
  refine mn_imul hB dX9_applyPrefix_80 ?_
  refine lv_bipush (v := nI 16) hx hb dX9_applyPrefix_81 (by decide) ?_
  refine mn_icmp_gt (tgt := 103) hB dX9_applyPrefix_83 (by decide) (by omega) (by omega) (fun h_83 => ?_) (fun h => by exfalso; omega)
  refine lv_iconst (v := nI 0) hx hb dX9_applyPrefix_103 (by decide) ?_
  refine mh_zret hB ⟨Nat.le_of_ble_eq_true rfl, Nat.le_of_ble_eq_true rfl⟩ hS dX9_applyPrefix_104 (by first | rfl | decide | (split <;> rfl)) ⟨?_, ?_⟩
  · rfl
  · exact hT
