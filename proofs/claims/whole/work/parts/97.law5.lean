/-! the law, call by call -/
set_option maxRecDepth 100000 in
set_option maxHeartbeats 800000 in
theorem s_sew_t1 {p : Program} {l : Launch} {e : Env} {s : State} {m : MethodId} {args : Array Value} {below : List Frame} {meth : Method} {c : Code} {H : Heap} {locs : List Loc} {ce7 sn7 : Nat} {Q : State → Prop} {g : GG} {b L xb r ob lim : Nat} {xs : Nat → Int32} {i9 : Nat} {ls : Array Slot} {q : Nat → Int32} {n : Nat} {rm sl sv tx : Nat → Int32} {ln : Nat} {zsp : Nat → Int32} {zth : Int32} {zsg : Nat → Int32} {zbg : Nat → Int32} {zwd : Nat → Int32} {zhg : Nat → Int32} {zin : Nat → Int32} {zop : Int32} {zbe : Int32} {zwi : Int32} {zhi : Int32} {zbk : Nat → Int32} {zot : Nat → Int32} {zer : Int32} {zen : Int32} {zpo : Nat → Int32} {zpi : Int32} {zgr : Int32} {zsh : Nat → Int32} {zsn : Int32} {o : Nat → Int64} (hfl : l.stackTraces = false) (hE : LE p s m meth c g b L xs xb r ob lim) (hi : 4 * i9 + 3 < L) (hC : CLS g xb lim q n rm sl sv tx ln H) (hR : ModAt g r q zsp rm (nI n) sl sv tx (nI ln) zth zsg zbg zwd zhg zin zop zbe zwi zhi zbk zot zer zen zpo zpi zgr zsh zsn H) (hO : at_ g H ob (eL g 1 o)) (hTx : TxT tx ln) (hS : va_S (fun q9 => xb ≤ q9) s.heap H locs) (hl : lv_has ls 7 [(0, .ref b), (1, .ref xb), (2, .ref r), (3, .ref ob), (4, .int (nI (4 * i9)))]) (hce7 : ce7 + 30 ≤ 622861) (hsn7 : sn7 + 1100 ≤ 7227521) (x : Int32) (y : Int32) (a1 : xs (4 * i9 + 1) = x) (a2 : xs (4 * i9 + 2) = y) (hx1 : isIx x 3 = false) (kk : ∀ (H1 : Heap) (locs1 : List Loc) (ls1 : Array Slot), LI g xb r ob lim q n rm sl sv tx ln H1 → va_S (fun q9 => xb ≤ q9) s.heap H1 locs1 → lv_has ls1 7 [(0, .ref b), (1, .ref xb), (2, .ref r), (3, .ref ob), (4, .int (nI (4 * i9)))] → W p l e room_1 s m args below meth c H1 locs1 (ce7 + 30) (sn7 + 1100) Q (F0 m 1803 ls1 [])) : W p l e room_1 s m args below meth c H locs ce7 sn7 Q (F0 m 1013 ls []) := by
  obtain ⟨hB, hZ9, hX, hbl, hL9, hxs, hr9, hob9, hlm9⟩ := hE
  have hx := hB.x
  have hb := hB.b
  have hbA : ¬ (fun q9 => xb ≤ q9) b := fun y9 => by have y8 : xb ≤ b := y9; omega
  have hW := hC.wf
  have hn14 := hC.n14
  have hl6c := hC.l60
  have hnm5 := hW.2.2.1
  refine lv_aload_n hx hb dL_law_1013 rfl (lv_at hl 1 rfl) ?_
  refine lv_aload_n hx hb dL_law_1014 rfl (lv_at hl 0 rfl) ?_
  refine lv_iload hx hb dL_law_1015 (lv_at hl 4 rfl) ?_
  refine lv_iconst (v := nI 1) hx hb dL_law_1017 (by decide) ?_
  refine mn_iadd hB dL_law_1018 ?_
  refine va_sld hx hb hX hbl hbA hS (vp_in_nI (by omega) (by omega)) dL_law_1019 ?_
  refine mh_top (y := .int x) (by rw [nI_clamp (by omega), a1]) ?_
  refine lv_aload_n hx hb dL_law_1020 rfl (lv_at hl 0 rfl) ?_
  refine lv_iload hx hb dL_law_1021 (lv_at hl 4 rfl) ?_
  refine lv_iconst (v := nI 2) hx hb dL_law_1023 (by decide) ?_
  refine mn_iadd hB dL_law_1024 ?_
  refine va_sld hx hb hX hbl hbA hS (vp_in_nI (by omega) (by omega)) dL_law_1025 ?_
  refine mh_top (y := .int y) (by rw [nI_clamp (by omega), a2]) ?_
  refine lv_aload_n hx hb dL_law_1026 rfl (lv_at hl 3 rfl) ?_
  refine cw_150 (As := [.ref xb, .int x, .int y, .ref ob]) (rest := []) hB (hZ9.at hS (fun _ h9 => h9)) (w_sew_t1 l g H xb lim q n rm sl sv tx ln x y ob o (hC) (hO) (hx1) (⟨by omega, by omega⟩) (hfl)) rfl hl.1 (Nat.le_of_ble_eq_true rfl) dL_law_1027 ⟨Nat.le_of_ble_eq_true rfl, Nat.le_of_ble_eq_true rfl⟩ ⟨by show (ce7) + 1 ≤ 622861; omega, by show (sn7) + 6 ≤ 7227521; omega⟩ hS (by have hz9 := hS.1; rintro q9 (h9 | h9) <;> first | exact h9.elim | (have h8 : r ≤ q9 ∧ q9 < r + 16 := h9; show xb ≤ q9; omega) | (have h8 : ((xb ≤ q9 ∧ q9 < xb + 68) ∨ lim ≤ q9) ∨ q9 = ob := h9; show xb ≤ q9; omega) | (have h8 : (xb ≤ q9 ∧ q9 < xb + 68) ∨ lim ≤ q9 := h9; show xb ≤ q9; omega) | (show xb ≤ q9; omega)) (fun v H1 locs hpo hfr hS => ?_)
  obtain ⟨rfl, hC, hO⟩ := hpo
  have hR := hR.keptF hfr (fun q9 h1 h2 y9 => by first | exact y9.elim | (have y8 : ((xb ≤ q9 ∧ q9 < xb + 68) ∨ lim ≤ q9) ∨ q9 = ob := y9; omega) | (have y8 : (xb ≤ q9 ∧ q9 < xb + 68) ∨ lim ≤ q9 := y9; omega))
  generalize H1 = H at hfr hS hR hX hC hO ⊢
  refine W.widen (k := ce7 + 1) (n := sn7 + 6) (by show (ce7) + 1 ≤ ce7 + 1; omega) (by show (sn7) + 6 ≤ sn7 + 6; omega) ?_
  refine lv_istore (lv' := [(5, .int (nI 1)), (0, .ref b), (1, .ref xb), (2, .ref r), (3, .ref ob), (4, .int (nI (4 * i9)))]) hx hb dL_law_1030 hl (by decide) rfl (fun ls hl => ?_)
  refine lv_aload_n hx hb dL_law_1032 rfl (lv_at hl 3 rfl) ?_
  refine lv_aload_n hx hb dL_law_1033 rfl (lv_at hl 1 rfl) ?_
  refine lv_iload hx hb dL_law_1034 (lv_at hl 5 rfl) ?_
  refine lv_iconst (v := nI 1) hx hb dL_law_1036 (by decide) ?_
  refine mn_iadd hB dL_law_1037 ?_
  refine va_sld hx hb hX hbl hbA hS (vp_in_nI (by omega) (by omega)) dL_law_1038 ?_
  refine mh_top (y := .int x) (by rw [nI_clamp (by omega), a1]) ?_
  refine lv_aload_n hx hb dL_law_1039 rfl (lv_at hl 1 rfl) ?_
  refine lv_iload hx hb dL_law_1040 (lv_at hl 5 rfl) ?_
  refine lv_iconst (v := nI 2) hx hb dL_law_1042 (by decide) ?_
  refine mn_iadd hB dL_law_1043 ?_
  refine va_sld hx hb hX hbl hbA hS (vp_in_nI (by omega) (by omega)) dL_law_1044 ?_
  refine mh_top (y := .int y) (by rw [nI_clamp (by omega), a2]) ?_
  refine cl_L_152 (As := [.int x, .int y]) (rest := []) hB (c_X11_sew_t1 l g H r q zsp rm (nI n) sl sv tx (nI ln) zth zsg zbg zwd zhg zin zop zbe zwi zhi zbk zot zer zen zpo zpi zgr zsh zsn x y hR (hx1)) hR.o rfl hl.1 (Nat.le_of_ble_eq_true rfl) dL_law_1045 ⟨Nat.le_of_ble_eq_true rfl, Nat.le_of_ble_eq_true rfl⟩ ⟨by show (ce7 + 1) + 0 ≤ 622861; omega, by show (sn7 + 6) + 0 ≤ 7227521; omega⟩ hS (by have hz9 := hS.1; rintro q9 (h9 | h9) <;> first | exact h9.elim | (have h8 : r ≤ q9 ∧ q9 < r + 16 := h9; show xb ≤ q9; omega) | (have h8 : ((xb ≤ q9 ∧ q9 < xb + 68) ∨ lim ≤ q9) ∨ q9 = ob := h9; show xb ≤ q9; omega) | (have h8 : (xb ≤ q9 ∧ q9 < xb + 68) ∨ lim ≤ q9 := h9; show xb ≤ q9; omega) | (show xb ≤ q9; omega)) (fun v H1 locs hpo hfr hS => ?_)
  obtain ⟨rfl, hR⟩ := hpo
  have hC := hC.keptM hfr (fun a9 y9 => by first | exact y9.elim | (have y8 : r ≤ a9 ∧ a9 < r + 16 := y9; omega))
  have hO := Fr.keep hfr hO (fun y9 => by first | exact y9.elim | (have y8 : r ≤ ob ∧ ob < r + 16 := y9; omega) | (have y8 : (xb ≤ ob ∧ ob < xb + 68) ∨ lim ≤ ob := y9; omega))
  generalize H1 = H at hfr hS hX hC hO hR ⊢
  refine W.widen (k := ce7 + 1) (n := sn7 + 6) (by show (ce7 + 1) + 0 ≤ ce7 + 1; omega) (by show (sn7 + 6) + 0 ≤ sn7 + 6; omega) ?_
  refine lv_istore (lv' := [(6, .int (nI 0)), (5, .int (nI 1)), (0, .ref b), (1, .ref xb), (2, .ref r), (3, .ref ob), (4, .int (nI (4 * i9)))]) hx hb dL_law_1048 hl (by decide) rfl (fun ls hl => ?_)
  refine lv_aload_n hx hb dL_law_1050 rfl (lv_at hl 4 rfl) ?_
  refine cl_L_102 (As := []) (rest := []) hB (c_X11_thrown l g H r q zsp rm (nI n) sl sv tx (nI ln) (nI 1) zsg zbg zwd zhg zin zop zbe zwi zhi zbk zot zer zen zpo zpi zgr zsh zsn hR) hR.o rfl hl.1 (Nat.le_of_ble_eq_true rfl) dL_law_1051 ⟨Nat.le_of_ble_eq_true rfl, Nat.le_of_ble_eq_true rfl⟩ ⟨by show (ce7 + 1) + 0 ≤ 622861; omega, by show (sn7 + 6) + 0 ≤ 7227521; omega⟩ hS (by have hz9 := hS.1; rintro q9 (h9 | h9) <;> first | exact h9.elim | (have h8 : r ≤ q9 ∧ q9 < r + 16 := h9; show xb ≤ q9; omega) | (have h8 : ((xb ≤ q9 ∧ q9 < xb + 68) ∨ lim ≤ q9) ∨ q9 = ob := h9; show xb ≤ q9; omega) | (have h8 : (xb ≤ q9 ∧ q9 < xb + 68) ∨ lim ≤ q9 := h9; show xb ≤ q9; omega) | (show xb ≤ q9; omega)) (fun v H1 locs hpo hfr hS => ?_)
  obtain ⟨rfl, rfl⟩ := hpo
  refine W.widen (k := ce7 + 1) (n := sn7 + 6) (by show (ce7 + 1) + 0 ≤ ce7 + 1; omega) (by show (sn7 + 6) + 0 ≤ sn7 + 6; omega) ?_
  refine lv_iload hx hb dL_law_1054 (lv_at hl 1 rfl) ?_
  refine lv_icmp_eq (tgt := 1061) hx hb dL_law_1056 (by decide) (fun h_1056 => ?_) (fun h9 => absurd rfl h9)
  refine lv_iload hx hb dL_law_1061 (lv_at hl 1 rfl) ?_
  refine mn_if_ne (tgt := 1078) hB dL_law_1063 (by decide) (by omega) (fun h_1063 => ?_) (fun h => by exfalso; omega)
  refine lv_goto (tgt := 1803) hx hb dL_law_1078 (by decide) ?_
  refine W.widen (k := ce7 + 30) (n := sn7 + 1100) (by omega) (by omega) ?_
  exact kk _ _ _ ⟨hC, ⟨_, _, _, _, _, _, _, _, _, _, _, _, _, _, _, _, _, _, _, _, hR⟩, ⟨_, hO⟩, hTx⟩ hS (lv_sub hl [2, 3, 4, 5, 6] rfl)

set_option maxRecDepth 100000 in
set_option maxHeartbeats 800000 in
theorem s_sew_t2 {p : Program} {l : Launch} {e : Env} {s : State} {m : MethodId} {args : Array Value} {below : List Frame} {meth : Method} {c : Code} {H : Heap} {locs : List Loc} {ce7 sn7 : Nat} {Q : State → Prop} {g : GG} {b L xb r ob lim : Nat} {xs : Nat → Int32} {i9 : Nat} {ls : Array Slot} {q : Nat → Int32} {n : Nat} {rm sl sv tx : Nat → Int32} {ln : Nat} {zsp : Nat → Int32} {zth : Int32} {zsg : Nat → Int32} {zbg : Nat → Int32} {zwd : Nat → Int32} {zhg : Nat → Int32} {zin : Nat → Int32} {zop : Int32} {zbe : Int32} {zwi : Int32} {zhi : Int32} {zbk : Nat → Int32} {zot : Nat → Int32} {zer : Int32} {zen : Int32} {zpo : Nat → Int32} {zpi : Int32} {zgr : Int32} {zsh : Nat → Int32} {zsn : Int32} {o : Nat → Int64} (hfl : l.stackTraces = false) (hE : LE p s m meth c g b L xs xb r ob lim) (hi : 4 * i9 + 3 < L) (hC : CLS g xb lim q n rm sl sv tx ln H) (hR : ModAt g r q zsp rm (nI n) sl sv tx (nI ln) zth zsg zbg zwd zhg zin zop zbe zwi zhi zbk zot zer zen zpo zpi zgr zsh zsn H) (hO : at_ g H ob (eL g 1 o)) (hTx : TxT tx ln) (hS : va_S (fun q9 => xb ≤ q9) s.heap H locs) (hl : lv_has ls 7 [(0, .ref b), (1, .ref xb), (2, .ref r), (3, .ref ob), (4, .int (nI (4 * i9)))]) (hce7 : ce7 + 30 ≤ 622861) (hsn7 : sn7 + 1100 ≤ 7227521) (f : Nat) (y : Int32) (a1 : xs (4 * i9 + 1) = nI f) (a2 : xs (4 * i9 + 2) = y) (hf : f < 3) (hx1 : inL y.toInt64 1 99 = false) (kk : ∀ (H1 : Heap) (locs1 : List Loc) (ls1 : Array Slot), LI g xb r ob lim q n rm sl sv tx ln H1 → va_S (fun q9 => xb ≤ q9) s.heap H1 locs1 → lv_has ls1 7 [(0, .ref b), (1, .ref xb), (2, .ref r), (3, .ref ob), (4, .int (nI (4 * i9)))] → W p l e room_1 s m args below meth c H1 locs1 (ce7 + 30) (sn7 + 1100) Q (F0 m 1803 ls1 [])) : W p l e room_1 s m args below meth c H locs ce7 sn7 Q (F0 m 1013 ls []) := by
  obtain ⟨hB, hZ9, hX, hbl, hL9, hxs, hr9, hob9, hlm9⟩ := hE
  have hx := hB.x
  have hb := hB.b
  have hbA : ¬ (fun q9 => xb ≤ q9) b := fun y9 => by have y8 : xb ≤ b := y9; omega
  have hW := hC.wf
  have hn14 := hC.n14
  have hl6c := hC.l60
  have hnm5 := hW.2.2.1
  refine lv_aload_n hx hb dL_law_1013 rfl (lv_at hl 1 rfl) ?_
  refine lv_aload_n hx hb dL_law_1014 rfl (lv_at hl 0 rfl) ?_
  refine lv_iload hx hb dL_law_1015 (lv_at hl 4 rfl) ?_
  refine lv_iconst (v := nI 1) hx hb dL_law_1017 (by decide) ?_
  refine mn_iadd hB dL_law_1018 ?_
  refine va_sld hx hb hX hbl hbA hS (vp_in_nI (by omega) (by omega)) dL_law_1019 ?_
  refine mh_top (y := .int (nI f)) (by rw [nI_clamp (by omega), a1]) ?_
  refine lv_aload_n hx hb dL_law_1020 rfl (lv_at hl 0 rfl) ?_
  refine lv_iload hx hb dL_law_1021 (lv_at hl 4 rfl) ?_
  refine lv_iconst (v := nI 2) hx hb dL_law_1023 (by decide) ?_
  refine mn_iadd hB dL_law_1024 ?_
  refine va_sld hx hb hX hbl hbA hS (vp_in_nI (by omega) (by omega)) dL_law_1025 ?_
  refine mh_top (y := .int y) (by rw [nI_clamp (by omega), a2]) ?_
  refine lv_aload_n hx hb dL_law_1026 rfl (lv_at hl 3 rfl) ?_
  refine cw_150 (As := [.ref xb, .int (nI f), .int y, .ref ob]) (rest := []) hB (hZ9.at hS (fun _ h9 => h9)) (w_sew_t2 l g H xb lim q n rm sl sv tx ln f y ob o (hC) (hO) (hf) (hx1) (⟨by omega, by omega⟩) (hfl)) rfl hl.1 (Nat.le_of_ble_eq_true rfl) dL_law_1027 ⟨Nat.le_of_ble_eq_true rfl, Nat.le_of_ble_eq_true rfl⟩ ⟨by show (ce7) + 1 ≤ 622861; omega, by show (sn7) + 6 ≤ 7227521; omega⟩ hS (by have hz9 := hS.1; rintro q9 (h9 | h9) <;> first | exact h9.elim | (have h8 : r ≤ q9 ∧ q9 < r + 16 := h9; show xb ≤ q9; omega) | (have h8 : ((xb ≤ q9 ∧ q9 < xb + 68) ∨ lim ≤ q9) ∨ q9 = ob := h9; show xb ≤ q9; omega) | (have h8 : (xb ≤ q9 ∧ q9 < xb + 68) ∨ lim ≤ q9 := h9; show xb ≤ q9; omega) | (show xb ≤ q9; omega)) (fun v H1 locs hpo hfr hS => ?_)
  obtain ⟨rfl, hC, hO⟩ := hpo
  have hR := hR.keptF hfr (fun q9 h1 h2 y9 => by first | exact y9.elim | (have y8 : ((xb ≤ q9 ∧ q9 < xb + 68) ∨ lim ≤ q9) ∨ q9 = ob := y9; omega) | (have y8 : (xb ≤ q9 ∧ q9 < xb + 68) ∨ lim ≤ q9 := y9; omega))
  generalize H1 = H at hfr hS hR hX hC hO ⊢
  refine W.widen (k := ce7 + 1) (n := sn7 + 6) (by show (ce7) + 1 ≤ ce7 + 1; omega) (by show (sn7) + 6 ≤ sn7 + 6; omega) ?_
  refine lv_istore (lv' := [(5, .int (nI 2)), (0, .ref b), (1, .ref xb), (2, .ref r), (3, .ref ob), (4, .int (nI (4 * i9)))]) hx hb dL_law_1030 hl (by decide) rfl (fun ls hl => ?_)
  refine lv_aload_n hx hb dL_law_1032 rfl (lv_at hl 3 rfl) ?_
  refine lv_aload_n hx hb dL_law_1033 rfl (lv_at hl 1 rfl) ?_
  refine lv_iload hx hb dL_law_1034 (lv_at hl 5 rfl) ?_
  refine lv_iconst (v := nI 1) hx hb dL_law_1036 (by decide) ?_
  refine mn_iadd hB dL_law_1037 ?_
  refine va_sld hx hb hX hbl hbA hS (vp_in_nI (by omega) (by omega)) dL_law_1038 ?_
  refine mh_top (y := .int (nI f)) (by rw [nI_clamp (by omega), a1]) ?_
  refine lv_aload_n hx hb dL_law_1039 rfl (lv_at hl 1 rfl) ?_
  refine lv_iload hx hb dL_law_1040 (lv_at hl 5 rfl) ?_
  refine lv_iconst (v := nI 2) hx hb dL_law_1042 (by decide) ?_
  refine mn_iadd hB dL_law_1043 ?_
  refine va_sld hx hb hX hbl hbA hS (vp_in_nI (by omega) (by omega)) dL_law_1044 ?_
  refine mh_top (y := .int y) (by rw [nI_clamp (by omega), a2]) ?_
  refine cl_L_152 (As := [.int (nI f), .int y]) (rest := []) hB (c_X11_sew_t2 l g H r q zsp rm (nI n) sl sv tx (nI ln) zth zsg zbg zwd zhg zin zop zbe zwi zhi zbk zot zer zen zpo zpi zgr zsh zsn f y hR (hf) (hx1)) hR.o rfl hl.1 (Nat.le_of_ble_eq_true rfl) dL_law_1045 ⟨Nat.le_of_ble_eq_true rfl, Nat.le_of_ble_eq_true rfl⟩ ⟨by show (ce7 + 1) + 0 ≤ 622861; omega, by show (sn7 + 6) + 0 ≤ 7227521; omega⟩ hS (by have hz9 := hS.1; rintro q9 (h9 | h9) <;> first | exact h9.elim | (have h8 : r ≤ q9 ∧ q9 < r + 16 := h9; show xb ≤ q9; omega) | (have h8 : ((xb ≤ q9 ∧ q9 < xb + 68) ∨ lim ≤ q9) ∨ q9 = ob := h9; show xb ≤ q9; omega) | (have h8 : (xb ≤ q9 ∧ q9 < xb + 68) ∨ lim ≤ q9 := h9; show xb ≤ q9; omega) | (show xb ≤ q9; omega)) (fun v H1 locs hpo hfr hS => ?_)
  obtain ⟨rfl, hR⟩ := hpo
  have hC := hC.keptM hfr (fun a9 y9 => by first | exact y9.elim | (have y8 : r ≤ a9 ∧ a9 < r + 16 := y9; omega))
  have hO := Fr.keep hfr hO (fun y9 => by first | exact y9.elim | (have y8 : r ≤ ob ∧ ob < r + 16 := y9; omega) | (have y8 : (xb ≤ ob ∧ ob < xb + 68) ∨ lim ≤ ob := y9; omega))
  generalize H1 = H at hfr hS hX hC hO hR ⊢
  refine W.widen (k := ce7 + 1) (n := sn7 + 6) (by show (ce7 + 1) + 0 ≤ ce7 + 1; omega) (by show (sn7 + 6) + 0 ≤ sn7 + 6; omega) ?_
  refine lv_istore (lv' := [(6, .int (nI 0)), (5, .int (nI 2)), (0, .ref b), (1, .ref xb), (2, .ref r), (3, .ref ob), (4, .int (nI (4 * i9)))]) hx hb dL_law_1048 hl (by decide) rfl (fun ls hl => ?_)
  refine lv_aload_n hx hb dL_law_1050 rfl (lv_at hl 4 rfl) ?_
  refine cl_L_102 (As := []) (rest := []) hB (c_X11_thrown l g H r q zsp rm (nI n) sl sv tx (nI ln) (nI 2) zsg zbg zwd zhg zin zop zbe zwi zhi zbk zot zer zen zpo zpi zgr zsh zsn hR) hR.o rfl hl.1 (Nat.le_of_ble_eq_true rfl) dL_law_1051 ⟨Nat.le_of_ble_eq_true rfl, Nat.le_of_ble_eq_true rfl⟩ ⟨by show (ce7 + 1) + 0 ≤ 622861; omega, by show (sn7 + 6) + 0 ≤ 7227521; omega⟩ hS (by have hz9 := hS.1; rintro q9 (h9 | h9) <;> first | exact h9.elim | (have h8 : r ≤ q9 ∧ q9 < r + 16 := h9; show xb ≤ q9; omega) | (have h8 : ((xb ≤ q9 ∧ q9 < xb + 68) ∨ lim ≤ q9) ∨ q9 = ob := h9; show xb ≤ q9; omega) | (have h8 : (xb ≤ q9 ∧ q9 < xb + 68) ∨ lim ≤ q9 := h9; show xb ≤ q9; omega) | (show xb ≤ q9; omega)) (fun v H1 locs hpo hfr hS => ?_)
  obtain ⟨rfl, rfl⟩ := hpo
  refine W.widen (k := ce7 + 1) (n := sn7 + 6) (by show (ce7 + 1) + 0 ≤ ce7 + 1; omega) (by show (sn7 + 6) + 0 ≤ sn7 + 6; omega) ?_
  refine lv_iload hx hb dL_law_1054 (lv_at hl 1 rfl) ?_
  refine lv_icmp_eq (tgt := 1061) hx hb dL_law_1056 (by decide) (fun h_1056 => ?_) (fun h9 => absurd rfl h9)
  refine lv_iload hx hb dL_law_1061 (lv_at hl 1 rfl) ?_
  refine mn_if_ne (tgt := 1078) hB dL_law_1063 (by decide) (by omega) (fun h_1063 => ?_) (fun h => by exfalso; omega)
  refine lv_goto (tgt := 1803) hx hb dL_law_1078 (by decide) ?_
  refine W.widen (k := ce7 + 30) (n := sn7 + 1100) (by omega) (by omega) ?_
  exact kk _ _ _ ⟨hC, ⟨_, _, _, _, _, _, _, _, _, _, _, _, _, _, _, _, _, _, _, _, hR⟩, ⟨_, hO⟩, hTx⟩ hS (lv_sub hl [2, 3, 4, 5, 6] rfl)

set_option maxRecDepth 100000 in
set_option maxHeartbeats 800000 in
theorem s_sew_t3 {p : Program} {l : Launch} {e : Env} {s : State} {m : MethodId} {args : Array Value} {below : List Frame} {meth : Method} {c : Code} {H : Heap} {locs : List Loc} {ce7 sn7 : Nat} {Q : State → Prop} {g : GG} {b L xb r ob lim : Nat} {xs : Nat → Int32} {i9 : Nat} {ls : Array Slot} {q : Nat → Int32} {n : Nat} {rm sl sv tx : Nat → Int32} {ln : Nat} {zsp : Nat → Int32} {zth : Int32} {zsg : Nat → Int32} {zbg : Nat → Int32} {zwd : Nat → Int32} {zhg : Nat → Int32} {zin : Nat → Int32} {zop : Int32} {zbe : Int32} {zwi : Int32} {zhi : Int32} {zbk : Nat → Int32} {zot : Nat → Int32} {zer : Int32} {zen : Int32} {zpo : Nat → Int32} {zpi : Int32} {zgr : Int32} {zsh : Nat → Int32} {zsn : Int32} {o : Nat → Int64} (hfl : l.stackTraces = false) (hE : LE p s m meth c g b L xs xb r ob lim) (hi : 4 * i9 + 3 < L) (hC : CLS g xb lim q n rm sl sv tx ln H) (hR : ModAt g r q zsp rm (nI n) sl sv tx (nI ln) zth zsg zbg zwd zhg zin zop zbe zwi zhi zbk zot zer zen zpo zpi zgr zsh zsn H) (hO : at_ g H ob (eL g 1 o)) (hTx : TxT tx ln) (hS : va_S (fun q9 => xb ≤ q9) s.heap H locs) (hl : lv_has ls 7 [(0, .ref b), (1, .ref xb), (2, .ref r), (3, .ref ob), (4, .int (nI (4 * i9)))]) (hce7 : ce7 + 30 ≤ 622861) (hsn7 : sn7 + 1100 ≤ 7227521) (f : Nat) (x : Nat) (a1 : xs (4 * i9 + 1) = nI f) (a2 : xs (4 * i9 + 2) = nI x) (hf : f < 3) (hx1 : 0 < x) (hx2 : x < 100) (hs0 : ¬ (0 < szF q f ∧ 0 < nmQ q)) (kk : ∀ (H1 : Heap) (locs1 : List Loc) (ls1 : Array Slot), LI g xb r ob lim q n rm sl sv tx ln H1 → va_S (fun q9 => xb ≤ q9) s.heap H1 locs1 → lv_has ls1 7 [(0, .ref b), (1, .ref xb), (2, .ref r), (3, .ref ob), (4, .int (nI (4 * i9)))] → W p l e room_1 s m args below meth c H1 locs1 (ce7 + 30) (sn7 + 1100) Q (F0 m 1803 ls1 [])) : W p l e room_1 s m args below meth c H locs ce7 sn7 Q (F0 m 1013 ls []) := by
  obtain ⟨hB, hZ9, hX, hbl, hL9, hxs, hr9, hob9, hlm9⟩ := hE
  have hx := hB.x
  have hb := hB.b
  have hbA : ¬ (fun q9 => xb ≤ q9) b := fun y9 => by have y8 : xb ≤ b := y9; omega
  have hW := hC.wf
  have hn14 := hC.n14
  have hl6c := hC.l60
  have hnm5 := hW.2.2.1
  refine lv_aload_n hx hb dL_law_1013 rfl (lv_at hl 1 rfl) ?_
  refine lv_aload_n hx hb dL_law_1014 rfl (lv_at hl 0 rfl) ?_
  refine lv_iload hx hb dL_law_1015 (lv_at hl 4 rfl) ?_
  refine lv_iconst (v := nI 1) hx hb dL_law_1017 (by decide) ?_
  refine mn_iadd hB dL_law_1018 ?_
  refine va_sld hx hb hX hbl hbA hS (vp_in_nI (by omega) (by omega)) dL_law_1019 ?_
  refine mh_top (y := .int (nI f)) (by rw [nI_clamp (by omega), a1]) ?_
  refine lv_aload_n hx hb dL_law_1020 rfl (lv_at hl 0 rfl) ?_
  refine lv_iload hx hb dL_law_1021 (lv_at hl 4 rfl) ?_
  refine lv_iconst (v := nI 2) hx hb dL_law_1023 (by decide) ?_
  refine mn_iadd hB dL_law_1024 ?_
  refine va_sld hx hb hX hbl hbA hS (vp_in_nI (by omega) (by omega)) dL_law_1025 ?_
  refine mh_top (y := .int (nI x)) (by rw [nI_clamp (by omega), a2]) ?_
  refine lv_aload_n hx hb dL_law_1026 rfl (lv_at hl 3 rfl) ?_
  refine cw_150 (As := [.ref xb, .int (nI f), .int (nI x), .ref ob]) (rest := []) hB (hZ9.at hS (fun _ h9 => h9)) (w_sew_t3 l g H xb lim q n rm sl sv tx ln f x ob o (hC) (hO) (hf) (hx1) (hx2) (hs0) (⟨by omega, by omega⟩) (hfl)) rfl hl.1 (Nat.le_of_ble_eq_true rfl) dL_law_1027 ⟨Nat.le_of_ble_eq_true rfl, Nat.le_of_ble_eq_true rfl⟩ ⟨by show (ce7) + 1 ≤ 622861; omega, by show (sn7) + 6 ≤ 7227521; omega⟩ hS (by have hz9 := hS.1; rintro q9 (h9 | h9) <;> first | exact h9.elim | (have h8 : r ≤ q9 ∧ q9 < r + 16 := h9; show xb ≤ q9; omega) | (have h8 : ((xb ≤ q9 ∧ q9 < xb + 68) ∨ lim ≤ q9) ∨ q9 = ob := h9; show xb ≤ q9; omega) | (have h8 : (xb ≤ q9 ∧ q9 < xb + 68) ∨ lim ≤ q9 := h9; show xb ≤ q9; omega) | (show xb ≤ q9; omega)) (fun v H1 locs hpo hfr hS => ?_)
  obtain ⟨rfl, hC, hO⟩ := hpo
  have hR := hR.keptF hfr (fun q9 h1 h2 y9 => by first | exact y9.elim | (have y8 : ((xb ≤ q9 ∧ q9 < xb + 68) ∨ lim ≤ q9) ∨ q9 = ob := y9; omega) | (have y8 : (xb ≤ q9 ∧ q9 < xb + 68) ∨ lim ≤ q9 := y9; omega))
  generalize H1 = H at hfr hS hR hX hC hO ⊢
  refine W.widen (k := ce7 + 1) (n := sn7 + 6) (by show (ce7) + 1 ≤ ce7 + 1; omega) (by show (sn7) + 6 ≤ sn7 + 6; omega) ?_
  refine lv_istore (lv' := [(5, .int (nI 3)), (0, .ref b), (1, .ref xb), (2, .ref r), (3, .ref ob), (4, .int (nI (4 * i9)))]) hx hb dL_law_1030 hl (by decide) rfl (fun ls hl => ?_)
  refine lv_aload_n hx hb dL_law_1032 rfl (lv_at hl 3 rfl) ?_
  refine lv_aload_n hx hb dL_law_1033 rfl (lv_at hl 1 rfl) ?_
  refine lv_iload hx hb dL_law_1034 (lv_at hl 5 rfl) ?_
  refine lv_iconst (v := nI 1) hx hb dL_law_1036 (by decide) ?_
  refine mn_iadd hB dL_law_1037 ?_
  refine va_sld hx hb hX hbl hbA hS (vp_in_nI (by omega) (by omega)) dL_law_1038 ?_
  refine mh_top (y := .int (nI f)) (by rw [nI_clamp (by omega), a1]) ?_
  refine lv_aload_n hx hb dL_law_1039 rfl (lv_at hl 1 rfl) ?_
  refine lv_iload hx hb dL_law_1040 (lv_at hl 5 rfl) ?_
  refine lv_iconst (v := nI 2) hx hb dL_law_1042 (by decide) ?_
  refine mn_iadd hB dL_law_1043 ?_
  refine va_sld hx hb hX hbl hbA hS (vp_in_nI (by omega) (by omega)) dL_law_1044 ?_
  refine mh_top (y := .int (nI x)) (by rw [nI_clamp (by omega), a2]) ?_
  refine cl_L_152 (As := [.int (nI f), .int (nI x)]) (rest := []) hB (c_X11_sew_t3 l g H r q zsp rm (nI n) sl sv tx (nI ln) zth zsg zbg zwd zhg zin zop zbe zwi zhi zbk zot zer zen zpo zpi zgr zsh zsn f x hR (by first | assumption | omega) (hf) (hx1) (hx2) (hs0)) hR.o rfl hl.1 (Nat.le_of_ble_eq_true rfl) dL_law_1045 ⟨Nat.le_of_ble_eq_true rfl, Nat.le_of_ble_eq_true rfl⟩ ⟨by show (ce7 + 1) + 0 ≤ 622861; omega, by show (sn7 + 6) + 0 ≤ 7227521; omega⟩ hS (by have hz9 := hS.1; rintro q9 (h9 | h9) <;> first | exact h9.elim | (have h8 : r ≤ q9 ∧ q9 < r + 16 := h9; show xb ≤ q9; omega) | (have h8 : ((xb ≤ q9 ∧ q9 < xb + 68) ∨ lim ≤ q9) ∨ q9 = ob := h9; show xb ≤ q9; omega) | (have h8 : (xb ≤ q9 ∧ q9 < xb + 68) ∨ lim ≤ q9 := h9; show xb ≤ q9; omega) | (show xb ≤ q9; omega)) (fun v H1 locs hpo hfr hS => ?_)
  obtain ⟨rfl, hR⟩ := hpo
  have hC := hC.keptM hfr (fun a9 y9 => by first | exact y9.elim | (have y8 : r ≤ a9 ∧ a9 < r + 16 := y9; omega))
  have hO := Fr.keep hfr hO (fun y9 => by first | exact y9.elim | (have y8 : r ≤ ob ∧ ob < r + 16 := y9; omega) | (have y8 : (xb ≤ ob ∧ ob < xb + 68) ∨ lim ≤ ob := y9; omega))
  generalize H1 = H at hfr hS hX hC hO hR ⊢
  refine W.widen (k := ce7 + 1) (n := sn7 + 6) (by show (ce7 + 1) + 0 ≤ ce7 + 1; omega) (by show (sn7 + 6) + 0 ≤ sn7 + 6; omega) ?_
  refine lv_istore (lv' := [(6, .int (nI 0)), (5, .int (nI 3)), (0, .ref b), (1, .ref xb), (2, .ref r), (3, .ref ob), (4, .int (nI (4 * i9)))]) hx hb dL_law_1048 hl (by decide) rfl (fun ls hl => ?_)
  refine lv_aload_n hx hb dL_law_1050 rfl (lv_at hl 4 rfl) ?_
  refine cl_L_102 (As := []) (rest := []) hB (c_X11_thrown l g H r q zsp rm (nI n) sl sv tx (nI ln) (nI 3) zsg zbg zwd zhg zin zop zbe zwi zhi zbk zot zer zen zpo zpi zgr zsh zsn hR) hR.o rfl hl.1 (Nat.le_of_ble_eq_true rfl) dL_law_1051 ⟨Nat.le_of_ble_eq_true rfl, Nat.le_of_ble_eq_true rfl⟩ ⟨by show (ce7 + 1) + 0 ≤ 622861; omega, by show (sn7 + 6) + 0 ≤ 7227521; omega⟩ hS (by have hz9 := hS.1; rintro q9 (h9 | h9) <;> first | exact h9.elim | (have h8 : r ≤ q9 ∧ q9 < r + 16 := h9; show xb ≤ q9; omega) | (have h8 : ((xb ≤ q9 ∧ q9 < xb + 68) ∨ lim ≤ q9) ∨ q9 = ob := h9; show xb ≤ q9; omega) | (have h8 : (xb ≤ q9 ∧ q9 < xb + 68) ∨ lim ≤ q9 := h9; show xb ≤ q9; omega) | (show xb ≤ q9; omega)) (fun v H1 locs hpo hfr hS => ?_)
  obtain ⟨rfl, rfl⟩ := hpo
  refine W.widen (k := ce7 + 1) (n := sn7 + 6) (by show (ce7 + 1) + 0 ≤ ce7 + 1; omega) (by show (sn7 + 6) + 0 ≤ sn7 + 6; omega) ?_
  refine lv_iload hx hb dL_law_1054 (lv_at hl 1 rfl) ?_
  refine lv_icmp_eq (tgt := 1061) hx hb dL_law_1056 (by decide) (fun h_1056 => ?_) (fun h9 => absurd rfl h9)
  refine lv_iload hx hb dL_law_1061 (lv_at hl 1 rfl) ?_
  refine mn_if_ne (tgt := 1078) hB dL_law_1063 (by decide) (by omega) (fun h_1063 => ?_) (fun h => by exfalso; omega)
  refine lv_goto (tgt := 1803) hx hb dL_law_1078 (by decide) ?_
  refine W.widen (k := ce7 + 30) (n := sn7 + 1100) (by omega) (by omega) ?_
  exact kk _ _ _ ⟨hC, ⟨_, _, _, _, _, _, _, _, _, _, _, _, _, _, _, _, _, _, _, _, hR⟩, ⟨_, hO⟩, hTx⟩ hS (lv_sub hl [2, 3, 4, 5, 6] rfl)

set_option maxRecDepth 100000 in
set_option maxHeartbeats 800000 in
theorem s_sew_ok {p : Program} {l : Launch} {e : Env} {s : State} {m : MethodId} {args : Array Value} {below : List Frame} {meth : Method} {c : Code} {H : Heap} {locs : List Loc} {ce7 sn7 : Nat} {Q : State → Prop} {g : GG} {b L xb r ob lim : Nat} {xs : Nat → Int32} {i9 : Nat} {ls : Array Slot} {q : Nat → Int32} {n : Nat} {rm sl sv tx : Nat → Int32} {ln : Nat} {zsp : Nat → Int32} {zth : Int32} {zsg : Nat → Int32} {zbg : Nat → Int32} {zwd : Nat → Int32} {zhg : Nat → Int32} {zin : Nat → Int32} {zop : Int32} {zbe : Int32} {zwi : Int32} {zhi : Int32} {zbk : Nat → Int32} {zot : Nat → Int32} {zer : Int32} {zen : Int32} {zpo : Nat → Int32} {zpi : Int32} {zgr : Int32} {zsh : Nat → Int32} {zsn : Int32} {o : Nat → Int64} (hfl : l.stackTraces = false) (hE : LE p s m meth c g b L xs xb r ob lim) (hi : 4 * i9 + 3 < L) (hC : CLS g xb lim q n rm sl sv tx ln H) (hR : ModAt g r q zsp rm (nI n) sl sv tx (nI ln) zth zsg zbg zwd zhg zin zop zbe zwi zhi zbk zot zer zen zpo zpi zgr zsh zsn H) (hO : at_ g H ob (eL g 1 o)) (hTx : TxT tx ln) (hS : va_S (fun q9 => xb ≤ q9) s.heap H locs) (hl : lv_has ls 7 [(0, .ref b), (1, .ref xb), (2, .ref r), (3, .ref ob), (4, .int (nI (4 * i9)))]) (hce7 : ce7 + 30 ≤ 622861) (hsn7 : sn7 + 1100 ≤ 7227521) (f : Nat) (x : Nat) (a1 : xs (4 * i9 + 1) = nI f) (a2 : xs (4 * i9 + 2) = nI x) (hf : f < 3) (hx1 : 0 < x) (hx2 : x < 100) (hs0 : 0 < szF q f) (h0 : 0 < nmQ q) (kk : ∀ (H1 : Heap) (locs1 : List Loc) (ls1 : Array Slot), LI g xb r ob lim (sewE f x q) (nxtS n) (remA rm n q) sl sv tx ln H1 → va_S (fun q9 => xb ≤ q9) s.heap H1 locs1 → lv_has ls1 7 [(0, .ref b), (1, .ref xb), (2, .ref r), (3, .ref ob), (4, .int (nI (4 * i9)))] → W p l e room_1 s m args below meth c H1 locs1 (ce7 + 30) (sn7 + 1100) Q (F0 m 1803 ls1 [])) : W p l e room_1 s m args below meth c H locs ce7 sn7 Q (F0 m 1013 ls []) := by
  obtain ⟨hB, hZ9, hX, hbl, hL9, hxs, hr9, hob9, hlm9⟩ := hE
  have hx := hB.x
  have hb := hB.b
  have hbA : ¬ (fun q9 => xb ≤ q9) b := fun y9 => by have y8 : xb ≤ b := y9; omega
  have hW := hC.wf
  have hn14 := hC.n14
  have hl6c := hC.l60
  have hnm5 := hW.2.2.1
  refine lv_aload_n hx hb dL_law_1013 rfl (lv_at hl 1 rfl) ?_
  refine lv_aload_n hx hb dL_law_1014 rfl (lv_at hl 0 rfl) ?_
  refine lv_iload hx hb dL_law_1015 (lv_at hl 4 rfl) ?_
  refine lv_iconst (v := nI 1) hx hb dL_law_1017 (by decide) ?_
  refine mn_iadd hB dL_law_1018 ?_
  refine va_sld hx hb hX hbl hbA hS (vp_in_nI (by omega) (by omega)) dL_law_1019 ?_
  refine mh_top (y := .int (nI f)) (by rw [nI_clamp (by omega), a1]) ?_
  refine lv_aload_n hx hb dL_law_1020 rfl (lv_at hl 0 rfl) ?_
  refine lv_iload hx hb dL_law_1021 (lv_at hl 4 rfl) ?_
  refine lv_iconst (v := nI 2) hx hb dL_law_1023 (by decide) ?_
  refine mn_iadd hB dL_law_1024 ?_
  refine va_sld hx hb hX hbl hbA hS (vp_in_nI (by omega) (by omega)) dL_law_1025 ?_
  refine mh_top (y := .int (nI x)) (by rw [nI_clamp (by omega), a2]) ?_
  refine lv_aload_n hx hb dL_law_1026 rfl (lv_at hl 3 rfl) ?_
  refine cw_150 (As := [.ref xb, .int (nI f), .int (nI x), .ref ob]) (rest := []) hB (hZ9.at hS (fun _ h9 => h9)) (w_sew_ok l g H xb lim q n rm sl sv tx ln f x ob o (hC) (hO) (hf) (hx1) (hx2) (hs0) (h0) (⟨by omega, by omega⟩) (hfl)) rfl hl.1 (Nat.le_of_ble_eq_true rfl) dL_law_1027 ⟨Nat.le_of_ble_eq_true rfl, Nat.le_of_ble_eq_true rfl⟩ ⟨by show (ce7) + 26 ≤ 622861; omega, by show (sn7) + 126 ≤ 7227521; omega⟩ hS (by have hz9 := hS.1; rintro q9 (h9 | h9) <;> first | exact h9.elim | (have h8 : r ≤ q9 ∧ q9 < r + 16 := h9; show xb ≤ q9; omega) | (have h8 : ((xb ≤ q9 ∧ q9 < xb + 68) ∨ lim ≤ q9) ∨ q9 = ob := h9; show xb ≤ q9; omega) | (have h8 : (xb ≤ q9 ∧ q9 < xb + 68) ∨ lim ≤ q9 := h9; show xb ≤ q9; omega) | (show xb ≤ q9; omega)) (fun v H1 locs hpo hfr hS => ?_)
  obtain ⟨rfl, hC, hO⟩ := hpo
  have hR := hR.keptF hfr (fun q9 h1 h2 y9 => by first | exact y9.elim | (have y8 : ((xb ≤ q9 ∧ q9 < xb + 68) ∨ lim ≤ q9) ∨ q9 = ob := y9; omega) | (have y8 : (xb ≤ q9 ∧ q9 < xb + 68) ∨ lim ≤ q9 := y9; omega))
  generalize H1 = H at hfr hS hR hX hC hO ⊢
  refine W.widen (k := ce7 + 26) (n := sn7 + 126) (by show (ce7) + 26 ≤ ce7 + 26; omega) (by show (sn7) + 126 ≤ sn7 + 126; omega) ?_
  refine lv_istore (lv' := [(5, .int (nI 0)), (0, .ref b), (1, .ref xb), (2, .ref r), (3, .ref ob), (4, .int (nI (4 * i9)))]) hx hb dL_law_1030 hl (by decide) rfl (fun ls hl => ?_)
  refine lv_aload_n hx hb dL_law_1032 rfl (lv_at hl 3 rfl) ?_
  refine lv_aload_n hx hb dL_law_1033 rfl (lv_at hl 1 rfl) ?_
  refine lv_iload hx hb dL_law_1034 (lv_at hl 5 rfl) ?_
  refine lv_iconst (v := nI 1) hx hb dL_law_1036 (by decide) ?_
  refine mn_iadd hB dL_law_1037 ?_
  refine va_sld hx hb hX hbl hbA hS (vp_in_nI (by omega) (by omega)) dL_law_1038 ?_
  refine mh_top (y := .int (nI f)) (by rw [nI_clamp (by omega), a1]) ?_
  refine lv_aload_n hx hb dL_law_1039 rfl (lv_at hl 1 rfl) ?_
  refine lv_iload hx hb dL_law_1040 (lv_at hl 5 rfl) ?_
  refine lv_iconst (v := nI 2) hx hb dL_law_1042 (by decide) ?_
  refine mn_iadd hB dL_law_1043 ?_
  refine va_sld hx hb hX hbl hbA hS (vp_in_nI (by omega) (by omega)) dL_law_1044 ?_
  refine mh_top (y := .int (nI x)) (by rw [nI_clamp (by omega), a2]) ?_
  refine cl_L_152 (As := [.int (nI f), .int (nI x)]) (rest := []) hB (c_X11_sew l g H r q zsp rm sl sv tx (nI ln) zth zsg zbg zwd zhg zin zop zbe zwi zhi zbk zot zer zen zpo zpi zgr zsh zsn n f x hR (by first | assumption | omega) (by first | assumption | omega) (hf) (hx1) (hx2) (hs0) (h0)) hR.o rfl hl.1 (Nat.le_of_ble_eq_true rfl) dL_law_1045 ⟨Nat.le_of_ble_eq_true rfl, Nat.le_of_ble_eq_true rfl⟩ ⟨by show (ce7 + 26) + 0 ≤ 622861; omega, by show (sn7 + 126) + 0 ≤ 7227521; omega⟩ hS (by have hz9 := hS.1; rintro q9 (h9 | h9) <;> first | exact h9.elim | (have h8 : r ≤ q9 ∧ q9 < r + 16 := h9; show xb ≤ q9; omega) | (have h8 : ((xb ≤ q9 ∧ q9 < xb + 68) ∨ lim ≤ q9) ∨ q9 = ob := h9; show xb ≤ q9; omega) | (have h8 : (xb ≤ q9 ∧ q9 < xb + 68) ∨ lim ≤ q9 := h9; show xb ≤ q9; omega) | (show xb ≤ q9; omega)) (fun v H1 locs hpo hfr hS => ?_)
  obtain ⟨rfl, hR⟩ := hpo
  have hC := hC.keptM hfr (fun a9 y9 => by first | exact y9.elim | (have y8 : r ≤ a9 ∧ a9 < r + 16 := y9; omega))
  have hO := Fr.keep hfr hO (fun y9 => by first | exact y9.elim | (have y8 : r ≤ ob ∧ ob < r + 16 := y9; omega) | (have y8 : (xb ≤ ob ∧ ob < xb + 68) ∨ lim ≤ ob := y9; omega))
  generalize H1 = H at hfr hS hX hC hO hR ⊢
  refine W.widen (k := ce7 + 26) (n := sn7 + 126) (by show (ce7 + 26) + 0 ≤ ce7 + 26; omega) (by show (sn7 + 126) + 0 ≤ sn7 + 126; omega) ?_
  refine lv_istore (lv' := [(6, .int (nI (sewN f (tnQ q) x q))), (5, .int (nI 0)), (0, .ref b), (1, .ref xb), (2, .ref r), (3, .ref ob), (4, .int (nI (4 * i9)))]) hx hb dL_law_1048 hl (by decide) rfl (fun ls hl => ?_)
  refine lv_aload_n hx hb dL_law_1050 rfl (lv_at hl 4 rfl) ?_
  refine cl_L_102 (As := []) (rest := []) hB (c_X11_thrown l g H r (sewE f x q) zsp (remA rm n q) (nI (nxtS n)) sl sv tx (nI ln) (nI 0) zsg zbg zwd zhg zin zop zbe zwi zhi zbk zot zer zen zpo zpi zgr zsh zsn hR) hR.o rfl hl.1 (Nat.le_of_ble_eq_true rfl) dL_law_1051 ⟨Nat.le_of_ble_eq_true rfl, Nat.le_of_ble_eq_true rfl⟩ ⟨by show (ce7 + 26) + 0 ≤ 622861; omega, by show (sn7 + 126) + 0 ≤ 7227521; omega⟩ hS (by have hz9 := hS.1; rintro q9 (h9 | h9) <;> first | exact h9.elim | (have h8 : r ≤ q9 ∧ q9 < r + 16 := h9; show xb ≤ q9; omega) | (have h8 : ((xb ≤ q9 ∧ q9 < xb + 68) ∨ lim ≤ q9) ∨ q9 = ob := h9; show xb ≤ q9; omega) | (have h8 : (xb ≤ q9 ∧ q9 < xb + 68) ∨ lim ≤ q9 := h9; show xb ≤ q9; omega) | (show xb ≤ q9; omega)) (fun v H1 locs hpo hfr hS => ?_)
  obtain ⟨rfl, rfl⟩ := hpo
  refine W.widen (k := ce7 + 26) (n := sn7 + 126) (by show (ce7 + 26) + 0 ≤ ce7 + 26; omega) (by show (sn7 + 126) + 0 ≤ sn7 + 126; omega) ?_
  refine lv_iload hx hb dL_law_1054 (lv_at hl 1 rfl) ?_
  refine lv_icmp_eq (tgt := 1061) hx hb dL_law_1056 (by decide) (fun h_1056 => ?_) (fun h9 => absurd rfl h9)
  refine lv_iload hx hb dL_law_1061 (lv_at hl 1 rfl) ?_
  refine mn_if_ne (tgt := 1078) hB dL_law_1063 (by decide) (by omega) (fun h => by exfalso; omega) (fun h_1063 => ?_)
  refine lv_aload_n hx hb dL_law_1066 rfl (lv_at hl 5 rfl) ?_
  refine lv_iconst (v := nI 0) hx hb dL_law_1067 (by decide) ?_
  refine mn_lald hB hO (by omega) (by omega) dL_law_1068 ?_
  refine mh_top (y := .long ((nI (sewN f (tnQ q) x q)).toInt64)) (rfl) ?_
  refine lv_iload hx hb dL_law_1069 (lv_at hl 0 rfl) ?_
  refine lv_i2l (v := (nI (sewN f (tnQ q) x q)).toInt64) hx hb dL_law_1071 rfl ?_
  refine W.lcmp hx hb dL_law_1072 ?_
  refine ml_if_eq (tgt := 1078) hB dL_law_1073 (by decide) (fun h_1073 => ?_) (fun h => absurd rfl h)
  refine lv_goto (tgt := 1803) hx hb dL_law_1078 (by decide) ?_
  refine W.widen (k := ce7 + 30) (n := sn7 + 1100) (by omega) (by omega) ?_
  exact kk _ _ _ ⟨hC, ⟨_, _, _, _, _, _, _, _, _, _, _, _, _, _, _, _, _, _, _, _, hR⟩, ⟨_, hO⟩, hTx⟩ hS (lv_sub hl [2, 3, 4, 5, 6] rfl)

set_option maxRecDepth 100000 in
set_option maxHeartbeats 800000 in
theorem s_takeApart_t1 {p : Program} {l : Launch} {e : Env} {s : State} {m : MethodId} {args : Array Value} {below : List Frame} {meth : Method} {c : Code} {H : Heap} {locs : List Loc} {ce7 sn7 : Nat} {Q : State → Prop} {g : GG} {b L xb r ob lim : Nat} {xs : Nat → Int32} {i9 : Nat} {ls : Array Slot} {q : Nat → Int32} {n : Nat} {rm sl sv tx : Nat → Int32} {ln : Nat} {zsp : Nat → Int32} {zth : Int32} {zsg : Nat → Int32} {zbg : Nat → Int32} {zwd : Nat → Int32} {zhg : Nat → Int32} {zin : Nat → Int32} {zop : Int32} {zbe : Int32} {zwi : Int32} {zhi : Int32} {zbk : Nat → Int32} {zot : Nat → Int32} {zer : Int32} {zen : Int32} {zpo : Nat → Int32} {zpi : Int32} {zgr : Int32} {zsh : Nat → Int32} {zsn : Int32} {o : Nat → Int64} (hfl : l.stackTraces = false) (hE : LE p s m meth c g b L xs xb r ob lim) (hi : 4 * i9 + 3 < L) (hC : CLS g xb lim q n rm sl sv tx ln H) (hR : ModAt g r q zsp rm (nI n) sl sv tx (nI ln) zth zsg zbg zwd zhg zin zop zbe zwi zhi zbk zot zer zen zpo zpi zgr zsh zsn H) (hO : at_ g H ob (eL g 1 o)) (hTx : TxT tx ln) (hS : va_S (fun q9 => xb ≤ q9) s.heap H locs) (hl : lv_has ls 7 [(0, .ref b), (1, .ref xb), (2, .ref r), (3, .ref ob), (4, .int (nI (4 * i9)))]) (hce7 : ce7 + 30 ≤ 622861) (hsn7 : sn7 + 1100 ≤ 7227521) (x : Int32) (a1 : xs (4 * i9 + 1) = x) (hx1 : isIx x 3 = false) (kk : ∀ (H1 : Heap) (locs1 : List Loc) (ls1 : Array Slot), LI g xb r ob lim q n rm sl sv tx ln H1 → va_S (fun q9 => xb ≤ q9) s.heap H1 locs1 → lv_has ls1 7 [(0, .ref b), (1, .ref xb), (2, .ref r), (3, .ref ob), (4, .int (nI (4 * i9)))] → W p l e room_1 s m args below meth c H1 locs1 (ce7 + 30) (sn7 + 1100) Q (F0 m 1803 ls1 [])) : W p l e room_1 s m args below meth c H locs ce7 sn7 Q (F0 m 1081 ls []) := by
  obtain ⟨hB, hZ9, hX, hbl, hL9, hxs, hr9, hob9, hlm9⟩ := hE
  have hx := hB.x
  have hb := hB.b
  have hbA : ¬ (fun q9 => xb ≤ q9) b := fun y9 => by have y8 : xb ≤ b := y9; omega
  have hW := hC.wf
  have hn14 := hC.n14
  have hl6c := hC.l60
  have hnm5 := hW.2.2.1
  refine lv_aload_n hx hb dL_law_1081 rfl (lv_at hl 1 rfl) ?_
  refine lv_aload_n hx hb dL_law_1082 rfl (lv_at hl 0 rfl) ?_
  refine lv_iload hx hb dL_law_1083 (lv_at hl 4 rfl) ?_
  refine lv_iconst (v := nI 1) hx hb dL_law_1085 (by decide) ?_
  refine mn_iadd hB dL_law_1086 ?_
  refine va_sld hx hb hX hbl hbA hS (vp_in_nI (by omega) (by omega)) dL_law_1087 ?_
  refine mh_top (y := .int x) (by rw [nI_clamp (by omega), a1]) ?_
  refine lv_aload_n hx hb dL_law_1088 rfl (lv_at hl 3 rfl) ?_
  refine cw_153 (As := [.ref xb, .int x, .ref ob]) (rest := []) hB (hZ9.at hS (fun _ h9 => h9)) (w_takeApart_t1 l g H xb lim q n rm sl sv tx ln x ob o (hC) (hO) (hx1) (⟨by omega, by omega⟩) (hfl)) rfl hl.1 (Nat.le_of_ble_eq_true rfl) dL_law_1089 ⟨Nat.le_of_ble_eq_true rfl, Nat.le_of_ble_eq_true rfl⟩ ⟨by show (ce7) + 1 ≤ 622861; omega, by show (sn7) + 6 ≤ 7227521; omega⟩ hS (by have hz9 := hS.1; rintro q9 (h9 | h9) <;> first | exact h9.elim | (have h8 : r ≤ q9 ∧ q9 < r + 16 := h9; show xb ≤ q9; omega) | (have h8 : ((xb ≤ q9 ∧ q9 < xb + 68) ∨ lim ≤ q9) ∨ q9 = ob := h9; show xb ≤ q9; omega) | (have h8 : (xb ≤ q9 ∧ q9 < xb + 68) ∨ lim ≤ q9 := h9; show xb ≤ q9; omega) | (show xb ≤ q9; omega)) (fun v H1 locs hpo hfr hS => ?_)
  obtain ⟨rfl, hC, hO⟩ := hpo
  have hR := hR.keptF hfr (fun q9 h1 h2 y9 => by first | exact y9.elim | (have y8 : ((xb ≤ q9 ∧ q9 < xb + 68) ∨ lim ≤ q9) ∨ q9 = ob := y9; omega) | (have y8 : (xb ≤ q9 ∧ q9 < xb + 68) ∨ lim ≤ q9 := y9; omega))
  generalize H1 = H at hfr hS hR hX hC hO ⊢
  refine W.widen (k := ce7 + 1) (n := sn7 + 6) (by show (ce7) + 1 ≤ ce7 + 1; omega) (by show (sn7) + 6 ≤ sn7 + 6; omega) ?_
  refine lv_istore (lv' := [(5, .int (nI 1)), (0, .ref b), (1, .ref xb), (2, .ref r), (3, .ref ob), (4, .int (nI (4 * i9)))]) hx hb dL_law_1092 hl (by decide) rfl (fun ls hl => ?_)
  refine lv_aload_n hx hb dL_law_1094 rfl (lv_at hl 3 rfl) ?_
  refine lv_aload_n hx hb dL_law_1095 rfl (lv_at hl 1 rfl) ?_
  refine lv_iload hx hb dL_law_1096 (lv_at hl 5 rfl) ?_
  refine lv_iconst (v := nI 1) hx hb dL_law_1098 (by decide) ?_
  refine mn_iadd hB dL_law_1099 ?_
  refine va_sld hx hb hX hbl hbA hS (vp_in_nI (by omega) (by omega)) dL_law_1100 ?_
  refine mh_top (y := .int x) (by rw [nI_clamp (by omega), a1]) ?_
  refine cl_L_155 (As := [.int x]) (rest := []) hB (c_X11_takeApart_t1 l g H r q zsp rm (nI n) sl sv tx (nI ln) zth zsg zbg zwd zhg zin zop zbe zwi zhi zbk zot zer zen zpo zpi zgr zsh zsn x hR (hx1)) hR.o rfl hl.1 (Nat.le_of_ble_eq_true rfl) dL_law_1101 ⟨Nat.le_of_ble_eq_true rfl, Nat.le_of_ble_eq_true rfl⟩ ⟨by show (ce7 + 1) + 0 ≤ 622861; omega, by show (sn7 + 6) + 0 ≤ 7227521; omega⟩ hS (by have hz9 := hS.1; rintro q9 (h9 | h9) <;> first | exact h9.elim | (have h8 : r ≤ q9 ∧ q9 < r + 16 := h9; show xb ≤ q9; omega) | (have h8 : ((xb ≤ q9 ∧ q9 < xb + 68) ∨ lim ≤ q9) ∨ q9 = ob := h9; show xb ≤ q9; omega) | (have h8 : (xb ≤ q9 ∧ q9 < xb + 68) ∨ lim ≤ q9 := h9; show xb ≤ q9; omega) | (show xb ≤ q9; omega)) (fun v H1 locs hpo hfr hS => ?_)
  obtain ⟨rfl, hR⟩ := hpo
  have hC := hC.keptM hfr (fun a9 y9 => by first | exact y9.elim | (have y8 : r ≤ a9 ∧ a9 < r + 16 := y9; omega))
  have hO := Fr.keep hfr hO (fun y9 => by first | exact y9.elim | (have y8 : r ≤ ob ∧ ob < r + 16 := y9; omega) | (have y8 : (xb ≤ ob ∧ ob < xb + 68) ∨ lim ≤ ob := y9; omega))
  generalize H1 = H at hfr hS hX hC hO hR ⊢
  refine W.widen (k := ce7 + 1) (n := sn7 + 6) (by show (ce7 + 1) + 0 ≤ ce7 + 1; omega) (by show (sn7 + 6) + 0 ≤ sn7 + 6; omega) ?_
  refine lv_istore (lv' := [(6, .int (nI 0)), (5, .int (nI 1)), (0, .ref b), (1, .ref xb), (2, .ref r), (3, .ref ob), (4, .int (nI (4 * i9)))]) hx hb dL_law_1104 hl (by decide) rfl (fun ls hl => ?_)
  refine lv_aload_n hx hb dL_law_1106 rfl (lv_at hl 4 rfl) ?_
  refine cl_L_102 (As := []) (rest := []) hB (c_X11_thrown l g H r q zsp rm (nI n) sl sv tx (nI ln) (nI 1) zsg zbg zwd zhg zin zop zbe zwi zhi zbk zot zer zen zpo zpi zgr zsh zsn hR) hR.o rfl hl.1 (Nat.le_of_ble_eq_true rfl) dL_law_1107 ⟨Nat.le_of_ble_eq_true rfl, Nat.le_of_ble_eq_true rfl⟩ ⟨by show (ce7 + 1) + 0 ≤ 622861; omega, by show (sn7 + 6) + 0 ≤ 7227521; omega⟩ hS (by have hz9 := hS.1; rintro q9 (h9 | h9) <;> first | exact h9.elim | (have h8 : r ≤ q9 ∧ q9 < r + 16 := h9; show xb ≤ q9; omega) | (have h8 : ((xb ≤ q9 ∧ q9 < xb + 68) ∨ lim ≤ q9) ∨ q9 = ob := h9; show xb ≤ q9; omega) | (have h8 : (xb ≤ q9 ∧ q9 < xb + 68) ∨ lim ≤ q9 := h9; show xb ≤ q9; omega) | (show xb ≤ q9; omega)) (fun v H1 locs hpo hfr hS => ?_)
  obtain ⟨rfl, rfl⟩ := hpo
  refine W.widen (k := ce7 + 1) (n := sn7 + 6) (by show (ce7 + 1) + 0 ≤ ce7 + 1; omega) (by show (sn7 + 6) + 0 ≤ sn7 + 6; omega) ?_
  refine lv_iload hx hb dL_law_1110 (lv_at hl 1 rfl) ?_
  refine lv_icmp_eq (tgt := 1117) hx hb dL_law_1112 (by decide) (fun h_1112 => ?_) (fun h9 => absurd rfl h9)
  refine lv_iload hx hb dL_law_1117 (lv_at hl 1 rfl) ?_
  refine mn_if_ne (tgt := 1134) hB dL_law_1119 (by decide) (by omega) (fun h_1119 => ?_) (fun h => by exfalso; omega)
  refine lv_goto (tgt := 1803) hx hb dL_law_1134 (by decide) ?_
  refine W.widen (k := ce7 + 30) (n := sn7 + 1100) (by omega) (by omega) ?_
  exact kk _ _ _ ⟨hC, ⟨_, _, _, _, _, _, _, _, _, _, _, _, _, _, _, _, _, _, _, _, hR⟩, ⟨_, hO⟩, hTx⟩ hS (lv_sub hl [2, 3, 4, 5, 6] rfl)

set_option maxRecDepth 100000 in
set_option maxHeartbeats 800000 in
theorem s_takeApart_t2 {p : Program} {l : Launch} {e : Env} {s : State} {m : MethodId} {args : Array Value} {below : List Frame} {meth : Method} {c : Code} {H : Heap} {locs : List Loc} {ce7 sn7 : Nat} {Q : State → Prop} {g : GG} {b L xb r ob lim : Nat} {xs : Nat → Int32} {i9 : Nat} {ls : Array Slot} {q : Nat → Int32} {n : Nat} {rm sl sv tx : Nat → Int32} {ln : Nat} {zsp : Nat → Int32} {zth : Int32} {zsg : Nat → Int32} {zbg : Nat → Int32} {zwd : Nat → Int32} {zhg : Nat → Int32} {zin : Nat → Int32} {zop : Int32} {zbe : Int32} {zwi : Int32} {zhi : Int32} {zbk : Nat → Int32} {zot : Nat → Int32} {zer : Int32} {zen : Int32} {zpo : Nat → Int32} {zpi : Int32} {zgr : Int32} {zsh : Nat → Int32} {zsn : Int32} {o : Nat → Int64} (hfl : l.stackTraces = false) (hE : LE p s m meth c g b L xs xb r ob lim) (hi : 4 * i9 + 3 < L) (hC : CLS g xb lim q n rm sl sv tx ln H) (hR : ModAt g r q zsp rm (nI n) sl sv tx (nI ln) zth zsg zbg zwd zhg zin zop zbe zwi zhi zbk zot zer zen zpo zpi zgr zsh zsn H) (hO : at_ g H ob (eL g 1 o)) (hTx : TxT tx ln) (hS : va_S (fun q9 => xb ≤ q9) s.heap H locs) (hl : lv_has ls 7 [(0, .ref b), (1, .ref xb), (2, .ref r), (3, .ref ob), (4, .int (nI (4 * i9)))]) (hce7 : ce7 + 30 ≤ 622861) (hsn7 : sn7 + 1100 ≤ 7227521) (f : Nat) (a1 : xs (4 * i9 + 1) = nI f) (hf : f < 3) (hs0 : szF q f = 0) (kk : ∀ (H1 : Heap) (locs1 : List Loc) (ls1 : Array Slot), LI g xb r ob lim q n rm sl sv tx ln H1 → va_S (fun q9 => xb ≤ q9) s.heap H1 locs1 → lv_has ls1 7 [(0, .ref b), (1, .ref xb), (2, .ref r), (3, .ref ob), (4, .int (nI (4 * i9)))] → W p l e room_1 s m args below meth c H1 locs1 (ce7 + 30) (sn7 + 1100) Q (F0 m 1803 ls1 [])) : W p l e room_1 s m args below meth c H locs ce7 sn7 Q (F0 m 1081 ls []) := by
  obtain ⟨hB, hZ9, hX, hbl, hL9, hxs, hr9, hob9, hlm9⟩ := hE
  have hx := hB.x
  have hb := hB.b
  have hbA : ¬ (fun q9 => xb ≤ q9) b := fun y9 => by have y8 : xb ≤ b := y9; omega
  have hW := hC.wf
  have hn14 := hC.n14
  have hl6c := hC.l60
  have hnm5 := hW.2.2.1
  refine lv_aload_n hx hb dL_law_1081 rfl (lv_at hl 1 rfl) ?_
  refine lv_aload_n hx hb dL_law_1082 rfl (lv_at hl 0 rfl) ?_
  refine lv_iload hx hb dL_law_1083 (lv_at hl 4 rfl) ?_
  refine lv_iconst (v := nI 1) hx hb dL_law_1085 (by decide) ?_
  refine mn_iadd hB dL_law_1086 ?_
  refine va_sld hx hb hX hbl hbA hS (vp_in_nI (by omega) (by omega)) dL_law_1087 ?_
  refine mh_top (y := .int (nI f)) (by rw [nI_clamp (by omega), a1]) ?_
  refine lv_aload_n hx hb dL_law_1088 rfl (lv_at hl 3 rfl) ?_
  refine cw_153 (As := [.ref xb, .int (nI f), .ref ob]) (rest := []) hB (hZ9.at hS (fun _ h9 => h9)) (w_takeApart_t2 l g H xb lim q n rm sl sv tx ln f ob o (hC) (hO) (hf) (hs0) (⟨by omega, by omega⟩) (hfl)) rfl hl.1 (Nat.le_of_ble_eq_true rfl) dL_law_1089 ⟨Nat.le_of_ble_eq_true rfl, Nat.le_of_ble_eq_true rfl⟩ ⟨by show (ce7) + 1 ≤ 622861; omega, by show (sn7) + 6 ≤ 7227521; omega⟩ hS (by have hz9 := hS.1; rintro q9 (h9 | h9) <;> first | exact h9.elim | (have h8 : r ≤ q9 ∧ q9 < r + 16 := h9; show xb ≤ q9; omega) | (have h8 : ((xb ≤ q9 ∧ q9 < xb + 68) ∨ lim ≤ q9) ∨ q9 = ob := h9; show xb ≤ q9; omega) | (have h8 : (xb ≤ q9 ∧ q9 < xb + 68) ∨ lim ≤ q9 := h9; show xb ≤ q9; omega) | (show xb ≤ q9; omega)) (fun v H1 locs hpo hfr hS => ?_)
  obtain ⟨rfl, hC, hO⟩ := hpo
  have hR := hR.keptF hfr (fun q9 h1 h2 y9 => by first | exact y9.elim | (have y8 : ((xb ≤ q9 ∧ q9 < xb + 68) ∨ lim ≤ q9) ∨ q9 = ob := y9; omega) | (have y8 : (xb ≤ q9 ∧ q9 < xb + 68) ∨ lim ≤ q9 := y9; omega))
  generalize H1 = H at hfr hS hR hX hC hO ⊢
  refine W.widen (k := ce7 + 1) (n := sn7 + 6) (by show (ce7) + 1 ≤ ce7 + 1; omega) (by show (sn7) + 6 ≤ sn7 + 6; omega) ?_
  refine lv_istore (lv' := [(5, .int (nI 2)), (0, .ref b), (1, .ref xb), (2, .ref r), (3, .ref ob), (4, .int (nI (4 * i9)))]) hx hb dL_law_1092 hl (by decide) rfl (fun ls hl => ?_)
  refine lv_aload_n hx hb dL_law_1094 rfl (lv_at hl 3 rfl) ?_
  refine lv_aload_n hx hb dL_law_1095 rfl (lv_at hl 1 rfl) ?_
  refine lv_iload hx hb dL_law_1096 (lv_at hl 5 rfl) ?_
  refine lv_iconst (v := nI 1) hx hb dL_law_1098 (by decide) ?_
  refine mn_iadd hB dL_law_1099 ?_
  refine va_sld hx hb hX hbl hbA hS (vp_in_nI (by omega) (by omega)) dL_law_1100 ?_
  refine mh_top (y := .int (nI f)) (by rw [nI_clamp (by omega), a1]) ?_
  refine cl_L_155 (As := [.int (nI f)]) (rest := []) hB (c_X11_takeApart_t2 l g H r q zsp rm (nI n) sl sv tx (nI ln) zth zsg zbg zwd zhg zin zop zbe zwi zhi zbk zot zer zen zpo zpi zgr zsh zsn f hR (by first | assumption | omega) (hf) (hs0)) hR.o rfl hl.1 (Nat.le_of_ble_eq_true rfl) dL_law_1101 ⟨Nat.le_of_ble_eq_true rfl, Nat.le_of_ble_eq_true rfl⟩ ⟨by show (ce7 + 1) + 0 ≤ 622861; omega, by show (sn7 + 6) + 0 ≤ 7227521; omega⟩ hS (by have hz9 := hS.1; rintro q9 (h9 | h9) <;> first | exact h9.elim | (have h8 : r ≤ q9 ∧ q9 < r + 16 := h9; show xb ≤ q9; omega) | (have h8 : ((xb ≤ q9 ∧ q9 < xb + 68) ∨ lim ≤ q9) ∨ q9 = ob := h9; show xb ≤ q9; omega) | (have h8 : (xb ≤ q9 ∧ q9 < xb + 68) ∨ lim ≤ q9 := h9; show xb ≤ q9; omega) | (show xb ≤ q9; omega)) (fun v H1 locs hpo hfr hS => ?_)
  obtain ⟨rfl, hR⟩ := hpo
  have hC := hC.keptM hfr (fun a9 y9 => by first | exact y9.elim | (have y8 : r ≤ a9 ∧ a9 < r + 16 := y9; omega))
  have hO := Fr.keep hfr hO (fun y9 => by first | exact y9.elim | (have y8 : r ≤ ob ∧ ob < r + 16 := y9; omega) | (have y8 : (xb ≤ ob ∧ ob < xb + 68) ∨ lim ≤ ob := y9; omega))
  generalize H1 = H at hfr hS hX hC hO hR ⊢
  refine W.widen (k := ce7 + 1) (n := sn7 + 6) (by show (ce7 + 1) + 0 ≤ ce7 + 1; omega) (by show (sn7 + 6) + 0 ≤ sn7 + 6; omega) ?_
  refine lv_istore (lv' := [(6, .int (nI 0)), (5, .int (nI 2)), (0, .ref b), (1, .ref xb), (2, .ref r), (3, .ref ob), (4, .int (nI (4 * i9)))]) hx hb dL_law_1104 hl (by decide) rfl (fun ls hl => ?_)
  refine lv_aload_n hx hb dL_law_1106 rfl (lv_at hl 4 rfl) ?_
  refine cl_L_102 (As := []) (rest := []) hB (c_X11_thrown l g H r q zsp rm (nI n) sl sv tx (nI ln) (nI 2) zsg zbg zwd zhg zin zop zbe zwi zhi zbk zot zer zen zpo zpi zgr zsh zsn hR) hR.o rfl hl.1 (Nat.le_of_ble_eq_true rfl) dL_law_1107 ⟨Nat.le_of_ble_eq_true rfl, Nat.le_of_ble_eq_true rfl⟩ ⟨by show (ce7 + 1) + 0 ≤ 622861; omega, by show (sn7 + 6) + 0 ≤ 7227521; omega⟩ hS (by have hz9 := hS.1; rintro q9 (h9 | h9) <;> first | exact h9.elim | (have h8 : r ≤ q9 ∧ q9 < r + 16 := h9; show xb ≤ q9; omega) | (have h8 : ((xb ≤ q9 ∧ q9 < xb + 68) ∨ lim ≤ q9) ∨ q9 = ob := h9; show xb ≤ q9; omega) | (have h8 : (xb ≤ q9 ∧ q9 < xb + 68) ∨ lim ≤ q9 := h9; show xb ≤ q9; omega) | (show xb ≤ q9; omega)) (fun v H1 locs hpo hfr hS => ?_)
  obtain ⟨rfl, rfl⟩ := hpo
  refine W.widen (k := ce7 + 1) (n := sn7 + 6) (by show (ce7 + 1) + 0 ≤ ce7 + 1; omega) (by show (sn7 + 6) + 0 ≤ sn7 + 6; omega) ?_
  refine lv_iload hx hb dL_law_1110 (lv_at hl 1 rfl) ?_
  refine lv_icmp_eq (tgt := 1117) hx hb dL_law_1112 (by decide) (fun h_1112 => ?_) (fun h9 => absurd rfl h9)
  refine lv_iload hx hb dL_law_1117 (lv_at hl 1 rfl) ?_
  refine mn_if_ne (tgt := 1134) hB dL_law_1119 (by decide) (by omega) (fun h_1119 => ?_) (fun h => by exfalso; omega)
  refine lv_goto (tgt := 1803) hx hb dL_law_1134 (by decide) ?_
  refine W.widen (k := ce7 + 30) (n := sn7 + 1100) (by omega) (by omega) ?_
  exact kk _ _ _ ⟨hC, ⟨_, _, _, _, _, _, _, _, _, _, _, _, _, _, _, _, _, _, _, _, hR⟩, ⟨_, hO⟩, hTx⟩ hS (lv_sub hl [2, 3, 4, 5, 6] rfl)

set_option maxRecDepth 100000 in
set_option maxHeartbeats 800000 in
theorem s_takeApart_ok {p : Program} {l : Launch} {e : Env} {s : State} {m : MethodId} {args : Array Value} {below : List Frame} {meth : Method} {c : Code} {H : Heap} {locs : List Loc} {ce7 sn7 : Nat} {Q : State → Prop} {g : GG} {b L xb r ob lim : Nat} {xs : Nat → Int32} {i9 : Nat} {ls : Array Slot} {q : Nat → Int32} {n : Nat} {rm sl sv tx : Nat → Int32} {ln : Nat} {zsp : Nat → Int32} {zth : Int32} {zsg : Nat → Int32} {zbg : Nat → Int32} {zwd : Nat → Int32} {zhg : Nat → Int32} {zin : Nat → Int32} {zop : Int32} {zbe : Int32} {zwi : Int32} {zhi : Int32} {zbk : Nat → Int32} {zot : Nat → Int32} {zer : Int32} {zen : Int32} {zpo : Nat → Int32} {zpi : Int32} {zgr : Int32} {zsh : Nat → Int32} {zsn : Int32} {o : Nat → Int64} (hfl : l.stackTraces = false) (hE : LE p s m meth c g b L xs xb r ob lim) (hi : 4 * i9 + 3 < L) (hC : CLS g xb lim q n rm sl sv tx ln H) (hR : ModAt g r q zsp rm (nI n) sl sv tx (nI ln) zth zsg zbg zwd zhg zin zop zbe zwi zhi zbk zot zer zen zpo zpi zgr zsh zsn H) (hO : at_ g H ob (eL g 1 o)) (hTx : TxT tx ln) (hS : va_S (fun q9 => xb ≤ q9) s.heap H locs) (hl : lv_has ls 7 [(0, .ref b), (1, .ref xb), (2, .ref r), (3, .ref ob), (4, .int (nI (4 * i9)))]) (hce7 : ce7 + 30 ≤ 622861) (hsn7 : sn7 + 1100 ≤ 7227521) (f : Nat) (a1 : xs (4 * i9 + 1) = nI f) (hf : f < 3) (hs0 : 0 < szF q f) (kk : ∀ (H1 : Heap) (locs1 : List Loc) (ls1 : Array Slot), LI g xb r ob lim (tapQ q f) (nxtS n) (remA rm n q) sl sv tx ln H1 → va_S (fun q9 => xb ≤ q9) s.heap H1 locs1 → lv_has ls1 7 [(0, .ref b), (1, .ref xb), (2, .ref r), (3, .ref ob), (4, .int (nI (4 * i9)))] → W p l e room_1 s m args below meth c H1 locs1 (ce7 + 30) (sn7 + 1100) Q (F0 m 1803 ls1 [])) : W p l e room_1 s m args below meth c H locs ce7 sn7 Q (F0 m 1081 ls []) := by
  obtain ⟨hB, hZ9, hX, hbl, hL9, hxs, hr9, hob9, hlm9⟩ := hE
  have hx := hB.x
  have hb := hB.b
  have hbA : ¬ (fun q9 => xb ≤ q9) b := fun y9 => by have y8 : xb ≤ b := y9; omega
  have hW := hC.wf
  have hn14 := hC.n14
  have hl6c := hC.l60
  have hnm5 := hW.2.2.1
  refine lv_aload_n hx hb dL_law_1081 rfl (lv_at hl 1 rfl) ?_
  refine lv_aload_n hx hb dL_law_1082 rfl (lv_at hl 0 rfl) ?_
  refine lv_iload hx hb dL_law_1083 (lv_at hl 4 rfl) ?_
  refine lv_iconst (v := nI 1) hx hb dL_law_1085 (by decide) ?_
  refine mn_iadd hB dL_law_1086 ?_
  refine va_sld hx hb hX hbl hbA hS (vp_in_nI (by omega) (by omega)) dL_law_1087 ?_
  refine mh_top (y := .int (nI f)) (by rw [nI_clamp (by omega), a1]) ?_
  refine lv_aload_n hx hb dL_law_1088 rfl (lv_at hl 3 rfl) ?_
  refine cw_153 (As := [.ref xb, .int (nI f), .ref ob]) (rest := []) hB (hZ9.at hS (fun _ h9 => h9)) (w_takeApart_ok l g H xb lim q n rm sl sv tx ln f ob o (hC) (hO) (hf) (hs0) (⟨by omega, by omega⟩) (hfl)) rfl hl.1 (Nat.le_of_ble_eq_true rfl) dL_law_1089 ⟨Nat.le_of_ble_eq_true rfl, Nat.le_of_ble_eq_true rfl⟩ ⟨by show (ce7) + 26 ≤ 622861; omega, by show (sn7) + 126 ≤ 7227521; omega⟩ hS (by have hz9 := hS.1; rintro q9 (h9 | h9) <;> first | exact h9.elim | (have h8 : r ≤ q9 ∧ q9 < r + 16 := h9; show xb ≤ q9; omega) | (have h8 : ((xb ≤ q9 ∧ q9 < xb + 68) ∨ lim ≤ q9) ∨ q9 = ob := h9; show xb ≤ q9; omega) | (have h8 : (xb ≤ q9 ∧ q9 < xb + 68) ∨ lim ≤ q9 := h9; show xb ≤ q9; omega) | (show xb ≤ q9; omega)) (fun v H1 locs hpo hfr hS => ?_)
  obtain ⟨rfl, hC, hO⟩ := hpo
  have hR := hR.keptF hfr (fun q9 h1 h2 y9 => by first | exact y9.elim | (have y8 : ((xb ≤ q9 ∧ q9 < xb + 68) ∨ lim ≤ q9) ∨ q9 = ob := y9; omega) | (have y8 : (xb ≤ q9 ∧ q9 < xb + 68) ∨ lim ≤ q9 := y9; omega))
  generalize H1 = H at hfr hS hR hX hC hO ⊢
  refine W.widen (k := ce7 + 26) (n := sn7 + 126) (by show (ce7) + 26 ≤ ce7 + 26; omega) (by show (sn7) + 126 ≤ sn7 + 126; omega) ?_
  refine lv_istore (lv' := [(5, .int (nI 0)), (0, .ref b), (1, .ref xb), (2, .ref r), (3, .ref ob), (4, .int (nI (4 * i9)))]) hx hb dL_law_1092 hl (by decide) rfl (fun ls hl => ?_)
  refine lv_aload_n hx hb dL_law_1094 rfl (lv_at hl 3 rfl) ?_
  refine lv_aload_n hx hb dL_law_1095 rfl (lv_at hl 1 rfl) ?_
  refine lv_iload hx hb dL_law_1096 (lv_at hl 5 rfl) ?_
  refine lv_iconst (v := nI 1) hx hb dL_law_1098 (by decide) ?_
  refine mn_iadd hB dL_law_1099 ?_
  refine va_sld hx hb hX hbl hbA hS (vp_in_nI (by omega) (by omega)) dL_law_1100 ?_
  refine mh_top (y := .int (nI f)) (by rw [nI_clamp (by omega), a1]) ?_
  refine cl_L_155 (As := [.int (nI f)]) (rest := []) hB (c_X11_takeApart l g H r q zsp rm sl sv tx (nI ln) zth zsg zbg zwd zhg zin zop zbe zwi zhi zbk zot zer zen zpo zpi zgr zsh zsn n f hR (by first | assumption | omega) (by first | assumption | omega) (hf) (hs0)) hR.o rfl hl.1 (Nat.le_of_ble_eq_true rfl) dL_law_1101 ⟨Nat.le_of_ble_eq_true rfl, Nat.le_of_ble_eq_true rfl⟩ ⟨by show (ce7 + 26) + 0 ≤ 622861; omega, by show (sn7 + 126) + 0 ≤ 7227521; omega⟩ hS (by have hz9 := hS.1; rintro q9 (h9 | h9) <;> first | exact h9.elim | (have h8 : r ≤ q9 ∧ q9 < r + 16 := h9; show xb ≤ q9; omega) | (have h8 : ((xb ≤ q9 ∧ q9 < xb + 68) ∨ lim ≤ q9) ∨ q9 = ob := h9; show xb ≤ q9; omega) | (have h8 : (xb ≤ q9 ∧ q9 < xb + 68) ∨ lim ≤ q9 := h9; show xb ≤ q9; omega) | (show xb ≤ q9; omega)) (fun v H1 locs hpo hfr hS => ?_)
  obtain ⟨rfl, hR⟩ := hpo
  have hC := hC.keptM hfr (fun a9 y9 => by first | exact y9.elim | (have y8 : r ≤ a9 ∧ a9 < r + 16 := y9; omega))
  have hO := Fr.keep hfr hO (fun y9 => by first | exact y9.elim | (have y8 : r ≤ ob ∧ ob < r + 16 := y9; omega) | (have y8 : (xb ≤ ob ∧ ob < xb + 68) ∨ lim ≤ ob := y9; omega))
  generalize H1 = H at hfr hS hX hC hO hR ⊢
  refine W.widen (k := ce7 + 26) (n := sn7 + 126) (by show (ce7 + 26) + 0 ≤ ce7 + 26; omega) (by show (sn7 + 126) + 0 ≤ sn7 + 126; omega) ?_
  refine lv_istore (lv' := [(6, .int (nI (swF q f))), (5, .int (nI 0)), (0, .ref b), (1, .ref xb), (2, .ref r), (3, .ref ob), (4, .int (nI (4 * i9)))]) hx hb dL_law_1104 hl (by decide) rfl (fun ls hl => ?_)
  refine lv_aload_n hx hb dL_law_1106 rfl (lv_at hl 4 rfl) ?_
  refine cl_L_102 (As := []) (rest := []) hB (c_X11_thrown l g H r (tapQ q f) zsp (remA rm n q) (nI (nxtS n)) sl sv tx (nI ln) (nI 0) zsg zbg zwd zhg zin zop zbe zwi zhi zbk zot zer zen zpo zpi zgr zsh zsn hR) hR.o rfl hl.1 (Nat.le_of_ble_eq_true rfl) dL_law_1107 ⟨Nat.le_of_ble_eq_true rfl, Nat.le_of_ble_eq_true rfl⟩ ⟨by show (ce7 + 26) + 0 ≤ 622861; omega, by show (sn7 + 126) + 0 ≤ 7227521; omega⟩ hS (by have hz9 := hS.1; rintro q9 (h9 | h9) <;> first | exact h9.elim | (have h8 : r ≤ q9 ∧ q9 < r + 16 := h9; show xb ≤ q9; omega) | (have h8 : ((xb ≤ q9 ∧ q9 < xb + 68) ∨ lim ≤ q9) ∨ q9 = ob := h9; show xb ≤ q9; omega) | (have h8 : (xb ≤ q9 ∧ q9 < xb + 68) ∨ lim ≤ q9 := h9; show xb ≤ q9; omega) | (show xb ≤ q9; omega)) (fun v H1 locs hpo hfr hS => ?_)
  obtain ⟨rfl, rfl⟩ := hpo
  refine W.widen (k := ce7 + 26) (n := sn7 + 126) (by show (ce7 + 26) + 0 ≤ ce7 + 26; omega) (by show (sn7 + 126) + 0 ≤ sn7 + 126; omega) ?_
  refine lv_iload hx hb dL_law_1110 (lv_at hl 1 rfl) ?_
  refine lv_icmp_eq (tgt := 1117) hx hb dL_law_1112 (by decide) (fun h_1112 => ?_) (fun h9 => absurd rfl h9)
  refine lv_iload hx hb dL_law_1117 (lv_at hl 1 rfl) ?_
  refine mn_if_ne (tgt := 1134) hB dL_law_1119 (by decide) (by omega) (fun h => by exfalso; omega) (fun h_1119 => ?_)
  refine lv_aload_n hx hb dL_law_1122 rfl (lv_at hl 5 rfl) ?_
  refine lv_iconst (v := nI 0) hx hb dL_law_1123 (by decide) ?_
  refine mn_lald hB hO (by omega) (by omega) dL_law_1124 ?_
  refine mh_top (y := .long ((nI (swF q f)).toInt64)) (rfl) ?_
  refine lv_iload hx hb dL_law_1125 (lv_at hl 0 rfl) ?_
  refine lv_i2l (v := (nI (swF q f)).toInt64) hx hb dL_law_1127 rfl ?_
  refine W.lcmp hx hb dL_law_1128 ?_
  refine ml_if_eq (tgt := 1134) hB dL_law_1129 (by decide) (fun h_1129 => ?_) (fun h => absurd rfl h)
  refine lv_goto (tgt := 1803) hx hb dL_law_1134 (by decide) ?_
  refine W.widen (k := ce7 + 30) (n := sn7 + 1100) (by omega) (by omega) ?_
  exact kk _ _ _ ⟨hC, ⟨_, _, _, _, _, _, _, _, _, _, _, _, _, _, _, _, _, _, _, _, hR⟩, ⟨_, hO⟩, hTx⟩ hS (lv_sub hl [2, 3, 4, 5, 6] rfl)

set_option maxRecDepth 100000 in
set_option maxHeartbeats 800000 in
theorem s_raffle_t1 {p : Program} {l : Launch} {e : Env} {s : State} {m : MethodId} {args : Array Value} {below : List Frame} {meth : Method} {c : Code} {H : Heap} {locs : List Loc} {ce7 sn7 : Nat} {Q : State → Prop} {g : GG} {b L xb r ob lim : Nat} {xs : Nat → Int32} {i9 : Nat} {ls : Array Slot} {q : Nat → Int32} {n : Nat} {rm sl sv tx : Nat → Int32} {ln : Nat} {zsp : Nat → Int32} {zth : Int32} {zsg : Nat → Int32} {zbg : Nat → Int32} {zwd : Nat → Int32} {zhg : Nat → Int32} {zin : Nat → Int32} {zop : Int32} {zbe : Int32} {zwi : Int32} {zhi : Int32} {zbk : Nat → Int32} {zot : Nat → Int32} {zer : Int32} {zen : Int32} {zpo : Nat → Int32} {zpi : Int32} {zgr : Int32} {zsh : Nat → Int32} {zsn : Int32} {o : Nat → Int64} (hfl : l.stackTraces = false) (hE : LE p s m meth c g b L xs xb r ob lim) (hi : 4 * i9 + 3 < L) (hC : CLS g xb lim q n rm sl sv tx ln H) (hR : ModAt g r q zsp rm (nI n) sl sv tx (nI ln) zth zsg zbg zwd zhg zin zop zbe zwi zhi zbk zot zer zen zpo zpi zgr zsh zsn H) (hO : at_ g H ob (eL g 1 o)) (hTx : TxT tx ln) (hS : va_S (fun q9 => xb ≤ q9) s.heap H locs) (hl : lv_has ls 7 [(0, .ref b), (1, .ref xb), (2, .ref r), (3, .ref ob), (4, .int (nI (4 * i9)))]) (hce7 : ce7 + 30 ≤ 622861) (hsn7 : sn7 + 1100 ≤ 7227521) (x : Int32) (y : Int32) (a1 : xs (4 * i9 + 1) = x) (a2 : xs (4 * i9 + 2) = y) (hx1 : isIx x 3 = false) (kk : ∀ (H1 : Heap) (locs1 : List Loc) (ls1 : Array Slot), LI g xb r ob lim q n rm sl sv tx ln H1 → va_S (fun q9 => xb ≤ q9) s.heap H1 locs1 → lv_has ls1 7 [(0, .ref b), (1, .ref xb), (2, .ref r), (3, .ref ob), (4, .int (nI (4 * i9)))] → W p l e room_1 s m args below meth c H1 locs1 (ce7 + 30) (sn7 + 1100) Q (F0 m 1803 ls1 [])) : W p l e room_1 s m args below meth c H locs ce7 sn7 Q (F0 m 1137 ls []) := by
  obtain ⟨hB, hZ9, hX, hbl, hL9, hxs, hr9, hob9, hlm9⟩ := hE
  have hx := hB.x
  have hb := hB.b
  have hbA : ¬ (fun q9 => xb ≤ q9) b := fun y9 => by have y8 : xb ≤ b := y9; omega
  have hW := hC.wf
  have hn14 := hC.n14
  have hl6c := hC.l60
  have hnm5 := hW.2.2.1
  refine lv_aload_n hx hb dL_law_1137 rfl (lv_at hl 1 rfl) ?_
  refine lv_aload_n hx hb dL_law_1138 rfl (lv_at hl 0 rfl) ?_
  refine lv_iload hx hb dL_law_1139 (lv_at hl 4 rfl) ?_
  refine lv_iconst (v := nI 1) hx hb dL_law_1141 (by decide) ?_
  refine mn_iadd hB dL_law_1142 ?_
  refine va_sld hx hb hX hbl hbA hS (vp_in_nI (by omega) (by omega)) dL_law_1143 ?_
  refine mh_top (y := .int x) (by rw [nI_clamp (by omega), a1]) ?_
  refine lv_aload_n hx hb dL_law_1144 rfl (lv_at hl 0 rfl) ?_
  refine lv_iload hx hb dL_law_1145 (lv_at hl 4 rfl) ?_
  refine lv_iconst (v := nI 2) hx hb dL_law_1147 (by decide) ?_
  refine mn_iadd hB dL_law_1148 ?_
  refine va_sld hx hb hX hbl hbA hS (vp_in_nI (by omega) (by omega)) dL_law_1149 ?_
  refine mh_top (y := .int y) (by rw [nI_clamp (by omega), a2]) ?_
  refine lv_aload_n hx hb dL_law_1150 rfl (lv_at hl 3 rfl) ?_
  refine cw_156 (As := [.ref xb, .int x, .int y, .ref ob]) (rest := []) hB (hZ9.at hS (fun _ h9 => h9)) (w_raffle_t1 l g H xb lim q n rm sl sv tx ln x y ob o (hC) (hO) (hx1) (⟨by omega, by omega⟩) (hfl)) rfl hl.1 (Nat.le_of_ble_eq_true rfl) dL_law_1151 ⟨Nat.le_of_ble_eq_true rfl, Nat.le_of_ble_eq_true rfl⟩ ⟨by show (ce7) + 1 ≤ 622861; omega, by show (sn7) + 6 ≤ 7227521; omega⟩ hS (by have hz9 := hS.1; rintro q9 (h9 | h9) <;> first | exact h9.elim | (have h8 : r ≤ q9 ∧ q9 < r + 16 := h9; show xb ≤ q9; omega) | (have h8 : ((xb ≤ q9 ∧ q9 < xb + 68) ∨ lim ≤ q9) ∨ q9 = ob := h9; show xb ≤ q9; omega) | (have h8 : (xb ≤ q9 ∧ q9 < xb + 68) ∨ lim ≤ q9 := h9; show xb ≤ q9; omega) | (show xb ≤ q9; omega)) (fun v H1 locs hpo hfr hS => ?_)
  obtain ⟨rfl, hC, hO⟩ := hpo
  have hR := hR.keptF hfr (fun q9 h1 h2 y9 => by first | exact y9.elim | (have y8 : ((xb ≤ q9 ∧ q9 < xb + 68) ∨ lim ≤ q9) ∨ q9 = ob := y9; omega) | (have y8 : (xb ≤ q9 ∧ q9 < xb + 68) ∨ lim ≤ q9 := y9; omega))
  generalize H1 = H at hfr hS hR hX hC hO ⊢
  refine W.widen (k := ce7 + 1) (n := sn7 + 6) (by show (ce7) + 1 ≤ ce7 + 1; omega) (by show (sn7) + 6 ≤ sn7 + 6; omega) ?_
  refine lv_istore (lv' := [(5, .int (nI 1)), (0, .ref b), (1, .ref xb), (2, .ref r), (3, .ref ob), (4, .int (nI (4 * i9)))]) hx hb dL_law_1154 hl (by decide) rfl (fun ls hl => ?_)
  refine lv_aload_n hx hb dL_law_1156 rfl (lv_at hl 3 rfl) ?_
  refine lv_aload_n hx hb dL_law_1157 rfl (lv_at hl 1 rfl) ?_
  refine lv_iload hx hb dL_law_1158 (lv_at hl 5 rfl) ?_
  refine lv_iconst (v := nI 1) hx hb dL_law_1160 (by decide) ?_
  refine mn_iadd hB dL_law_1161 ?_
  refine va_sld hx hb hX hbl hbA hS (vp_in_nI (by omega) (by omega)) dL_law_1162 ?_
  refine mh_top (y := .int x) (by rw [nI_clamp (by omega), a1]) ?_
  refine lv_aload_n hx hb dL_law_1163 rfl (lv_at hl 1 rfl) ?_
  refine lv_iload hx hb dL_law_1164 (lv_at hl 5 rfl) ?_
  refine lv_iconst (v := nI 2) hx hb dL_law_1166 (by decide) ?_
  refine mn_iadd hB dL_law_1167 ?_
  refine va_sld hx hb hX hbl hbA hS (vp_in_nI (by omega) (by omega)) dL_law_1168 ?_
  refine mh_top (y := .int y) (by rw [nI_clamp (by omega), a2]) ?_
  refine cl_L_158 (As := [.int x, .int y]) (rest := []) hB (c_X11_raffle_t1 l g H r q zsp rm (nI n) sl sv tx (nI ln) zth zsg zbg zwd zhg zin zop zbe zwi zhi zbk zot zer zen zpo zpi zgr zsh zsn x y hR (hx1)) hR.o rfl hl.1 (Nat.le_of_ble_eq_true rfl) dL_law_1169 ⟨Nat.le_of_ble_eq_true rfl, Nat.le_of_ble_eq_true rfl⟩ ⟨by show (ce7 + 1) + 0 ≤ 622861; omega, by show (sn7 + 6) + 0 ≤ 7227521; omega⟩ hS (by have hz9 := hS.1; rintro q9 (h9 | h9) <;> first | exact h9.elim | (have h8 : r ≤ q9 ∧ q9 < r + 16 := h9; show xb ≤ q9; omega) | (have h8 : ((xb ≤ q9 ∧ q9 < xb + 68) ∨ lim ≤ q9) ∨ q9 = ob := h9; show xb ≤ q9; omega) | (have h8 : (xb ≤ q9 ∧ q9 < xb + 68) ∨ lim ≤ q9 := h9; show xb ≤ q9; omega) | (show xb ≤ q9; omega)) (fun v H1 locs hpo hfr hS => ?_)
  obtain ⟨rfl, hR⟩ := hpo
  have hC := hC.keptM hfr (fun a9 y9 => by first | exact y9.elim | (have y8 : r ≤ a9 ∧ a9 < r + 16 := y9; omega))
  have hO := Fr.keep hfr hO (fun y9 => by first | exact y9.elim | (have y8 : r ≤ ob ∧ ob < r + 16 := y9; omega) | (have y8 : (xb ≤ ob ∧ ob < xb + 68) ∨ lim ≤ ob := y9; omega))
  generalize H1 = H at hfr hS hX hC hO hR ⊢
  refine W.widen (k := ce7 + 1) (n := sn7 + 6) (by show (ce7 + 1) + 0 ≤ ce7 + 1; omega) (by show (sn7 + 6) + 0 ≤ sn7 + 6; omega) ?_
  refine lv_istore (lv' := [(6, .int (nI 0)), (5, .int (nI 1)), (0, .ref b), (1, .ref xb), (2, .ref r), (3, .ref ob), (4, .int (nI (4 * i9)))]) hx hb dL_law_1172 hl (by decide) rfl (fun ls hl => ?_)
  refine lv_aload_n hx hb dL_law_1174 rfl (lv_at hl 4 rfl) ?_
  refine cl_L_102 (As := []) (rest := []) hB (c_X11_thrown l g H r q zsp rm (nI n) sl sv tx (nI ln) (nI 1) zsg zbg zwd zhg zin zop zbe zwi zhi zbk zot zer zen zpo zpi zgr zsh zsn hR) hR.o rfl hl.1 (Nat.le_of_ble_eq_true rfl) dL_law_1175 ⟨Nat.le_of_ble_eq_true rfl, Nat.le_of_ble_eq_true rfl⟩ ⟨by show (ce7 + 1) + 0 ≤ 622861; omega, by show (sn7 + 6) + 0 ≤ 7227521; omega⟩ hS (by have hz9 := hS.1; rintro q9 (h9 | h9) <;> first | exact h9.elim | (have h8 : r ≤ q9 ∧ q9 < r + 16 := h9; show xb ≤ q9; omega) | (have h8 : ((xb ≤ q9 ∧ q9 < xb + 68) ∨ lim ≤ q9) ∨ q9 = ob := h9; show xb ≤ q9; omega) | (have h8 : (xb ≤ q9 ∧ q9 < xb + 68) ∨ lim ≤ q9 := h9; show xb ≤ q9; omega) | (show xb ≤ q9; omega)) (fun v H1 locs hpo hfr hS => ?_)
  obtain ⟨rfl, rfl⟩ := hpo
  refine W.widen (k := ce7 + 1) (n := sn7 + 6) (by show (ce7 + 1) + 0 ≤ ce7 + 1; omega) (by show (sn7 + 6) + 0 ≤ sn7 + 6; omega) ?_
  refine lv_iload hx hb dL_law_1178 (lv_at hl 1 rfl) ?_
  refine lv_icmp_eq (tgt := 1185) hx hb dL_law_1180 (by decide) (fun h_1180 => ?_) (fun h9 => absurd rfl h9)
  refine lv_iload hx hb dL_law_1185 (lv_at hl 1 rfl) ?_
  refine mn_if_ne (tgt := 1202) hB dL_law_1187 (by decide) (by omega) (fun h_1187 => ?_) (fun h => by exfalso; omega)
  refine lv_goto (tgt := 1803) hx hb dL_law_1202 (by decide) ?_
  refine W.widen (k := ce7 + 30) (n := sn7 + 1100) (by omega) (by omega) ?_
  exact kk _ _ _ ⟨hC, ⟨_, _, _, _, _, _, _, _, _, _, _, _, _, _, _, _, _, _, _, _, hR⟩, ⟨_, hO⟩, hTx⟩ hS (lv_sub hl [2, 3, 4, 5, 6] rfl)

set_option maxRecDepth 100000 in
set_option maxHeartbeats 800000 in
theorem s_raffle_t2 {p : Program} {l : Launch} {e : Env} {s : State} {m : MethodId} {args : Array Value} {below : List Frame} {meth : Method} {c : Code} {H : Heap} {locs : List Loc} {ce7 sn7 : Nat} {Q : State → Prop} {g : GG} {b L xb r ob lim : Nat} {xs : Nat → Int32} {i9 : Nat} {ls : Array Slot} {q : Nat → Int32} {n : Nat} {rm sl sv tx : Nat → Int32} {ln : Nat} {zsp : Nat → Int32} {zth : Int32} {zsg : Nat → Int32} {zbg : Nat → Int32} {zwd : Nat → Int32} {zhg : Nat → Int32} {zin : Nat → Int32} {zop : Int32} {zbe : Int32} {zwi : Int32} {zhi : Int32} {zbk : Nat → Int32} {zot : Nat → Int32} {zer : Int32} {zen : Int32} {zpo : Nat → Int32} {zpi : Int32} {zgr : Int32} {zsh : Nat → Int32} {zsn : Int32} {o : Nat → Int64} (hfl : l.stackTraces = false) (hE : LE p s m meth c g b L xs xb r ob lim) (hi : 4 * i9 + 3 < L) (hC : CLS g xb lim q n rm sl sv tx ln H) (hR : ModAt g r q zsp rm (nI n) sl sv tx (nI ln) zth zsg zbg zwd zhg zin zop zbe zwi zhi zbk zot zer zen zpo zpi zgr zsh zsn H) (hO : at_ g H ob (eL g 1 o)) (hTx : TxT tx ln) (hS : va_S (fun q9 => xb ≤ q9) s.heap H locs) (hl : lv_has ls 7 [(0, .ref b), (1, .ref xb), (2, .ref r), (3, .ref ob), (4, .int (nI (4 * i9)))]) (hce7 : ce7 + 30 ≤ 622861) (hsn7 : sn7 + 1100 ≤ 7227521) (f : Nat) (y : Int32) (a1 : xs (4 * i9 + 1) = nI f) (a2 : xs (4 * i9 + 2) = y) (hf : f < 3) (hx1 : isIx y 10000 = false) (kk : ∀ (H1 : Heap) (locs1 : List Loc) (ls1 : Array Slot), LI g xb r ob lim q n rm sl sv tx ln H1 → va_S (fun q9 => xb ≤ q9) s.heap H1 locs1 → lv_has ls1 7 [(0, .ref b), (1, .ref xb), (2, .ref r), (3, .ref ob), (4, .int (nI (4 * i9)))] → W p l e room_1 s m args below meth c H1 locs1 (ce7 + 30) (sn7 + 1100) Q (F0 m 1803 ls1 [])) : W p l e room_1 s m args below meth c H locs ce7 sn7 Q (F0 m 1137 ls []) := by
  obtain ⟨hB, hZ9, hX, hbl, hL9, hxs, hr9, hob9, hlm9⟩ := hE
  have hx := hB.x
  have hb := hB.b
  have hbA : ¬ (fun q9 => xb ≤ q9) b := fun y9 => by have y8 : xb ≤ b := y9; omega
  have hW := hC.wf
  have hn14 := hC.n14
  have hl6c := hC.l60
  have hnm5 := hW.2.2.1
  refine lv_aload_n hx hb dL_law_1137 rfl (lv_at hl 1 rfl) ?_
  refine lv_aload_n hx hb dL_law_1138 rfl (lv_at hl 0 rfl) ?_
  refine lv_iload hx hb dL_law_1139 (lv_at hl 4 rfl) ?_
  refine lv_iconst (v := nI 1) hx hb dL_law_1141 (by decide) ?_
  refine mn_iadd hB dL_law_1142 ?_
  refine va_sld hx hb hX hbl hbA hS (vp_in_nI (by omega) (by omega)) dL_law_1143 ?_
  refine mh_top (y := .int (nI f)) (by rw [nI_clamp (by omega), a1]) ?_
  refine lv_aload_n hx hb dL_law_1144 rfl (lv_at hl 0 rfl) ?_
  refine lv_iload hx hb dL_law_1145 (lv_at hl 4 rfl) ?_
  refine lv_iconst (v := nI 2) hx hb dL_law_1147 (by decide) ?_
  refine mn_iadd hB dL_law_1148 ?_
  refine va_sld hx hb hX hbl hbA hS (vp_in_nI (by omega) (by omega)) dL_law_1149 ?_
  refine mh_top (y := .int y) (by rw [nI_clamp (by omega), a2]) ?_
  refine lv_aload_n hx hb dL_law_1150 rfl (lv_at hl 3 rfl) ?_
  refine cw_156 (As := [.ref xb, .int (nI f), .int y, .ref ob]) (rest := []) hB (hZ9.at hS (fun _ h9 => h9)) (w_raffle_t2 l g H xb lim q n rm sl sv tx ln f y ob o (hC) (hO) (hf) (hx1) (⟨by omega, by omega⟩) (hfl)) rfl hl.1 (Nat.le_of_ble_eq_true rfl) dL_law_1151 ⟨Nat.le_of_ble_eq_true rfl, Nat.le_of_ble_eq_true rfl⟩ ⟨by show (ce7) + 1 ≤ 622861; omega, by show (sn7) + 6 ≤ 7227521; omega⟩ hS (by have hz9 := hS.1; rintro q9 (h9 | h9) <;> first | exact h9.elim | (have h8 : r ≤ q9 ∧ q9 < r + 16 := h9; show xb ≤ q9; omega) | (have h8 : ((xb ≤ q9 ∧ q9 < xb + 68) ∨ lim ≤ q9) ∨ q9 = ob := h9; show xb ≤ q9; omega) | (have h8 : (xb ≤ q9 ∧ q9 < xb + 68) ∨ lim ≤ q9 := h9; show xb ≤ q9; omega) | (show xb ≤ q9; omega)) (fun v H1 locs hpo hfr hS => ?_)
  obtain ⟨rfl, hC, hO⟩ := hpo
  have hR := hR.keptF hfr (fun q9 h1 h2 y9 => by first | exact y9.elim | (have y8 : ((xb ≤ q9 ∧ q9 < xb + 68) ∨ lim ≤ q9) ∨ q9 = ob := y9; omega) | (have y8 : (xb ≤ q9 ∧ q9 < xb + 68) ∨ lim ≤ q9 := y9; omega))
  generalize H1 = H at hfr hS hR hX hC hO ⊢
  refine W.widen (k := ce7 + 1) (n := sn7 + 6) (by show (ce7) + 1 ≤ ce7 + 1; omega) (by show (sn7) + 6 ≤ sn7 + 6; omega) ?_
  refine lv_istore (lv' := [(5, .int (nI 2)), (0, .ref b), (1, .ref xb), (2, .ref r), (3, .ref ob), (4, .int (nI (4 * i9)))]) hx hb dL_law_1154 hl (by decide) rfl (fun ls hl => ?_)
  refine lv_aload_n hx hb dL_law_1156 rfl (lv_at hl 3 rfl) ?_
  refine lv_aload_n hx hb dL_law_1157 rfl (lv_at hl 1 rfl) ?_
  refine lv_iload hx hb dL_law_1158 (lv_at hl 5 rfl) ?_
  refine lv_iconst (v := nI 1) hx hb dL_law_1160 (by decide) ?_
  refine mn_iadd hB dL_law_1161 ?_
  refine va_sld hx hb hX hbl hbA hS (vp_in_nI (by omega) (by omega)) dL_law_1162 ?_
  refine mh_top (y := .int (nI f)) (by rw [nI_clamp (by omega), a1]) ?_
  refine lv_aload_n hx hb dL_law_1163 rfl (lv_at hl 1 rfl) ?_
  refine lv_iload hx hb dL_law_1164 (lv_at hl 5 rfl) ?_
  refine lv_iconst (v := nI 2) hx hb dL_law_1166 (by decide) ?_
  refine mn_iadd hB dL_law_1167 ?_
  refine va_sld hx hb hX hbl hbA hS (vp_in_nI (by omega) (by omega)) dL_law_1168 ?_
  refine mh_top (y := .int y) (by rw [nI_clamp (by omega), a2]) ?_
  refine cl_L_158 (As := [.int (nI f), .int y]) (rest := []) hB (c_X11_raffle_t2 l g H r q zsp rm (nI n) sl sv tx (nI ln) zth zsg zbg zwd zhg zin zop zbe zwi zhi zbk zot zer zen zpo zpi zgr zsh zsn f y hR (hf) (hx1)) hR.o rfl hl.1 (Nat.le_of_ble_eq_true rfl) dL_law_1169 ⟨Nat.le_of_ble_eq_true rfl, Nat.le_of_ble_eq_true rfl⟩ ⟨by show (ce7 + 1) + 0 ≤ 622861; omega, by show (sn7 + 6) + 0 ≤ 7227521; omega⟩ hS (by have hz9 := hS.1; rintro q9 (h9 | h9) <;> first | exact h9.elim | (have h8 : r ≤ q9 ∧ q9 < r + 16 := h9; show xb ≤ q9; omega) | (have h8 : ((xb ≤ q9 ∧ q9 < xb + 68) ∨ lim ≤ q9) ∨ q9 = ob := h9; show xb ≤ q9; omega) | (have h8 : (xb ≤ q9 ∧ q9 < xb + 68) ∨ lim ≤ q9 := h9; show xb ≤ q9; omega) | (show xb ≤ q9; omega)) (fun v H1 locs hpo hfr hS => ?_)
  obtain ⟨rfl, hR⟩ := hpo
  have hC := hC.keptM hfr (fun a9 y9 => by first | exact y9.elim | (have y8 : r ≤ a9 ∧ a9 < r + 16 := y9; omega))
  have hO := Fr.keep hfr hO (fun y9 => by first | exact y9.elim | (have y8 : r ≤ ob ∧ ob < r + 16 := y9; omega) | (have y8 : (xb ≤ ob ∧ ob < xb + 68) ∨ lim ≤ ob := y9; omega))
  generalize H1 = H at hfr hS hX hC hO hR ⊢
  refine W.widen (k := ce7 + 1) (n := sn7 + 6) (by show (ce7 + 1) + 0 ≤ ce7 + 1; omega) (by show (sn7 + 6) + 0 ≤ sn7 + 6; omega) ?_
  refine lv_istore (lv' := [(6, .int (nI 0)), (5, .int (nI 2)), (0, .ref b), (1, .ref xb), (2, .ref r), (3, .ref ob), (4, .int (nI (4 * i9)))]) hx hb dL_law_1172 hl (by decide) rfl (fun ls hl => ?_)
  refine lv_aload_n hx hb dL_law_1174 rfl (lv_at hl 4 rfl) ?_
  refine cl_L_102 (As := []) (rest := []) hB (c_X11_thrown l g H r q zsp rm (nI n) sl sv tx (nI ln) (nI 2) zsg zbg zwd zhg zin zop zbe zwi zhi zbk zot zer zen zpo zpi zgr zsh zsn hR) hR.o rfl hl.1 (Nat.le_of_ble_eq_true rfl) dL_law_1175 ⟨Nat.le_of_ble_eq_true rfl, Nat.le_of_ble_eq_true rfl⟩ ⟨by show (ce7 + 1) + 0 ≤ 622861; omega, by show (sn7 + 6) + 0 ≤ 7227521; omega⟩ hS (by have hz9 := hS.1; rintro q9 (h9 | h9) <;> first | exact h9.elim | (have h8 : r ≤ q9 ∧ q9 < r + 16 := h9; show xb ≤ q9; omega) | (have h8 : ((xb ≤ q9 ∧ q9 < xb + 68) ∨ lim ≤ q9) ∨ q9 = ob := h9; show xb ≤ q9; omega) | (have h8 : (xb ≤ q9 ∧ q9 < xb + 68) ∨ lim ≤ q9 := h9; show xb ≤ q9; omega) | (show xb ≤ q9; omega)) (fun v H1 locs hpo hfr hS => ?_)
  obtain ⟨rfl, rfl⟩ := hpo
  refine W.widen (k := ce7 + 1) (n := sn7 + 6) (by show (ce7 + 1) + 0 ≤ ce7 + 1; omega) (by show (sn7 + 6) + 0 ≤ sn7 + 6; omega) ?_
  refine lv_iload hx hb dL_law_1178 (lv_at hl 1 rfl) ?_
  refine lv_icmp_eq (tgt := 1185) hx hb dL_law_1180 (by decide) (fun h_1180 => ?_) (fun h9 => absurd rfl h9)
  refine lv_iload hx hb dL_law_1185 (lv_at hl 1 rfl) ?_
  refine mn_if_ne (tgt := 1202) hB dL_law_1187 (by decide) (by omega) (fun h_1187 => ?_) (fun h => by exfalso; omega)
  refine lv_goto (tgt := 1803) hx hb dL_law_1202 (by decide) ?_
  refine W.widen (k := ce7 + 30) (n := sn7 + 1100) (by omega) (by omega) ?_
  exact kk _ _ _ ⟨hC, ⟨_, _, _, _, _, _, _, _, _, _, _, _, _, _, _, _, _, _, _, _, hR⟩, ⟨_, hO⟩, hTx⟩ hS (lv_sub hl [2, 3, 4, 5, 6] rfl)

set_option maxRecDepth 100000 in
set_option maxHeartbeats 800000 in
theorem s_raffle_t3 {p : Program} {l : Launch} {e : Env} {s : State} {m : MethodId} {args : Array Value} {below : List Frame} {meth : Method} {c : Code} {H : Heap} {locs : List Loc} {ce7 sn7 : Nat} {Q : State → Prop} {g : GG} {b L xb r ob lim : Nat} {xs : Nat → Int32} {i9 : Nat} {ls : Array Slot} {q : Nat → Int32} {n : Nat} {rm sl sv tx : Nat → Int32} {ln : Nat} {zsp : Nat → Int32} {zth : Int32} {zsg : Nat → Int32} {zbg : Nat → Int32} {zwd : Nat → Int32} {zhg : Nat → Int32} {zin : Nat → Int32} {zop : Int32} {zbe : Int32} {zwi : Int32} {zhi : Int32} {zbk : Nat → Int32} {zot : Nat → Int32} {zer : Int32} {zen : Int32} {zpo : Nat → Int32} {zpi : Int32} {zgr : Int32} {zsh : Nat → Int32} {zsn : Int32} {o : Nat → Int64} (hfl : l.stackTraces = false) (hE : LE p s m meth c g b L xs xb r ob lim) (hi : 4 * i9 + 3 < L) (hC : CLS g xb lim q n rm sl sv tx ln H) (hR : ModAt g r q zsp rm (nI n) sl sv tx (nI ln) zth zsg zbg zwd zhg zin zop zbe zwi zhi zbk zot zer zen zpo zpi zgr zsh zsn H) (hO : at_ g H ob (eL g 1 o)) (hTx : TxT tx ln) (hS : va_S (fun q9 => xb ≤ q9) s.heap H locs) (hl : lv_has ls 7 [(0, .ref b), (1, .ref xb), (2, .ref r), (3, .ref ob), (4, .int (nI (4 * i9)))]) (hce7 : ce7 + 30 ≤ 622861) (hsn7 : sn7 + 1100 ≤ 7227521) (f : Nat) (p0 : Nat) (a1 : xs (4 * i9 + 1) = nI f) (a2 : xs (4 * i9 + 2) = nI p0) (hf : f < 3) (hp : p0 < 10000) (hs0 : ¬ (0 < szF q f ∧ swF q f = szF q f)) (kk : ∀ (H1 : Heap) (locs1 : List Loc) (ls1 : Array Slot), LI g xb r ob lim q n rm sl sv tx ln H1 → va_S (fun q9 => xb ≤ q9) s.heap H1 locs1 → lv_has ls1 7 [(0, .ref b), (1, .ref xb), (2, .ref r), (3, .ref ob), (4, .int (nI (4 * i9)))] → W p l e room_1 s m args below meth c H1 locs1 (ce7 + 30) (sn7 + 1100) Q (F0 m 1803 ls1 [])) : W p l e room_1 s m args below meth c H locs ce7 sn7 Q (F0 m 1137 ls []) := by
  obtain ⟨hB, hZ9, hX, hbl, hL9, hxs, hr9, hob9, hlm9⟩ := hE
  have hx := hB.x
  have hb := hB.b
  have hbA : ¬ (fun q9 => xb ≤ q9) b := fun y9 => by have y8 : xb ≤ b := y9; omega
  have hW := hC.wf
  have hn14 := hC.n14
  have hl6c := hC.l60
  have hnm5 := hW.2.2.1
  refine lv_aload_n hx hb dL_law_1137 rfl (lv_at hl 1 rfl) ?_
  refine lv_aload_n hx hb dL_law_1138 rfl (lv_at hl 0 rfl) ?_
  refine lv_iload hx hb dL_law_1139 (lv_at hl 4 rfl) ?_
  refine lv_iconst (v := nI 1) hx hb dL_law_1141 (by decide) ?_
  refine mn_iadd hB dL_law_1142 ?_
  refine va_sld hx hb hX hbl hbA hS (vp_in_nI (by omega) (by omega)) dL_law_1143 ?_
  refine mh_top (y := .int (nI f)) (by rw [nI_clamp (by omega), a1]) ?_
  refine lv_aload_n hx hb dL_law_1144 rfl (lv_at hl 0 rfl) ?_
  refine lv_iload hx hb dL_law_1145 (lv_at hl 4 rfl) ?_
  refine lv_iconst (v := nI 2) hx hb dL_law_1147 (by decide) ?_
  refine mn_iadd hB dL_law_1148 ?_
  refine va_sld hx hb hX hbl hbA hS (vp_in_nI (by omega) (by omega)) dL_law_1149 ?_
  refine mh_top (y := .int (nI p0)) (by rw [nI_clamp (by omega), a2]) ?_
  refine lv_aload_n hx hb dL_law_1150 rfl (lv_at hl 3 rfl) ?_
  refine cw_156 (As := [.ref xb, .int (nI f), .int (nI p0), .ref ob]) (rest := []) hB (hZ9.at hS (fun _ h9 => h9)) (w_raffle_t3 l g H xb lim q n rm sl sv tx ln f p0 ob o (hC) (hO) (hf) (hp) (hs0) (⟨by omega, by omega⟩) (hfl)) rfl hl.1 (Nat.le_of_ble_eq_true rfl) dL_law_1151 ⟨Nat.le_of_ble_eq_true rfl, Nat.le_of_ble_eq_true rfl⟩ ⟨by show (ce7) + 1 ≤ 622861; omega, by show (sn7) + 6 ≤ 7227521; omega⟩ hS (by have hz9 := hS.1; rintro q9 (h9 | h9) <;> first | exact h9.elim | (have h8 : r ≤ q9 ∧ q9 < r + 16 := h9; show xb ≤ q9; omega) | (have h8 : ((xb ≤ q9 ∧ q9 < xb + 68) ∨ lim ≤ q9) ∨ q9 = ob := h9; show xb ≤ q9; omega) | (have h8 : (xb ≤ q9 ∧ q9 < xb + 68) ∨ lim ≤ q9 := h9; show xb ≤ q9; omega) | (show xb ≤ q9; omega)) (fun v H1 locs hpo hfr hS => ?_)
  obtain ⟨rfl, hC, hO⟩ := hpo
  have hR := hR.keptF hfr (fun q9 h1 h2 y9 => by first | exact y9.elim | (have y8 : ((xb ≤ q9 ∧ q9 < xb + 68) ∨ lim ≤ q9) ∨ q9 = ob := y9; omega) | (have y8 : (xb ≤ q9 ∧ q9 < xb + 68) ∨ lim ≤ q9 := y9; omega))
  generalize H1 = H at hfr hS hR hX hC hO ⊢
  refine W.widen (k := ce7 + 1) (n := sn7 + 6) (by show (ce7) + 1 ≤ ce7 + 1; omega) (by show (sn7) + 6 ≤ sn7 + 6; omega) ?_
  refine lv_istore (lv' := [(5, .int (nI 3)), (0, .ref b), (1, .ref xb), (2, .ref r), (3, .ref ob), (4, .int (nI (4 * i9)))]) hx hb dL_law_1154 hl (by decide) rfl (fun ls hl => ?_)
  refine lv_aload_n hx hb dL_law_1156 rfl (lv_at hl 3 rfl) ?_
  refine lv_aload_n hx hb dL_law_1157 rfl (lv_at hl 1 rfl) ?_
  refine lv_iload hx hb dL_law_1158 (lv_at hl 5 rfl) ?_
  refine lv_iconst (v := nI 1) hx hb dL_law_1160 (by decide) ?_
  refine mn_iadd hB dL_law_1161 ?_
  refine va_sld hx hb hX hbl hbA hS (vp_in_nI (by omega) (by omega)) dL_law_1162 ?_
  refine mh_top (y := .int (nI f)) (by rw [nI_clamp (by omega), a1]) ?_
  refine lv_aload_n hx hb dL_law_1163 rfl (lv_at hl 1 rfl) ?_
  refine lv_iload hx hb dL_law_1164 (lv_at hl 5 rfl) ?_
  refine lv_iconst (v := nI 2) hx hb dL_law_1166 (by decide) ?_
  refine mn_iadd hB dL_law_1167 ?_
  refine va_sld hx hb hX hbl hbA hS (vp_in_nI (by omega) (by omega)) dL_law_1168 ?_
  refine mh_top (y := .int (nI p0)) (by rw [nI_clamp (by omega), a2]) ?_
  refine cl_L_158 (As := [.int (nI f), .int (nI p0)]) (rest := []) hB (c_X11_raffle_t3 l g H r q zsp rm (nI n) sl sv tx (nI ln) zth zsg zbg zwd zhg zin zop zbe zwi zhi zbk zot zer zen zpo zpi zgr zsh zsn f p0 hR (by first | assumption | omega) (hf) (hp) (hs0)) hR.o rfl hl.1 (Nat.le_of_ble_eq_true rfl) dL_law_1169 ⟨Nat.le_of_ble_eq_true rfl, Nat.le_of_ble_eq_true rfl⟩ ⟨by show (ce7 + 1) + 0 ≤ 622861; omega, by show (sn7 + 6) + 0 ≤ 7227521; omega⟩ hS (by have hz9 := hS.1; rintro q9 (h9 | h9) <;> first | exact h9.elim | (have h8 : r ≤ q9 ∧ q9 < r + 16 := h9; show xb ≤ q9; omega) | (have h8 : ((xb ≤ q9 ∧ q9 < xb + 68) ∨ lim ≤ q9) ∨ q9 = ob := h9; show xb ≤ q9; omega) | (have h8 : (xb ≤ q9 ∧ q9 < xb + 68) ∨ lim ≤ q9 := h9; show xb ≤ q9; omega) | (show xb ≤ q9; omega)) (fun v H1 locs hpo hfr hS => ?_)
  obtain ⟨rfl, hR⟩ := hpo
  have hC := hC.keptM hfr (fun a9 y9 => by first | exact y9.elim | (have y8 : r ≤ a9 ∧ a9 < r + 16 := y9; omega))
  have hO := Fr.keep hfr hO (fun y9 => by first | exact y9.elim | (have y8 : r ≤ ob ∧ ob < r + 16 := y9; omega) | (have y8 : (xb ≤ ob ∧ ob < xb + 68) ∨ lim ≤ ob := y9; omega))
  generalize H1 = H at hfr hS hX hC hO hR ⊢
  refine W.widen (k := ce7 + 1) (n := sn7 + 6) (by show (ce7 + 1) + 0 ≤ ce7 + 1; omega) (by show (sn7 + 6) + 0 ≤ sn7 + 6; omega) ?_
  refine lv_istore (lv' := [(6, .int (nI 0)), (5, .int (nI 3)), (0, .ref b), (1, .ref xb), (2, .ref r), (3, .ref ob), (4, .int (nI (4 * i9)))]) hx hb dL_law_1172 hl (by decide) rfl (fun ls hl => ?_)
  refine lv_aload_n hx hb dL_law_1174 rfl (lv_at hl 4 rfl) ?_
  refine cl_L_102 (As := []) (rest := []) hB (c_X11_thrown l g H r q zsp rm (nI n) sl sv tx (nI ln) (nI 3) zsg zbg zwd zhg zin zop zbe zwi zhi zbk zot zer zen zpo zpi zgr zsh zsn hR) hR.o rfl hl.1 (Nat.le_of_ble_eq_true rfl) dL_law_1175 ⟨Nat.le_of_ble_eq_true rfl, Nat.le_of_ble_eq_true rfl⟩ ⟨by show (ce7 + 1) + 0 ≤ 622861; omega, by show (sn7 + 6) + 0 ≤ 7227521; omega⟩ hS (by have hz9 := hS.1; rintro q9 (h9 | h9) <;> first | exact h9.elim | (have h8 : r ≤ q9 ∧ q9 < r + 16 := h9; show xb ≤ q9; omega) | (have h8 : ((xb ≤ q9 ∧ q9 < xb + 68) ∨ lim ≤ q9) ∨ q9 = ob := h9; show xb ≤ q9; omega) | (have h8 : (xb ≤ q9 ∧ q9 < xb + 68) ∨ lim ≤ q9 := h9; show xb ≤ q9; omega) | (show xb ≤ q9; omega)) (fun v H1 locs hpo hfr hS => ?_)
  obtain ⟨rfl, rfl⟩ := hpo
  refine W.widen (k := ce7 + 1) (n := sn7 + 6) (by show (ce7 + 1) + 0 ≤ ce7 + 1; omega) (by show (sn7 + 6) + 0 ≤ sn7 + 6; omega) ?_
  refine lv_iload hx hb dL_law_1178 (lv_at hl 1 rfl) ?_
  refine lv_icmp_eq (tgt := 1185) hx hb dL_law_1180 (by decide) (fun h_1180 => ?_) (fun h9 => absurd rfl h9)
  refine lv_iload hx hb dL_law_1185 (lv_at hl 1 rfl) ?_
  refine mn_if_ne (tgt := 1202) hB dL_law_1187 (by decide) (by omega) (fun h_1187 => ?_) (fun h => by exfalso; omega)
  refine lv_goto (tgt := 1803) hx hb dL_law_1202 (by decide) ?_
  refine W.widen (k := ce7 + 30) (n := sn7 + 1100) (by omega) (by omega) ?_
  exact kk _ _ _ ⟨hC, ⟨_, _, _, _, _, _, _, _, _, _, _, _, _, _, _, _, _, _, _, _, hR⟩, ⟨_, hO⟩, hTx⟩ hS (lv_sub hl [2, 3, 4, 5, 6] rfl)

set_option maxRecDepth 100000 in
set_option maxHeartbeats 800000 in
theorem s_raffle_ok {p : Program} {l : Launch} {e : Env} {s : State} {m : MethodId} {args : Array Value} {below : List Frame} {meth : Method} {c : Code} {H : Heap} {locs : List Loc} {ce7 sn7 : Nat} {Q : State → Prop} {g : GG} {b L xb r ob lim : Nat} {xs : Nat → Int32} {i9 : Nat} {ls : Array Slot} {q : Nat → Int32} {n : Nat} {rm sl sv tx : Nat → Int32} {ln : Nat} {zsp : Nat → Int32} {zth : Int32} {zsg : Nat → Int32} {zbg : Nat → Int32} {zwd : Nat → Int32} {zhg : Nat → Int32} {zin : Nat → Int32} {zop : Int32} {zbe : Int32} {zwi : Int32} {zhi : Int32} {zbk : Nat → Int32} {zot : Nat → Int32} {zer : Int32} {zen : Int32} {zpo : Nat → Int32} {zpi : Int32} {zgr : Int32} {zsh : Nat → Int32} {zsn : Int32} {o : Nat → Int64} (hfl : l.stackTraces = false) (hE : LE p s m meth c g b L xs xb r ob lim) (hi : 4 * i9 + 3 < L) (hC : CLS g xb lim q n rm sl sv tx ln H) (hR : ModAt g r q zsp rm (nI n) sl sv tx (nI ln) zth zsg zbg zwd zhg zin zop zbe zwi zhi zbk zot zer zen zpo zpi zgr zsh zsn H) (hO : at_ g H ob (eL g 1 o)) (hTx : TxT tx ln) (hS : va_S (fun q9 => xb ≤ q9) s.heap H locs) (hl : lv_has ls 7 [(0, .ref b), (1, .ref xb), (2, .ref r), (3, .ref ob), (4, .int (nI (4 * i9)))]) (hce7 : ce7 + 30 ≤ 622861) (hsn7 : sn7 + 1100 ≤ 7227521) (f : Nat) (p0 : Nat) (a1 : xs (4 * i9 + 1) = nI f) (a2 : xs (4 * i9 + 2) = nI p0) (hf : f < 3) (hp : p0 < 10000) (hs0 : 0 < szF q f) (hs1 : swF q f = szF q f) (kk : ∀ (H1 : Heap) (locs1 : List Loc) (ls1 : Array Slot), LI g xb r ob lim (rafQ q f p0) (nxtS n) (remA rm n q) sl sv tx ln H1 → va_S (fun q9 => xb ≤ q9) s.heap H1 locs1 → lv_has ls1 7 [(0, .ref b), (1, .ref xb), (2, .ref r), (3, .ref ob), (4, .int (nI (4 * i9)))] → W p l e room_1 s m args below meth c H1 locs1 (ce7 + 30) (sn7 + 1100) Q (F0 m 1803 ls1 [])) : W p l e room_1 s m args below meth c H locs ce7 sn7 Q (F0 m 1137 ls []) := by
  obtain ⟨hB, hZ9, hX, hbl, hL9, hxs, hr9, hob9, hlm9⟩ := hE
  have hx := hB.x
  have hb := hB.b
  have hbA : ¬ (fun q9 => xb ≤ q9) b := fun y9 => by have y8 : xb ≤ b := y9; omega
  have hW := hC.wf
  have hn14 := hC.n14
  have hl6c := hC.l60
  have hnm5 := hW.2.2.1
  refine lv_aload_n hx hb dL_law_1137 rfl (lv_at hl 1 rfl) ?_
  refine lv_aload_n hx hb dL_law_1138 rfl (lv_at hl 0 rfl) ?_
  refine lv_iload hx hb dL_law_1139 (lv_at hl 4 rfl) ?_
  refine lv_iconst (v := nI 1) hx hb dL_law_1141 (by decide) ?_
  refine mn_iadd hB dL_law_1142 ?_
  refine va_sld hx hb hX hbl hbA hS (vp_in_nI (by omega) (by omega)) dL_law_1143 ?_
  refine mh_top (y := .int (nI f)) (by rw [nI_clamp (by omega), a1]) ?_
  refine lv_aload_n hx hb dL_law_1144 rfl (lv_at hl 0 rfl) ?_
  refine lv_iload hx hb dL_law_1145 (lv_at hl 4 rfl) ?_
  refine lv_iconst (v := nI 2) hx hb dL_law_1147 (by decide) ?_
  refine mn_iadd hB dL_law_1148 ?_
  refine va_sld hx hb hX hbl hbA hS (vp_in_nI (by omega) (by omega)) dL_law_1149 ?_
  refine mh_top (y := .int (nI p0)) (by rw [nI_clamp (by omega), a2]) ?_
  refine lv_aload_n hx hb dL_law_1150 rfl (lv_at hl 3 rfl) ?_
  refine cw_156 (As := [.ref xb, .int (nI f), .int (nI p0), .ref ob]) (rest := []) hB (hZ9.at hS (fun _ h9 => h9)) (w_raffle_ok l g H xb lim q n rm sl sv tx ln f p0 ob o (hC) (hO) (hf) (hp) (hs0) (hs1) (⟨by omega, by omega⟩) (hfl)) rfl hl.1 (Nat.le_of_ble_eq_true rfl) dL_law_1151 ⟨Nat.le_of_ble_eq_true rfl, Nat.le_of_ble_eq_true rfl⟩ ⟨by show (ce7) + 26 ≤ 622861; omega, by show (sn7) + 126 ≤ 7227521; omega⟩ hS (by have hz9 := hS.1; rintro q9 (h9 | h9) <;> first | exact h9.elim | (have h8 : r ≤ q9 ∧ q9 < r + 16 := h9; show xb ≤ q9; omega) | (have h8 : ((xb ≤ q9 ∧ q9 < xb + 68) ∨ lim ≤ q9) ∨ q9 = ob := h9; show xb ≤ q9; omega) | (have h8 : (xb ≤ q9 ∧ q9 < xb + 68) ∨ lim ≤ q9 := h9; show xb ≤ q9; omega) | (show xb ≤ q9; omega)) (fun v H1 locs hpo hfr hS => ?_)
  obtain ⟨rfl, hC, hO⟩ := hpo
  have hR := hR.keptF hfr (fun q9 h1 h2 y9 => by first | exact y9.elim | (have y8 : ((xb ≤ q9 ∧ q9 < xb + 68) ∨ lim ≤ q9) ∨ q9 = ob := y9; omega) | (have y8 : (xb ≤ q9 ∧ q9 < xb + 68) ∨ lim ≤ q9 := y9; omega))
  generalize H1 = H at hfr hS hR hX hC hO ⊢
  refine W.widen (k := ce7 + 26) (n := sn7 + 126) (by show (ce7) + 26 ≤ ce7 + 26; omega) (by show (sn7) + 126 ≤ sn7 + 126; omega) ?_
  refine lv_istore (lv' := [(5, .int (nI 0)), (0, .ref b), (1, .ref xb), (2, .ref r), (3, .ref ob), (4, .int (nI (4 * i9)))]) hx hb dL_law_1154 hl (by decide) rfl (fun ls hl => ?_)
  refine lv_aload_n hx hb dL_law_1156 rfl (lv_at hl 3 rfl) ?_
  refine lv_aload_n hx hb dL_law_1157 rfl (lv_at hl 1 rfl) ?_
  refine lv_iload hx hb dL_law_1158 (lv_at hl 5 rfl) ?_
  refine lv_iconst (v := nI 1) hx hb dL_law_1160 (by decide) ?_
  refine mn_iadd hB dL_law_1161 ?_
  refine va_sld hx hb hX hbl hbA hS (vp_in_nI (by omega) (by omega)) dL_law_1162 ?_
  refine mh_top (y := .int (nI f)) (by rw [nI_clamp (by omega), a1]) ?_
  refine lv_aload_n hx hb dL_law_1163 rfl (lv_at hl 1 rfl) ?_
  refine lv_iload hx hb dL_law_1164 (lv_at hl 5 rfl) ?_
  refine lv_iconst (v := nI 2) hx hb dL_law_1166 (by decide) ?_
  refine mn_iadd hB dL_law_1167 ?_
  refine va_sld hx hb hX hbl hbA hS (vp_in_nI (by omega) (by omega)) dL_law_1168 ?_
  refine mh_top (y := .int (nI p0)) (by rw [nI_clamp (by omega), a2]) ?_
  refine cl_L_158 (As := [.int (nI f), .int (nI p0)]) (rest := []) hB (c_X11_raffle l g H r q zsp rm sl sv tx (nI ln) zth zsg zbg zwd zhg zin zop zbe zwi zhi zbk zot zer zen zpo zpi zgr zsh zsn n f p0 hR (by first | assumption | omega) (by first | assumption | omega) (hf) (hp) (hs0) (hs1)) hR.o rfl hl.1 (Nat.le_of_ble_eq_true rfl) dL_law_1169 ⟨Nat.le_of_ble_eq_true rfl, Nat.le_of_ble_eq_true rfl⟩ ⟨by show (ce7 + 26) + 0 ≤ 622861; omega, by show (sn7 + 126) + 0 ≤ 7227521; omega⟩ hS (by have hz9 := hS.1; rintro q9 (h9 | h9) <;> first | exact h9.elim | (have h8 : r ≤ q9 ∧ q9 < r + 16 := h9; show xb ≤ q9; omega) | (have h8 : ((xb ≤ q9 ∧ q9 < xb + 68) ∨ lim ≤ q9) ∨ q9 = ob := h9; show xb ≤ q9; omega) | (have h8 : (xb ≤ q9 ∧ q9 < xb + 68) ∨ lim ≤ q9 := h9; show xb ≤ q9; omega) | (show xb ≤ q9; omega)) (fun v H1 locs hpo hfr hS => ?_)
  obtain ⟨rfl, hR⟩ := hpo
  have hC := hC.keptM hfr (fun a9 y9 => by first | exact y9.elim | (have y8 : r ≤ a9 ∧ a9 < r + 16 := y9; omega))
  have hO := Fr.keep hfr hO (fun y9 => by first | exact y9.elim | (have y8 : r ≤ ob ∧ ob < r + 16 := y9; omega) | (have y8 : (xb ≤ ob ∧ ob < xb + 68) ∨ lim ≤ ob := y9; omega))
  generalize H1 = H at hfr hS hX hC hO hR ⊢
  refine W.widen (k := ce7 + 26) (n := sn7 + 126) (by show (ce7 + 26) + 0 ≤ ce7 + 26; omega) (by show (sn7 + 126) + 0 ≤ sn7 + 126; omega) ?_
  refine lv_istore (lv' := [(6, .int (nI (szF q f))), (5, .int (nI 0)), (0, .ref b), (1, .ref xb), (2, .ref r), (3, .ref ob), (4, .int (nI (4 * i9)))]) hx hb dL_law_1172 hl (by decide) rfl (fun ls hl => ?_)
  refine lv_aload_n hx hb dL_law_1174 rfl (lv_at hl 4 rfl) ?_
  refine cl_L_102 (As := []) (rest := []) hB (c_X11_thrown l g H r (rafQ q f p0) zsp (remA rm n q) (nI (nxtS n)) sl sv tx (nI ln) (nI 0) zsg zbg zwd zhg zin zop zbe zwi zhi zbk zot zer zen zpo zpi zgr (lowOf (shrQ q f p0) (lowOf (shr1 q f p0) zsh 5) 5) zsn hR) hR.o rfl hl.1 (Nat.le_of_ble_eq_true rfl) dL_law_1175 ⟨Nat.le_of_ble_eq_true rfl, Nat.le_of_ble_eq_true rfl⟩ ⟨by show (ce7 + 26) + 0 ≤ 622861; omega, by show (sn7 + 126) + 0 ≤ 7227521; omega⟩ hS (by have hz9 := hS.1; rintro q9 (h9 | h9) <;> first | exact h9.elim | (have h8 : r ≤ q9 ∧ q9 < r + 16 := h9; show xb ≤ q9; omega) | (have h8 : ((xb ≤ q9 ∧ q9 < xb + 68) ∨ lim ≤ q9) ∨ q9 = ob := h9; show xb ≤ q9; omega) | (have h8 : (xb ≤ q9 ∧ q9 < xb + 68) ∨ lim ≤ q9 := h9; show xb ≤ q9; omega) | (show xb ≤ q9; omega)) (fun v H1 locs hpo hfr hS => ?_)
  obtain ⟨rfl, rfl⟩ := hpo
  refine W.widen (k := ce7 + 26) (n := sn7 + 126) (by show (ce7 + 26) + 0 ≤ ce7 + 26; omega) (by show (sn7 + 126) + 0 ≤ sn7 + 126; omega) ?_
  refine lv_iload hx hb dL_law_1178 (lv_at hl 1 rfl) ?_
  refine lv_icmp_eq (tgt := 1185) hx hb dL_law_1180 (by decide) (fun h_1180 => ?_) (fun h9 => absurd rfl h9)
  refine lv_iload hx hb dL_law_1185 (lv_at hl 1 rfl) ?_
  refine mn_if_ne (tgt := 1202) hB dL_law_1187 (by decide) (by omega) (fun h => by exfalso; omega) (fun h_1187 => ?_)
  refine lv_aload_n hx hb dL_law_1190 rfl (lv_at hl 5 rfl) ?_
  refine lv_iconst (v := nI 0) hx hb dL_law_1191 (by decide) ?_
  refine mn_lald hB hO (by omega) (by omega) dL_law_1192 ?_
  refine mh_top (y := .long ((nI (szF q f)).toInt64)) (rfl) ?_
  refine lv_iload hx hb dL_law_1193 (lv_at hl 0 rfl) ?_
  refine lv_i2l (v := (nI (szF q f)).toInt64) hx hb dL_law_1195 rfl ?_
  refine W.lcmp hx hb dL_law_1196 ?_
  refine ml_if_eq (tgt := 1202) hB dL_law_1197 (by decide) (fun h_1197 => ?_) (fun h => absurd rfl h)
  refine lv_goto (tgt := 1803) hx hb dL_law_1202 (by decide) ?_
  refine W.widen (k := ce7 + 30) (n := sn7 + 1100) (by omega) (by omega) ?_
  exact kk _ _ _ ⟨hC, ⟨_, _, _, _, _, _, _, _, _, _, _, _, _, _, _, _, _, _, _, _, hR⟩, ⟨_, hO⟩, hTx⟩ hS (lv_sub hl [2, 3, 4, 5, 6] rfl)

set_option maxRecDepth 100000 in
set_option maxHeartbeats 800000 in
theorem s_returnCloth_ok {p : Program} {l : Launch} {e : Env} {s : State} {m : MethodId} {args : Array Value} {below : List Frame} {meth : Method} {c : Code} {H : Heap} {locs : List Loc} {ce7 sn7 : Nat} {Q : State → Prop} {g : GG} {b L xb r ob lim : Nat} {xs : Nat → Int32} {i9 : Nat} {ls : Array Slot} {q : Nat → Int32} {n : Nat} {rm sl sv tx : Nat → Int32} {ln : Nat} {zsp : Nat → Int32} {zth : Int32} {zsg : Nat → Int32} {zbg : Nat → Int32} {zwd : Nat → Int32} {zhg : Nat → Int32} {zin : Nat → Int32} {zop : Int32} {zbe : Int32} {zwi : Int32} {zhi : Int32} {zbk : Nat → Int32} {zot : Nat → Int32} {zer : Int32} {zen : Int32} {zpo : Nat → Int32} {zpi : Int32} {zgr : Int32} {zsh : Nat → Int32} {zsn : Int32} {o : Nat → Int64} (hfl : l.stackTraces = false) (hE : LE p s m meth c g b L xs xb r ob lim) (hi : 4 * i9 + 3 < L) (hC : CLS g xb lim q n rm sl sv tx ln H) (hR : ModAt g r q zsp rm (nI n) sl sv tx (nI ln) zth zsg zbg zwd zhg zin zop zbe zwi zhi zbk zot zer zen zpo zpi zgr zsh zsn H) (hO : at_ g H ob (eL g 1 o)) (hTx : TxT tx ln) (hS : va_S (fun q9 => xb ≤ q9) s.heap H locs) (hl : lv_has ls 7 [(0, .ref b), (1, .ref xb), (2, .ref r), (3, .ref ob), (4, .int (nI (4 * i9)))]) (hce7 : ce7 + 30 ≤ 622861) (hsn7 : sn7 + 1100 ≤ 7227521) (kk : ∀ (H1 : Heap) (locs1 : List Loc) (ls1 : Array Slot), LI g xb r ob lim (retO q 6) (nxtS n) (remA rm n q) sl sv tx ln H1 → va_S (fun q9 => xb ≤ q9) s.heap H1 locs1 → lv_has ls1 7 [(0, .ref b), (1, .ref xb), (2, .ref r), (3, .ref ob), (4, .int (nI (4 * i9)))] → W p l e room_1 s m args below meth c H1 locs1 (ce7 + 30) (sn7 + 1100) Q (F0 m 1803 ls1 [])) : W p l e room_1 s m args below meth c H locs ce7 sn7 Q (F0 m 1205 ls []) := by
  obtain ⟨hB, hZ9, hX, hbl, hL9, hxs, hr9, hob9, hlm9⟩ := hE
  have hx := hB.x
  have hb := hB.b
  have hbA : ¬ (fun q9 => xb ≤ q9) b := fun y9 => by have y8 : xb ≤ b := y9; omega
  have hW := hC.wf
  have hn14 := hC.n14
  have hl6c := hC.l60
  have hnm5 := hW.2.2.1
  refine lv_aload_n hx hb dL_law_1205 rfl (lv_at hl 1 rfl) ?_
  refine cl_L_159 (As := []) (rest := []) hB (f_X10_returnCloth l g H xb lim q n rm sl sv tx ln (hC)) hC.ob rfl hl.1 (Nat.le_of_ble_eq_true rfl) dL_law_1206 ⟨Nat.le_of_ble_eq_true rfl, Nat.le_of_ble_eq_true rfl⟩ ⟨by show (ce7) + 26 ≤ 622861; omega, by show (sn7) + 126 ≤ 7227521; omega⟩ hS (by have hz9 := hS.1; rintro q9 (h9 | h9) <;> first | exact h9.elim | (have h8 : r ≤ q9 ∧ q9 < r + 16 := h9; show xb ≤ q9; omega) | (have h8 : ((xb ≤ q9 ∧ q9 < xb + 68) ∨ lim ≤ q9) ∨ q9 = ob := h9; show xb ≤ q9; omega) | (have h8 : (xb ≤ q9 ∧ q9 < xb + 68) ∨ lim ≤ q9 := h9; show xb ≤ q9; omega) | (show xb ≤ q9; omega)) (fun v H1 locs hpo hfr hS => ?_)
  obtain ⟨rfl, hC⟩ := hpo
  have hR := hR.keptF hfr (fun q9 h1 h2 y9 => by first | exact y9.elim | (have y8 : ((xb ≤ q9 ∧ q9 < xb + 68) ∨ lim ≤ q9) ∨ q9 = ob := y9; omega) | (have y8 : (xb ≤ q9 ∧ q9 < xb + 68) ∨ lim ≤ q9 := y9; omega))
  have hO := Fr.keep hfr hO (fun y9 => by first | exact y9.elim | (have y8 : r ≤ ob ∧ ob < r + 16 := y9; omega) | (have y8 : (xb ≤ ob ∧ ob < xb + 68) ∨ lim ≤ ob := y9; omega))
  generalize H1 = H at hfr hS hR hO hX hC ⊢
  refine W.widen (k := ce7 + 26) (n := sn7 + 126) (by show (ce7) + 26 ≤ ce7 + 26; omega) (by show (sn7) + 126 ≤ sn7 + 126; omega) ?_
  refine lv_aload_n hx hb dL_law_1209 rfl (lv_at hl 2 rfl) ?_
  refine cl_L_162 (As := []) (rest := [.int (retT q 6)]) hB (c_X11_returnCloth l g H r q zsp rm sl sv tx (nI ln) zth zsg zbg zwd zhg zin zop zbe zwi zhi zbk zot zer zen zpo zpi zgr zsh zsn n hR (by first | assumption | omega)) hR.o rfl hl.1 (Nat.le_of_ble_eq_true rfl) dL_law_1210 ⟨Nat.le_of_ble_eq_true rfl, Nat.le_of_ble_eq_true rfl⟩ ⟨by show (ce7 + 26) + 0 ≤ 622861; omega, by show (sn7 + 126) + 0 ≤ 7227521; omega⟩ hS (by have hz9 := hS.1; rintro q9 (h9 | h9) <;> first | exact h9.elim | (have h8 : r ≤ q9 ∧ q9 < r + 16 := h9; show xb ≤ q9; omega) | (have h8 : ((xb ≤ q9 ∧ q9 < xb + 68) ∨ lim ≤ q9) ∨ q9 = ob := h9; show xb ≤ q9; omega) | (have h8 : (xb ≤ q9 ∧ q9 < xb + 68) ∨ lim ≤ q9 := h9; show xb ≤ q9; omega) | (show xb ≤ q9; omega)) (fun v H1 locs hpo hfr hS => ?_)
  obtain ⟨rfl, hR⟩ := hpo
  have hO := Fr.keep hfr hO (fun y9 => by first | exact y9.elim | (have y8 : r ≤ ob ∧ ob < r + 16 := y9; omega) | (have y8 : (xb ≤ ob ∧ ob < xb + 68) ∨ lim ≤ ob := y9; omega))
  have hC := hC.keptM hfr (fun a9 y9 => by first | exact y9.elim | (have y8 : r ≤ a9 ∧ a9 < r + 16 := y9; omega))
  generalize H1 = H at hfr hS hO hX hC hR ⊢
  refine W.widen (k := ce7 + 26) (n := sn7 + 126) (by show (ce7 + 26) + 0 ≤ ce7 + 26; omega) (by show (sn7 + 126) + 0 ≤ sn7 + 126; omega) ?_
  refine lv_icmp_eq (tgt := 1803) hx hb dL_law_1213 (by decide) (fun h_1213 => ?_) (fun h9 => absurd rfl h9)
  refine W.widen (k := ce7 + 30) (n := sn7 + 1100) (by omega) (by omega) ?_
  exact kk _ _ _ ⟨hC, ⟨_, _, _, _, _, _, _, _, _, _, _, _, _, _, _, _, _, _, _, _, hR⟩, ⟨_, hO⟩, hTx⟩ hS (lv_sub hl [0, 1, 2, 3, 4] rfl)

set_option maxRecDepth 100000 in
set_option maxHeartbeats 800000 in
theorem s_undo_t1 {p : Program} {l : Launch} {e : Env} {s : State} {m : MethodId} {args : Array Value} {below : List Frame} {meth : Method} {c : Code} {H : Heap} {locs : List Loc} {ce7 sn7 : Nat} {Q : State → Prop} {g : GG} {b L xb r ob lim : Nat} {xs : Nat → Int32} {i9 : Nat} {ls : Array Slot} {q : Nat → Int32} {rm sl sv tx : Nat → Int32} {ln : Nat} {zsp : Nat → Int32} {zth : Int32} {zsg : Nat → Int32} {zbg : Nat → Int32} {zwd : Nat → Int32} {zhg : Nat → Int32} {zin : Nat → Int32} {zop : Int32} {zbe : Int32} {zwi : Int32} {zhi : Int32} {zbk : Nat → Int32} {zot : Nat → Int32} {zer : Int32} {zen : Int32} {zpo : Nat → Int32} {zpi : Int32} {zgr : Int32} {zsh : Nat → Int32} {zsn : Int32} {o : Nat → Int64} (hfl : l.stackTraces = false) (hE : LE p s m meth c g b L xs xb r ob lim) (hi : 4 * i9 + 3 < L) (hC : CLS g xb lim q 0 rm sl sv tx ln H) (hR : ModAt g r q zsp rm (nI 0) sl sv tx (nI ln) zth zsg zbg zwd zhg zin zop zbe zwi zhi zbk zot zer zen zpo zpi zgr zsh zsn H) (hO : at_ g H ob (eL g 1 o)) (hTx : TxT tx ln) (hS : va_S (fun q9 => xb ≤ q9) s.heap H locs) (hl : lv_has ls 7 [(0, .ref b), (1, .ref xb), (2, .ref r), (3, .ref ob), (4, .int (nI (4 * i9)))]) (hce7 : ce7 + 30 ≤ 622861) (hsn7 : sn7 + 1100 ≤ 7227521) (kk : ∀ (H1 : Heap) (locs1 : List Loc) (ls1 : Array Slot), LI g xb r ob lim q 0 rm sl sv tx ln H1 → va_S (fun q9 => xb ≤ q9) s.heap H1 locs1 → lv_has ls1 7 [(0, .ref b), (1, .ref xb), (2, .ref r), (3, .ref ob), (4, .int (nI (4 * i9)))] → W p l e room_1 s m args below meth c H1 locs1 (ce7 + 30) (sn7 + 1100) Q (F0 m 1803 ls1 [])) : W p l e room_1 s m args below meth c H locs ce7 sn7 Q (F0 m 1218 ls []) := by
  obtain ⟨hB, hZ9, hX, hbl, hL9, hxs, hr9, hob9, hlm9⟩ := hE
  have hx := hB.x
  have hb := hB.b
  have hbA : ¬ (fun q9 => xb ≤ q9) b := fun y9 => by have y8 : xb ≤ b := y9; omega
  have hW := hC.wf
  have hn14 := hC.n14
  have hl6c := hC.l60
  have hnm5 := hW.2.2.1
  refine lv_aload_n hx hb dL_law_1218 rfl (lv_at hl 1 rfl) ?_
  refine lv_aload_n hx hb dL_law_1219 rfl (lv_at hl 3 rfl) ?_
  refine cw_163 (As := [.ref xb, .ref ob]) (rest := []) hB (hZ9.at hS (fun _ h9 => h9)) (w_undo_t1 l g H xb lim q 0 rm sl sv tx ln ob o (hC) (hO) (rfl) (⟨by omega, by omega⟩) (hfl)) rfl hl.1 (Nat.le_of_ble_eq_true rfl) dL_law_1220 ⟨Nat.le_of_ble_eq_true rfl, Nat.le_of_ble_eq_true rfl⟩ ⟨by show (ce7) + 1 ≤ 622861; omega, by show (sn7) + 6 ≤ 7227521; omega⟩ hS (by have hz9 := hS.1; rintro q9 (h9 | h9) <;> first | exact h9.elim | (have h8 : r ≤ q9 ∧ q9 < r + 16 := h9; show xb ≤ q9; omega) | (have h8 : ((xb ≤ q9 ∧ q9 < xb + 68) ∨ lim ≤ q9) ∨ q9 = ob := h9; show xb ≤ q9; omega) | (have h8 : (xb ≤ q9 ∧ q9 < xb + 68) ∨ lim ≤ q9 := h9; show xb ≤ q9; omega) | (show xb ≤ q9; omega)) (fun v H1 locs hpo hfr hS => ?_)
  obtain ⟨rfl, hC, hO⟩ := hpo
  have hR := hR.keptF hfr (fun q9 h1 h2 y9 => by first | exact y9.elim | (have y8 : ((xb ≤ q9 ∧ q9 < xb + 68) ∨ lim ≤ q9) ∨ q9 = ob := y9; omega) | (have y8 : (xb ≤ q9 ∧ q9 < xb + 68) ∨ lim ≤ q9 := y9; omega))
  generalize H1 = H at hfr hS hR hX hC hO ⊢
  refine W.widen (k := ce7 + 1) (n := sn7 + 6) (by show (ce7) + 1 ≤ ce7 + 1; omega) (by show (sn7) + 6 ≤ sn7 + 6; omega) ?_
  refine lv_istore (lv' := [(5, .int (nI 1)), (0, .ref b), (1, .ref xb), (2, .ref r), (3, .ref ob), (4, .int (nI (4 * i9)))]) hx hb dL_law_1223 hl (by decide) rfl (fun ls hl => ?_)
  refine lv_aload_n hx hb dL_law_1225 rfl (lv_at hl 3 rfl) ?_
  refine cl_L_165 (As := []) (rest := []) hB (c_X11_undo_t1 l g H r q zsp rm sl sv tx (nI ln) zth zsg zbg zwd zhg zin zop zbe zwi zhi zbk zot zer zen zpo zpi zgr zsh zsn hR) hR.o rfl hl.1 (Nat.le_of_ble_eq_true rfl) dL_law_1226 ⟨Nat.le_of_ble_eq_true rfl, Nat.le_of_ble_eq_true rfl⟩ ⟨by show (ce7 + 1) + 0 ≤ 622861; omega, by show (sn7 + 6) + 0 ≤ 7227521; omega⟩ hS (by have hz9 := hS.1; rintro q9 (h9 | h9) <;> first | exact h9.elim | (have h8 : r ≤ q9 ∧ q9 < r + 16 := h9; show xb ≤ q9; omega) | (have h8 : ((xb ≤ q9 ∧ q9 < xb + 68) ∨ lim ≤ q9) ∨ q9 = ob := h9; show xb ≤ q9; omega) | (have h8 : (xb ≤ q9 ∧ q9 < xb + 68) ∨ lim ≤ q9 := h9; show xb ≤ q9; omega) | (show xb ≤ q9; omega)) (fun v H1 locs hpo hfr hS => ?_)
  obtain ⟨rfl, hR⟩ := hpo
  have hC := hC.keptM hfr (fun a9 y9 => by first | exact y9.elim | (have y8 : r ≤ a9 ∧ a9 < r + 16 := y9; omega))
  have hO := Fr.keep hfr hO (fun y9 => by first | exact y9.elim | (have y8 : r ≤ ob ∧ ob < r + 16 := y9; omega) | (have y8 : (xb ≤ ob ∧ ob < xb + 68) ∨ lim ≤ ob := y9; omega))
  generalize H1 = H at hfr hS hX hC hO hR ⊢
  refine W.widen (k := ce7 + 1) (n := sn7 + 6) (by show (ce7 + 1) + 0 ≤ ce7 + 1; omega) (by show (sn7 + 6) + 0 ≤ sn7 + 6; omega) ?_
  refine lv_istore (lv' := [(6, .int (nI 0)), (5, .int (nI 1)), (0, .ref b), (1, .ref xb), (2, .ref r), (3, .ref ob), (4, .int (nI (4 * i9)))]) hx hb dL_law_1229 hl (by decide) rfl (fun ls hl => ?_)
  refine lv_aload_n hx hb dL_law_1231 rfl (lv_at hl 4 rfl) ?_
  refine cl_L_102 (As := []) (rest := []) hB (c_X11_thrown l g H r q zsp rm (nI 0) sl sv tx (nI ln) (nI 1) zsg zbg zwd zhg zin zop zbe zwi zhi zbk zot zer zen zpo zpi zgr zsh zsn hR) hR.o rfl hl.1 (Nat.le_of_ble_eq_true rfl) dL_law_1232 ⟨Nat.le_of_ble_eq_true rfl, Nat.le_of_ble_eq_true rfl⟩ ⟨by show (ce7 + 1) + 0 ≤ 622861; omega, by show (sn7 + 6) + 0 ≤ 7227521; omega⟩ hS (by have hz9 := hS.1; rintro q9 (h9 | h9) <;> first | exact h9.elim | (have h8 : r ≤ q9 ∧ q9 < r + 16 := h9; show xb ≤ q9; omega) | (have h8 : ((xb ≤ q9 ∧ q9 < xb + 68) ∨ lim ≤ q9) ∨ q9 = ob := h9; show xb ≤ q9; omega) | (have h8 : (xb ≤ q9 ∧ q9 < xb + 68) ∨ lim ≤ q9 := h9; show xb ≤ q9; omega) | (show xb ≤ q9; omega)) (fun v H1 locs hpo hfr hS => ?_)
  obtain ⟨rfl, rfl⟩ := hpo
  refine W.widen (k := ce7 + 1) (n := sn7 + 6) (by show (ce7 + 1) + 0 ≤ ce7 + 1; omega) (by show (sn7 + 6) + 0 ≤ sn7 + 6; omega) ?_
  refine lv_iload hx hb dL_law_1235 (lv_at hl 1 rfl) ?_
  refine lv_icmp_eq (tgt := 1242) hx hb dL_law_1237 (by decide) (fun h_1237 => ?_) (fun h9 => absurd rfl h9)
  refine lv_iload hx hb dL_law_1242 (lv_at hl 1 rfl) ?_
  refine mn_if_ne (tgt := 1259) hB dL_law_1244 (by decide) (by omega) (fun h_1244 => ?_) (fun h => by exfalso; omega)
  refine lv_goto (tgt := 1803) hx hb dL_law_1259 (by decide) ?_
  refine W.widen (k := ce7 + 30) (n := sn7 + 1100) (by omega) (by omega) ?_
  exact kk _ _ _ ⟨hC, ⟨_, _, _, _, _, _, _, _, _, _, _, _, _, _, _, _, _, _, _, _, hR⟩, ⟨_, hO⟩, hTx⟩ hS (lv_sub hl [2, 3, 4, 5, 6] rfl)

set_option maxRecDepth 100000 in
set_option maxHeartbeats 800000 in
theorem s_undo_ok {p : Program} {l : Launch} {e : Env} {s : State} {m : MethodId} {args : Array Value} {below : List Frame} {meth : Method} {c : Code} {H : Heap} {locs : List Loc} {ce7 sn7 : Nat} {Q : State → Prop} {g : GG} {b L xb r ob lim : Nat} {xs : Nat → Int32} {i9 : Nat} {ls : Array Slot} {q : Nat → Int32} {n : Nat} {rm sl sv tx : Nat → Int32} {ln : Nat} {zsp : Nat → Int32} {zth : Int32} {zsg : Nat → Int32} {zbg : Nat → Int32} {zwd : Nat → Int32} {zhg : Nat → Int32} {zin : Nat → Int32} {zop : Int32} {zbe : Int32} {zwi : Int32} {zhi : Int32} {zbk : Nat → Int32} {zot : Nat → Int32} {zer : Int32} {zen : Int32} {zpo : Nat → Int32} {zpi : Int32} {zgr : Int32} {zsh : Nat → Int32} {zsn : Int32} {o : Nat → Int64} (hfl : l.stackTraces = false) (hE : LE p s m meth c g b L xs xb r ob lim) (hi : 4 * i9 + 3 < L) (hC : CLS g xb lim q n rm sl sv tx ln H) (hR : ModAt g r q zsp rm (nI n) sl sv tx (nI ln) zth zsg zbg zwd zhg zin zop zbe zwi zhi zbk zot zer zen zpo zpi zgr zsh zsn H) (hO : at_ g H ob (eL g 1 o)) (hTx : TxT tx ln) (hS : va_S (fun q9 => xb ≤ q9) s.heap H locs) (hl : lv_has ls 7 [(0, .ref b), (1, .ref xb), (2, .ref r), (3, .ref ob), (4, .int (nI (4 * i9)))]) (hce7 : ce7 + 30 ≤ 622861) (hsn7 : sn7 + 1100 ≤ 7227521) (hn0 : 0 < n) (kk : ∀ (H1 : Heap) (locs1 : List Loc) (ls1 : Array Slot), LI g xb r ob lim (row9 rm (n - 1)) (n - 1) rm sl sv tx ln H1 → va_S (fun q9 => xb ≤ q9) s.heap H1 locs1 → lv_has ls1 7 [(0, .ref b), (1, .ref xb), (2, .ref r), (3, .ref ob), (4, .int (nI (4 * i9)))] → W p l e room_1 s m args below meth c H1 locs1 (ce7 + 30) (sn7 + 1100) Q (F0 m 1803 ls1 [])) : W p l e room_1 s m args below meth c H locs ce7 sn7 Q (F0 m 1218 ls []) := by
  obtain ⟨hB, hZ9, hX, hbl, hL9, hxs, hr9, hob9, hlm9⟩ := hE
  have hx := hB.x
  have hb := hB.b
  have hbA : ¬ (fun q9 => xb ≤ q9) b := fun y9 => by have y8 : xb ≤ b := y9; omega
  have hW := hC.wf
  have hn14 := hC.n14
  have hl6c := hC.l60
  have hnm5 := hW.2.2.1
  refine lv_aload_n hx hb dL_law_1218 rfl (lv_at hl 1 rfl) ?_
  refine lv_aload_n hx hb dL_law_1219 rfl (lv_at hl 3 rfl) ?_
  refine cw_163 (As := [.ref xb, .ref ob]) (rest := []) hB (hZ9.at hS (fun _ h9 => h9)) (w_undo_ok l g H xb lim q n rm sl sv tx ln ob o (hC) (hO) (hn0) (⟨by omega, by omega⟩) (hfl)) rfl hl.1 (Nat.le_of_ble_eq_true rfl) dL_law_1220 ⟨Nat.le_of_ble_eq_true rfl, Nat.le_of_ble_eq_true rfl⟩ ⟨by show (ce7) + 0 ≤ 622861; omega, by show (sn7) + 0 ≤ 7227521; omega⟩ hS (by have hz9 := hS.1; rintro q9 (h9 | h9) <;> first | exact h9.elim | (have h8 : r ≤ q9 ∧ q9 < r + 16 := h9; show xb ≤ q9; omega) | (have h8 : ((xb ≤ q9 ∧ q9 < xb + 68) ∨ lim ≤ q9) ∨ q9 = ob := h9; show xb ≤ q9; omega) | (have h8 : (xb ≤ q9 ∧ q9 < xb + 68) ∨ lim ≤ q9 := h9; show xb ≤ q9; omega) | (show xb ≤ q9; omega)) (fun v H1 locs hpo hfr hS => ?_)
  obtain ⟨rfl, hC, hO⟩ := hpo
  have hR := hR.keptF hfr (fun q9 h1 h2 y9 => by first | exact y9.elim | (have y8 : ((xb ≤ q9 ∧ q9 < xb + 68) ∨ lim ≤ q9) ∨ q9 = ob := y9; omega) | (have y8 : (xb ≤ q9 ∧ q9 < xb + 68) ∨ lim ≤ q9 := y9; omega))
  generalize H1 = H at hfr hS hR hX hC hO ⊢
  refine W.widen (k := ce7) (n := sn7) (by show (ce7) + 0 ≤ ce7; omega) (by show (sn7) + 0 ≤ sn7; omega) ?_
  refine lv_istore (lv' := [(5, .int (nI 0)), (0, .ref b), (1, .ref xb), (2, .ref r), (3, .ref ob), (4, .int (nI (4 * i9)))]) hx hb dL_law_1223 hl (by decide) rfl (fun ls hl => ?_)
  refine lv_aload_n hx hb dL_law_1225 rfl (lv_at hl 3 rfl) ?_
  refine cl_L_165 (As := []) (rest := []) hB (c_X11_undo l g H r q zsp rm sl sv tx (nI ln) zth zsg zbg zwd zhg zin zop zbe zwi zhi zbk zot zer zen zpo zpi zgr zsh zsn n hR (hn0) (by first | assumption | omega)) hR.o rfl hl.1 (Nat.le_of_ble_eq_true rfl) dL_law_1226 ⟨Nat.le_of_ble_eq_true rfl, Nat.le_of_ble_eq_true rfl⟩ ⟨by show (ce7) + 0 ≤ 622861; omega, by show (sn7) + 0 ≤ 7227521; omega⟩ hS (by have hz9 := hS.1; rintro q9 (h9 | h9) <;> first | exact h9.elim | (have h8 : r ≤ q9 ∧ q9 < r + 16 := h9; show xb ≤ q9; omega) | (have h8 : ((xb ≤ q9 ∧ q9 < xb + 68) ∨ lim ≤ q9) ∨ q9 = ob := h9; show xb ≤ q9; omega) | (have h8 : (xb ≤ q9 ∧ q9 < xb + 68) ∨ lim ≤ q9 := h9; show xb ≤ q9; omega) | (show xb ≤ q9; omega)) (fun v H1 locs hpo hfr hS => ?_)
  obtain ⟨rfl, hR⟩ := hpo
  have hC := hC.keptM hfr (fun a9 y9 => by first | exact y9.elim | (have y8 : r ≤ a9 ∧ a9 < r + 16 := y9; omega))
  have hO := Fr.keep hfr hO (fun y9 => by first | exact y9.elim | (have y8 : r ≤ ob ∧ ob < r + 16 := y9; omega) | (have y8 : (xb ≤ ob ∧ ob < xb + 68) ∨ lim ≤ ob := y9; omega))
  generalize H1 = H at hfr hS hX hC hO hR ⊢
  refine W.widen (k := ce7) (n := sn7) (by show (ce7) + 0 ≤ ce7; omega) (by show (sn7) + 0 ≤ sn7; omega) ?_
  refine lv_istore (lv' := [(6, .int (nI (n - 1))), (5, .int (nI 0)), (0, .ref b), (1, .ref xb), (2, .ref r), (3, .ref ob), (4, .int (nI (4 * i9)))]) hx hb dL_law_1229 hl (by decide) rfl (fun ls hl => ?_)
  refine lv_aload_n hx hb dL_law_1231 rfl (lv_at hl 4 rfl) ?_
  refine cl_L_102 (As := []) (rest := []) hB (c_X11_thrown l g H r (fun j9 => rm (866 * (n - 1) + j9)) zsp rm (nI (n - 1)) sl sv tx (nI ln) (nI 0) zsg zbg zwd zhg zin zop zbe zwi zhi zbk zot zer zen zpo zpi zgr zsh zsn hR) hR.o rfl hl.1 (Nat.le_of_ble_eq_true rfl) dL_law_1232 ⟨Nat.le_of_ble_eq_true rfl, Nat.le_of_ble_eq_true rfl⟩ ⟨by show (ce7) + 0 ≤ 622861; omega, by show (sn7) + 0 ≤ 7227521; omega⟩ hS (by have hz9 := hS.1; rintro q9 (h9 | h9) <;> first | exact h9.elim | (have h8 : r ≤ q9 ∧ q9 < r + 16 := h9; show xb ≤ q9; omega) | (have h8 : ((xb ≤ q9 ∧ q9 < xb + 68) ∨ lim ≤ q9) ∨ q9 = ob := h9; show xb ≤ q9; omega) | (have h8 : (xb ≤ q9 ∧ q9 < xb + 68) ∨ lim ≤ q9 := h9; show xb ≤ q9; omega) | (show xb ≤ q9; omega)) (fun v H1 locs hpo hfr hS => ?_)
  obtain ⟨rfl, rfl⟩ := hpo
  refine W.widen (k := ce7) (n := sn7) (by show (ce7) + 0 ≤ ce7; omega) (by show (sn7) + 0 ≤ sn7; omega) ?_
  refine lv_iload hx hb dL_law_1235 (lv_at hl 1 rfl) ?_
  refine lv_icmp_eq (tgt := 1242) hx hb dL_law_1237 (by decide) (fun h_1237 => ?_) (fun h9 => absurd rfl h9)
  refine lv_iload hx hb dL_law_1242 (lv_at hl 1 rfl) ?_
  refine mn_if_ne (tgt := 1259) hB dL_law_1244 (by decide) (by omega) (fun h => by exfalso; omega) (fun h_1244 => ?_)
  refine lv_aload_n hx hb dL_law_1247 rfl (lv_at hl 5 rfl) ?_
  refine lv_iconst (v := nI 0) hx hb dL_law_1248 (by decide) ?_
  refine mn_lald hB hO (by omega) (by omega) dL_law_1249 ?_
  refine mh_top (y := .long ((nI (n - 1)).toInt64)) (rfl) ?_
  refine lv_iload hx hb dL_law_1250 (lv_at hl 0 rfl) ?_
  refine lv_i2l (v := (nI (n - 1)).toInt64) hx hb dL_law_1252 rfl ?_
  refine W.lcmp hx hb dL_law_1253 ?_
  refine ml_if_eq (tgt := 1259) hB dL_law_1254 (by decide) (fun h_1254 => ?_) (fun h => absurd rfl h)
  refine lv_goto (tgt := 1803) hx hb dL_law_1259 (by decide) ?_
  refine W.widen (k := ce7 + 30) (n := sn7 + 1100) (by omega) (by omega) ?_
  exact kk _ _ _ ⟨hC, ⟨_, _, _, _, _, _, _, _, _, _, _, _, _, _, _, _, _, _, _, _, hR⟩, ⟨_, hO⟩, hTx⟩ hS (lv_sub hl [2, 3, 4, 5, 6] rfl)
