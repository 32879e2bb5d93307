/-! the law, call by call -/
set_option maxRecDepth 100000 in
set_option maxHeartbeats 800000 in
theorem s_frame_t1 {p : Program} {l : Launch} {e : Env} {s : State} {m : MethodId} {args : Array Value} {below : List Frame} {meth : Method} {c : Code} {H : Heap} {locs : List Loc} {ce7 sn7 : Nat} {Q : State → Prop} {g : GG} {b L xb r ob lim : Nat} {xs : Nat → Int32} {i9 : Nat} {ls : Array Slot} {q : Nat → Int32} {n : Nat} {rm sl sv tx : Nat → Int32} {ln : Nat} {zsp : Nat → Int32} {zth : Int32} {zsg : Nat → Int32} {zbg : Nat → Int32} {zwd : Nat → Int32} {zhg : Nat → Int32} {zin : Nat → Int32} {zop : Int32} {zbe : Int32} {zwi : Int32} {zhi : Int32} {zbk : Nat → Int32} {zot : Nat → Int32} {zer : Int32} {zen : Int32} {zpo : Nat → Int32} {zpi : Int32} {zgr : Int32} {zsh : Nat → Int32} {zsn : Int32} {o : Nat → Int64} (hfl : l.stackTraces = false) (hE : LE p s m meth c g b L xs xb r ob lim) (hi : 4 * i9 + 3 < L) (hC : CLS g xb lim q n rm sl sv tx ln H) (hR : ModAt g r q zsp rm (nI n) sl sv tx (nI ln) zth zsg zbg zwd zhg zin zop zbe zwi zhi zbk zot zer zen zpo zpi zgr zsh zsn H) (hO : at_ g H ob (eL g 1 o)) (hTx : TxT tx ln) (hS : va_S (fun q9 => xb ≤ q9) s.heap H locs) (hl : lv_has ls 7 [(0, .ref b), (1, .ref xb), (2, .ref r), (3, .ref ob), (4, .int (nI (4 * i9)))]) (hce7 : ce7 + 30 ≤ 622861) (hsn7 : sn7 + 1100 ≤ 7227521) (x : Int32) (y : Int32) (a1 : xs (4 * i9 + 1) = x) (a2 : xs (4 * i9 + 2) = y) (hx1 : isIx x 3 = false) (kk : ∀ (H1 : Heap) (locs1 : List Loc) (ls1 : Array Slot), LI g xb r ob lim q n rm sl sv tx ln H1 → va_S (fun q9 => xb ≤ q9) s.heap H1 locs1 → lv_has ls1 7 [(0, .ref b), (1, .ref xb), (2, .ref r), (3, .ref ob), (4, .int (nI (4 * i9)))] → W p l e room_1 s m args below meth c H1 locs1 (ce7 + 30) (sn7 + 1100) Q (F0 m 1803 ls1 [])) : W p l e room_1 s m args below meth c H locs ce7 sn7 Q (F0 m 434 ls []) := by
  obtain ⟨hB, hZ9, hX, hbl, hL9, hxs, hr9, hob9, hlm9⟩ := hE
  have hx := hB.x
  have hb := hB.b
  have hbA : ¬ (fun q9 => xb ≤ q9) b := fun y9 => by have y8 : xb ≤ b := y9; omega
  have hW := hC.wf
  have hn14 := hC.n14
  have hl6c := hC.l60
  have hnm5 := hW.2.2.1
  refine lv_aload_n hx hb dL_law_434 rfl (lv_at hl 1 rfl) ?_
  refine lv_aload_n hx hb dL_law_435 rfl (lv_at hl 0 rfl) ?_
  refine lv_iload hx hb dL_law_436 (lv_at hl 4 rfl) ?_
  refine lv_iconst (v := nI 1) hx hb dL_law_438 (by decide) ?_
  refine mn_iadd hB dL_law_439 ?_
  refine va_sld hx hb hX hbl hbA hS (vp_in_nI (by omega) (by omega)) dL_law_440 ?_
  refine mh_top (y := .int x) (by rw [nI_clamp (by omega), a1]) ?_
  refine lv_aload_n hx hb dL_law_441 rfl (lv_at hl 0 rfl) ?_
  refine lv_iload hx hb dL_law_442 (lv_at hl 4 rfl) ?_
  refine lv_iconst (v := nI 2) hx hb dL_law_444 (by decide) ?_
  refine mn_iadd hB dL_law_445 ?_
  refine va_sld hx hb hX hbl hbA hS (vp_in_nI (by omega) (by omega)) dL_law_446 ?_
  refine mh_top (y := .int y) (by rw [nI_clamp (by omega), a2]) ?_
  refine lv_aload_n hx hb dL_law_447 rfl (lv_at hl 3 rfl) ?_
  refine cw_123 (As := [.ref xb, .int x, .int y, .ref ob]) (rest := []) hB (hZ9.at hS (fun _ h9 => h9)) (w_frame_t1 l g H xb lim q n rm sl sv tx ln x y ob o (hC) (hO) (hx1) (⟨by omega, by omega⟩) (hfl)) rfl hl.1 (Nat.le_of_ble_eq_true rfl) dL_law_448 ⟨Nat.le_of_ble_eq_true rfl, Nat.le_of_ble_eq_true rfl⟩ ⟨by show (ce7) + 1 ≤ 622861; omega, by show (sn7) + 6 ≤ 7227521; omega⟩ hS (by have hz9 := hS.1; rintro q9 (h9 | h9) <;> first | exact h9.elim | (have h8 : r ≤ q9 ∧ q9 < r + 16 := h9; show xb ≤ q9; omega) | (have h8 : ((xb ≤ q9 ∧ q9 < xb + 68) ∨ lim ≤ q9) ∨ q9 = ob := h9; show xb ≤ q9; omega) | (have h8 : (xb ≤ q9 ∧ q9 < xb + 68) ∨ lim ≤ q9 := h9; show xb ≤ q9; omega) | (show xb ≤ q9; omega)) (fun v H1 locs hpo hfr hS => ?_)
  obtain ⟨rfl, hC, hO⟩ := hpo
  have hR := hR.keptF hfr (fun q9 h1 h2 y9 => by first | exact y9.elim | (have y8 : ((xb ≤ q9 ∧ q9 < xb + 68) ∨ lim ≤ q9) ∨ q9 = ob := y9; omega) | (have y8 : (xb ≤ q9 ∧ q9 < xb + 68) ∨ lim ≤ q9 := y9; omega))
  generalize H1 = H at hfr hS hR hX hC hO ⊢
  refine W.widen (k := ce7 + 1) (n := sn7 + 6) (by show (ce7) + 1 ≤ ce7 + 1; omega) (by show (sn7) + 6 ≤ sn7 + 6; omega) ?_
  refine lv_istore (lv' := [(5, .int (nI 1)), (0, .ref b), (1, .ref xb), (2, .ref r), (3, .ref ob), (4, .int (nI (4 * i9)))]) hx hb dL_law_451 hl (by decide) rfl (fun ls hl => ?_)
  refine lv_aload_n hx hb dL_law_453 rfl (lv_at hl 3 rfl) ?_
  refine lv_aload_n hx hb dL_law_454 rfl (lv_at hl 1 rfl) ?_
  refine lv_iload hx hb dL_law_455 (lv_at hl 5 rfl) ?_
  refine lv_iconst (v := nI 1) hx hb dL_law_457 (by decide) ?_
  refine mn_iadd hB dL_law_458 ?_
  refine va_sld hx hb hX hbl hbA hS (vp_in_nI (by omega) (by omega)) dL_law_459 ?_
  refine mh_top (y := .int x) (by rw [nI_clamp (by omega), a1]) ?_
  refine lv_aload_n hx hb dL_law_460 rfl (lv_at hl 1 rfl) ?_
  refine lv_iload hx hb dL_law_461 (lv_at hl 5 rfl) ?_
  refine lv_iconst (v := nI 2) hx hb dL_law_463 (by decide) ?_
  refine mn_iadd hB dL_law_464 ?_
  refine va_sld hx hb hX hbl hbA hS (vp_in_nI (by omega) (by omega)) dL_law_465 ?_
  refine mh_top (y := .int y) (by rw [nI_clamp (by omega), a2]) ?_
  refine cl_L_125 (As := [.int x, .int y]) (rest := []) hB (c_X11_frame_t1 l g H r q zsp rm (nI n) sl sv tx (nI ln) zth zsg zbg zwd zhg zin zop zbe zwi zhi zbk zot zer zen zpo zpi zgr zsh zsn x y hR (hx1)) hR.o rfl hl.1 (Nat.le_of_ble_eq_true rfl) dL_law_466 ⟨Nat.le_of_ble_eq_true rfl, Nat.le_of_ble_eq_true rfl⟩ ⟨by show (ce7 + 1) + 0 ≤ 622861; omega, by show (sn7 + 6) + 0 ≤ 7227521; omega⟩ hS (by have hz9 := hS.1; rintro q9 (h9 | h9) <;> first | exact h9.elim | (have h8 : r ≤ q9 ∧ q9 < r + 16 := h9; show xb ≤ q9; omega) | (have h8 : ((xb ≤ q9 ∧ q9 < xb + 68) ∨ lim ≤ q9) ∨ q9 = ob := h9; show xb ≤ q9; omega) | (have h8 : (xb ≤ q9 ∧ q9 < xb + 68) ∨ lim ≤ q9 := h9; show xb ≤ q9; omega) | (show xb ≤ q9; omega)) (fun v H1 locs hpo hfr hS => ?_)
  obtain ⟨rfl, hR⟩ := hpo
  have hC := hC.keptM hfr (fun a9 y9 => by first | exact y9.elim | (have y8 : r ≤ a9 ∧ a9 < r + 16 := y9; omega))
  have hO := Fr.keep hfr hO (fun y9 => by first | exact y9.elim | (have y8 : r ≤ ob ∧ ob < r + 16 := y9; omega) | (have y8 : (xb ≤ ob ∧ ob < xb + 68) ∨ lim ≤ ob := y9; omega))
  generalize H1 = H at hfr hS hX hC hO hR ⊢
  refine W.widen (k := ce7 + 1) (n := sn7 + 6) (by show (ce7 + 1) + 0 ≤ ce7 + 1; omega) (by show (sn7 + 6) + 0 ≤ sn7 + 6; omega) ?_
  refine lv_istore (lv' := [(6, .int (nI 0)), (5, .int (nI 1)), (0, .ref b), (1, .ref xb), (2, .ref r), (3, .ref ob), (4, .int (nI (4 * i9)))]) hx hb dL_law_469 hl (by decide) rfl (fun ls hl => ?_)
  refine lv_aload_n hx hb dL_law_471 rfl (lv_at hl 4 rfl) ?_
  refine cl_L_102 (As := []) (rest := []) hB (c_X11_thrown l g H r q zsp rm (nI n) sl sv tx (nI ln) (nI 1) zsg zbg zwd zhg zin zop zbe zwi zhi zbk zot zer zen zpo zpi zgr zsh zsn hR) hR.o rfl hl.1 (Nat.le_of_ble_eq_true rfl) dL_law_472 ⟨Nat.le_of_ble_eq_true rfl, Nat.le_of_ble_eq_true rfl⟩ ⟨by show (ce7 + 1) + 0 ≤ 622861; omega, by show (sn7 + 6) + 0 ≤ 7227521; omega⟩ hS (by have hz9 := hS.1; rintro q9 (h9 | h9) <;> first | exact h9.elim | (have h8 : r ≤ q9 ∧ q9 < r + 16 := h9; show xb ≤ q9; omega) | (have h8 : ((xb ≤ q9 ∧ q9 < xb + 68) ∨ lim ≤ q9) ∨ q9 = ob := h9; show xb ≤ q9; omega) | (have h8 : (xb ≤ q9 ∧ q9 < xb + 68) ∨ lim ≤ q9 := h9; show xb ≤ q9; omega) | (show xb ≤ q9; omega)) (fun v H1 locs hpo hfr hS => ?_)
  obtain ⟨rfl, rfl⟩ := hpo
  refine W.widen (k := ce7 + 1) (n := sn7 + 6) (by show (ce7 + 1) + 0 ≤ ce7 + 1; omega) (by show (sn7 + 6) + 0 ≤ sn7 + 6; omega) ?_
  refine lv_iload hx hb dL_law_475 (lv_at hl 1 rfl) ?_
  refine lv_icmp_eq (tgt := 482) hx hb dL_law_477 (by decide) (fun h_477 => ?_) (fun h9 => absurd rfl h9)
  refine lv_iload hx hb dL_law_482 (lv_at hl 1 rfl) ?_
  refine mn_if_ne (tgt := 499) hB dL_law_484 (by decide) (by omega) (fun h_484 => ?_) (fun h => by exfalso; omega)
  refine lv_goto (tgt := 1803) hx hb dL_law_499 (by decide) ?_
  refine W.widen (k := ce7 + 30) (n := sn7 + 1100) (by omega) (by omega) ?_
  exact kk _ _ _ ⟨hC, ⟨_, _, _, _, _, _, _, _, _, _, _, _, _, _, _, _, _, _, _, _, hR⟩, ⟨_, hO⟩, hTx⟩ hS (lv_sub hl [2, 3, 4, 5, 6] rfl)

set_option maxRecDepth 100000 in
set_option maxHeartbeats 800000 in
theorem s_frame_t2 {p : Program} {l : Launch} {e : Env} {s : State} {m : MethodId} {args : Array Value} {below : List Frame} {meth : Method} {c : Code} {H : Heap} {locs : List Loc} {ce7 sn7 : Nat} {Q : State → Prop} {g : GG} {b L xb r ob lim : Nat} {xs : Nat → Int32} {i9 : Nat} {ls : Array Slot} {q : Nat → Int32} {n : Nat} {rm sl sv tx : Nat → Int32} {ln : Nat} {zsp : Nat → Int32} {zth : Int32} {zsg : Nat → Int32} {zbg : Nat → Int32} {zwd : Nat → Int32} {zhg : Nat → Int32} {zin : Nat → Int32} {zop : Int32} {zbe : Int32} {zwi : Int32} {zhi : Int32} {zbk : Nat → Int32} {zot : Nat → Int32} {zer : Int32} {zen : Int32} {zpo : Nat → Int32} {zpi : Int32} {zgr : Int32} {zsh : Nat → Int32} {zsn : Int32} {o : Nat → Int64} (hfl : l.stackTraces = false) (hE : LE p s m meth c g b L xs xb r ob lim) (hi : 4 * i9 + 3 < L) (hC : CLS g xb lim q n rm sl sv tx ln H) (hR : ModAt g r q zsp rm (nI n) sl sv tx (nI ln) zth zsg zbg zwd zhg zin zop zbe zwi zhi zbk zot zer zen zpo zpi zgr zsh zsn H) (hO : at_ g H ob (eL g 1 o)) (hTx : TxT tx ln) (hS : va_S (fun q9 => xb ≤ q9) s.heap H locs) (hl : lv_has ls 7 [(0, .ref b), (1, .ref xb), (2, .ref r), (3, .ref ob), (4, .int (nI (4 * i9)))]) (hce7 : ce7 + 30 ≤ 622861) (hsn7 : sn7 + 1100 ≤ 7227521) (f : Nat) (y : Int32) (a1 : xs (4 * i9 + 1) = nI f) (a2 : xs (4 * i9 + 2) = y) (hf : f < 3) (hx1 : isIx y 7 = false) (kk : ∀ (H1 : Heap) (locs1 : List Loc) (ls1 : Array Slot), LI g xb r ob lim q n rm sl sv tx ln H1 → va_S (fun q9 => xb ≤ q9) s.heap H1 locs1 → lv_has ls1 7 [(0, .ref b), (1, .ref xb), (2, .ref r), (3, .ref ob), (4, .int (nI (4 * i9)))] → W p l e room_1 s m args below meth c H1 locs1 (ce7 + 30) (sn7 + 1100) Q (F0 m 1803 ls1 [])) : W p l e room_1 s m args below meth c H locs ce7 sn7 Q (F0 m 434 ls []) := by
  obtain ⟨hB, hZ9, hX, hbl, hL9, hxs, hr9, hob9, hlm9⟩ := hE
  have hx := hB.x
  have hb := hB.b
  have hbA : ¬ (fun q9 => xb ≤ q9) b := fun y9 => by have y8 : xb ≤ b := y9; omega
  have hW := hC.wf
  have hn14 := hC.n14
  have hl6c := hC.l60
  have hnm5 := hW.2.2.1
  refine lv_aload_n hx hb dL_law_434 rfl (lv_at hl 1 rfl) ?_
  refine lv_aload_n hx hb dL_law_435 rfl (lv_at hl 0 rfl) ?_
  refine lv_iload hx hb dL_law_436 (lv_at hl 4 rfl) ?_
  refine lv_iconst (v := nI 1) hx hb dL_law_438 (by decide) ?_
  refine mn_iadd hB dL_law_439 ?_
  refine va_sld hx hb hX hbl hbA hS (vp_in_nI (by omega) (by omega)) dL_law_440 ?_
  refine mh_top (y := .int (nI f)) (by rw [nI_clamp (by omega), a1]) ?_
  refine lv_aload_n hx hb dL_law_441 rfl (lv_at hl 0 rfl) ?_
  refine lv_iload hx hb dL_law_442 (lv_at hl 4 rfl) ?_
  refine lv_iconst (v := nI 2) hx hb dL_law_444 (by decide) ?_
  refine mn_iadd hB dL_law_445 ?_
  refine va_sld hx hb hX hbl hbA hS (vp_in_nI (by omega) (by omega)) dL_law_446 ?_
  refine mh_top (y := .int y) (by rw [nI_clamp (by omega), a2]) ?_
  refine lv_aload_n hx hb dL_law_447 rfl (lv_at hl 3 rfl) ?_
  refine cw_123 (As := [.ref xb, .int (nI f), .int y, .ref ob]) (rest := []) hB (hZ9.at hS (fun _ h9 => h9)) (w_frame_t2 l g H xb lim q n rm sl sv tx ln f y ob o (hC) (hO) (hf) (hx1) (⟨by omega, by omega⟩) (hfl)) rfl hl.1 (Nat.le_of_ble_eq_true rfl) dL_law_448 ⟨Nat.le_of_ble_eq_true rfl, Nat.le_of_ble_eq_true rfl⟩ ⟨by show (ce7) + 1 ≤ 622861; omega, by show (sn7) + 6 ≤ 7227521; omega⟩ hS (by have hz9 := hS.1; rintro q9 (h9 | h9) <;> first | exact h9.elim | (have h8 : r ≤ q9 ∧ q9 < r + 16 := h9; show xb ≤ q9; omega) | (have h8 : ((xb ≤ q9 ∧ q9 < xb + 68) ∨ lim ≤ q9) ∨ q9 = ob := h9; show xb ≤ q9; omega) | (have h8 : (xb ≤ q9 ∧ q9 < xb + 68) ∨ lim ≤ q9 := h9; show xb ≤ q9; omega) | (show xb ≤ q9; omega)) (fun v H1 locs hpo hfr hS => ?_)
  obtain ⟨rfl, hC, hO⟩ := hpo
  have hR := hR.keptF hfr (fun q9 h1 h2 y9 => by first | exact y9.elim | (have y8 : ((xb ≤ q9 ∧ q9 < xb + 68) ∨ lim ≤ q9) ∨ q9 = ob := y9; omega) | (have y8 : (xb ≤ q9 ∧ q9 < xb + 68) ∨ lim ≤ q9 := y9; omega))
  generalize H1 = H at hfr hS hR hX hC hO ⊢
  refine W.widen (k := ce7 + 1) (n := sn7 + 6) (by show (ce7) + 1 ≤ ce7 + 1; omega) (by show (sn7) + 6 ≤ sn7 + 6; omega) ?_
  refine lv_istore (lv' := [(5, .int (nI 2)), (0, .ref b), (1, .ref xb), (2, .ref r), (3, .ref ob), (4, .int (nI (4 * i9)))]) hx hb dL_law_451 hl (by decide) rfl (fun ls hl => ?_)
  refine lv_aload_n hx hb dL_law_453 rfl (lv_at hl 3 rfl) ?_
  refine lv_aload_n hx hb dL_law_454 rfl (lv_at hl 1 rfl) ?_
  refine lv_iload hx hb dL_law_455 (lv_at hl 5 rfl) ?_
  refine lv_iconst (v := nI 1) hx hb dL_law_457 (by decide) ?_
  refine mn_iadd hB dL_law_458 ?_
  refine va_sld hx hb hX hbl hbA hS (vp_in_nI (by omega) (by omega)) dL_law_459 ?_
  refine mh_top (y := .int (nI f)) (by rw [nI_clamp (by omega), a1]) ?_
  refine lv_aload_n hx hb dL_law_460 rfl (lv_at hl 1 rfl) ?_
  refine lv_iload hx hb dL_law_461 (lv_at hl 5 rfl) ?_
  refine lv_iconst (v := nI 2) hx hb dL_law_463 (by decide) ?_
  refine mn_iadd hB dL_law_464 ?_
  refine va_sld hx hb hX hbl hbA hS (vp_in_nI (by omega) (by omega)) dL_law_465 ?_
  refine mh_top (y := .int y) (by rw [nI_clamp (by omega), a2]) ?_
  refine cl_L_125 (As := [.int (nI f), .int y]) (rest := []) hB (c_X11_frame_t2 l g H r q zsp rm (nI n) sl sv tx (nI ln) zth zsg zbg zwd zhg zin zop zbe zwi zhi zbk zot zer zen zpo zpi zgr zsh zsn f y hR (hf) (hx1)) hR.o rfl hl.1 (Nat.le_of_ble_eq_true rfl) dL_law_466 ⟨Nat.le_of_ble_eq_true rfl, Nat.le_of_ble_eq_true rfl⟩ ⟨by show (ce7 + 1) + 0 ≤ 622861; omega, by show (sn7 + 6) + 0 ≤ 7227521; omega⟩ hS (by have hz9 := hS.1; rintro q9 (h9 | h9) <;> first | exact h9.elim | (have h8 : r ≤ q9 ∧ q9 < r + 16 := h9; show xb ≤ q9; omega) | (have h8 : ((xb ≤ q9 ∧ q9 < xb + 68) ∨ lim ≤ q9) ∨ q9 = ob := h9; show xb ≤ q9; omega) | (have h8 : (xb ≤ q9 ∧ q9 < xb + 68) ∨ lim ≤ q9 := h9; show xb ≤ q9; omega) | (show xb ≤ q9; omega)) (fun v H1 locs hpo hfr hS => ?_)
  obtain ⟨rfl, hR⟩ := hpo
  have hC := hC.keptM hfr (fun a9 y9 => by first | exact y9.elim | (have y8 : r ≤ a9 ∧ a9 < r + 16 := y9; omega))
  have hO := Fr.keep hfr hO (fun y9 => by first | exact y9.elim | (have y8 : r ≤ ob ∧ ob < r + 16 := y9; omega) | (have y8 : (xb ≤ ob ∧ ob < xb + 68) ∨ lim ≤ ob := y9; omega))
  generalize H1 = H at hfr hS hX hC hO hR ⊢
  refine W.widen (k := ce7 + 1) (n := sn7 + 6) (by show (ce7 + 1) + 0 ≤ ce7 + 1; omega) (by show (sn7 + 6) + 0 ≤ sn7 + 6; omega) ?_
  refine lv_istore (lv' := [(6, .int (nI 0)), (5, .int (nI 2)), (0, .ref b), (1, .ref xb), (2, .ref r), (3, .ref ob), (4, .int (nI (4 * i9)))]) hx hb dL_law_469 hl (by decide) rfl (fun ls hl => ?_)
  refine lv_aload_n hx hb dL_law_471 rfl (lv_at hl 4 rfl) ?_
  refine cl_L_102 (As := []) (rest := []) hB (c_X11_thrown l g H r q zsp rm (nI n) sl sv tx (nI ln) (nI 2) zsg zbg zwd zhg zin zop zbe zwi zhi zbk zot zer zen zpo zpi zgr zsh zsn hR) hR.o rfl hl.1 (Nat.le_of_ble_eq_true rfl) dL_law_472 ⟨Nat.le_of_ble_eq_true rfl, Nat.le_of_ble_eq_true rfl⟩ ⟨by show (ce7 + 1) + 0 ≤ 622861; omega, by show (sn7 + 6) + 0 ≤ 7227521; omega⟩ hS (by have hz9 := hS.1; rintro q9 (h9 | h9) <;> first | exact h9.elim | (have h8 : r ≤ q9 ∧ q9 < r + 16 := h9; show xb ≤ q9; omega) | (have h8 : ((xb ≤ q9 ∧ q9 < xb + 68) ∨ lim ≤ q9) ∨ q9 = ob := h9; show xb ≤ q9; omega) | (have h8 : (xb ≤ q9 ∧ q9 < xb + 68) ∨ lim ≤ q9 := h9; show xb ≤ q9; omega) | (show xb ≤ q9; omega)) (fun v H1 locs hpo hfr hS => ?_)
  obtain ⟨rfl, rfl⟩ := hpo
  refine W.widen (k := ce7 + 1) (n := sn7 + 6) (by show (ce7 + 1) + 0 ≤ ce7 + 1; omega) (by show (sn7 + 6) + 0 ≤ sn7 + 6; omega) ?_
  refine lv_iload hx hb dL_law_475 (lv_at hl 1 rfl) ?_
  refine lv_icmp_eq (tgt := 482) hx hb dL_law_477 (by decide) (fun h_477 => ?_) (fun h9 => absurd rfl h9)
  refine lv_iload hx hb dL_law_482 (lv_at hl 1 rfl) ?_
  refine mn_if_ne (tgt := 499) hB dL_law_484 (by decide) (by omega) (fun h_484 => ?_) (fun h => by exfalso; omega)
  refine lv_goto (tgt := 1803) hx hb dL_law_499 (by decide) ?_
  refine W.widen (k := ce7 + 30) (n := sn7 + 1100) (by omega) (by omega) ?_
  exact kk _ _ _ ⟨hC, ⟨_, _, _, _, _, _, _, _, _, _, _, _, _, _, _, _, _, _, _, _, hR⟩, ⟨_, hO⟩, hTx⟩ hS (lv_sub hl [2, 3, 4, 5, 6] rfl)

set_option maxRecDepth 100000 in
set_option maxHeartbeats 800000 in
theorem s_frame_w0 {p : Program} {l : Launch} {e : Env} {s : State} {m : MethodId} {args : Array Value} {below : List Frame} {meth : Method} {c : Code} {H : Heap} {locs : List Loc} {ce7 sn7 : Nat} {Q : State → Prop} {g : GG} {b L xb r ob lim : Nat} {xs : Nat → Int32} {i9 : Nat} {ls : Array Slot} {q : Nat → Int32} {n : Nat} {rm sl sv tx : Nat → Int32} {ln : Nat} {zsp : Nat → Int32} {zth : Int32} {zsg : Nat → Int32} {zbg : Nat → Int32} {zwd : Nat → Int32} {zhg : Nat → Int32} {zin : Nat → Int32} {zop : Int32} {zbe : Int32} {zwi : Int32} {zhi : Int32} {zbk : Nat → Int32} {zot : Nat → Int32} {zer : Int32} {zen : Int32} {zpo : Nat → Int32} {zpi : Int32} {zgr : Int32} {zsh : Nat → Int32} {zsn : Int32} {o : Nat → Int64} (hfl : l.stackTraces = false) (hE : LE p s m meth c g b L xs xb r ob lim) (hi : 4 * i9 + 3 < L) (hC : CLS g xb lim q n rm sl sv tx ln H) (hR : ModAt g r q zsp rm (nI n) sl sv tx (nI ln) zth zsg zbg zwd zhg zin zop zbe zwi zhi zbk zot zer zen zpo zpi zgr zsh zsn H) (hO : at_ g H ob (eL g 1 o)) (hTx : TxT tx ln) (hS : va_S (fun q9 => xb ≤ q9) s.heap H locs) (hl : lv_has ls 7 [(0, .ref b), (1, .ref xb), (2, .ref r), (3, .ref ob), (4, .int (nI (4 * i9)))]) (hce7 : ce7 + 30 ≤ 622861) (hsn7 : sn7 + 1100 ≤ 7227521) (f : Nat) (a1 : xs (4 * i9 + 1) = nI f) (a2 : xs (4 * i9 + 2) = nI 0) (hf : f < 3) (kk : ∀ (H1 : Heap) (locs1 : List Loc) (ls1 : Array Slot), LI g xb r ob lim q n rm sl sv tx ln H1 → va_S (fun q9 => xb ≤ q9) s.heap H1 locs1 → lv_has ls1 7 [(0, .ref b), (1, .ref xb), (2, .ref r), (3, .ref ob), (4, .int (nI (4 * i9)))] → W p l e room_1 s m args below meth c H1 locs1 (ce7 + 30) (sn7 + 1100) Q (F0 m 1803 ls1 [])) : W p l e room_1 s m args below meth c H locs ce7 sn7 Q (F0 m 434 ls []) := by
  obtain ⟨hB, hZ9, hX, hbl, hL9, hxs, hr9, hob9, hlm9⟩ := hE
  have hx := hB.x
  have hb := hB.b
  have hbA : ¬ (fun q9 => xb ≤ q9) b := fun y9 => by have y8 : xb ≤ b := y9; omega
  have hW := hC.wf
  have hn14 := hC.n14
  have hl6c := hC.l60
  have hnm5 := hW.2.2.1
  refine lv_aload_n hx hb dL_law_434 rfl (lv_at hl 1 rfl) ?_
  refine lv_aload_n hx hb dL_law_435 rfl (lv_at hl 0 rfl) ?_
  refine lv_iload hx hb dL_law_436 (lv_at hl 4 rfl) ?_
  refine lv_iconst (v := nI 1) hx hb dL_law_438 (by decide) ?_
  refine mn_iadd hB dL_law_439 ?_
  refine va_sld hx hb hX hbl hbA hS (vp_in_nI (by omega) (by omega)) dL_law_440 ?_
  refine mh_top (y := .int (nI f)) (by rw [nI_clamp (by omega), a1]) ?_
  refine lv_aload_n hx hb dL_law_441 rfl (lv_at hl 0 rfl) ?_
  refine lv_iload hx hb dL_law_442 (lv_at hl 4 rfl) ?_
  refine lv_iconst (v := nI 2) hx hb dL_law_444 (by decide) ?_
  refine mn_iadd hB dL_law_445 ?_
  refine va_sld hx hb hX hbl hbA hS (vp_in_nI (by omega) (by omega)) dL_law_446 ?_
  refine mh_top (y := .int (nI 0)) (by rw [nI_clamp (by omega), a2]) ?_
  refine lv_aload_n hx hb dL_law_447 rfl (lv_at hl 3 rfl) ?_
  refine cw_123 (As := [.ref xb, .int (nI f), .int (nI 0), .ref ob]) (rest := []) hB (hZ9.at hS (fun _ h9 => h9)) (w_frame_w0 l g H xb lim q n rm sl sv tx ln f ob o (hC) (hO) (hf) (⟨by omega, by omega⟩) (hfl)) rfl hl.1 (Nat.le_of_ble_eq_true rfl) dL_law_448 ⟨Nat.le_of_ble_eq_true rfl, Nat.le_of_ble_eq_true rfl⟩ ⟨by show (ce7) + 0 ≤ 622861; omega, by show (sn7) + 0 ≤ 7227521; omega⟩ hS (by have hz9 := hS.1; rintro q9 (h9 | h9) <;> first | exact h9.elim | (have h8 : r ≤ q9 ∧ q9 < r + 16 := h9; show xb ≤ q9; omega) | (have h8 : ((xb ≤ q9 ∧ q9 < xb + 68) ∨ lim ≤ q9) ∨ q9 = ob := h9; show xb ≤ q9; omega) | (have h8 : (xb ≤ q9 ∧ q9 < xb + 68) ∨ lim ≤ q9 := h9; show xb ≤ q9; omega) | (show xb ≤ q9; omega)) (fun v H1 locs hpo hfr hS => ?_)
  obtain ⟨rfl, hC, hO⟩ := hpo
  have hR := hR.keptF hfr (fun q9 h1 h2 y9 => by first | exact y9.elim | (have y8 : ((xb ≤ q9 ∧ q9 < xb + 68) ∨ lim ≤ q9) ∨ q9 = ob := y9; omega) | (have y8 : (xb ≤ q9 ∧ q9 < xb + 68) ∨ lim ≤ q9 := y9; omega))
  generalize H1 = H at hfr hS hR hX hC hO ⊢
  refine W.widen (k := ce7) (n := sn7) (by show (ce7) + 0 ≤ ce7; omega) (by show (sn7) + 0 ≤ sn7; omega) ?_
  refine lv_istore (lv' := [(5, .int (nI 0)), (0, .ref b), (1, .ref xb), (2, .ref r), (3, .ref ob), (4, .int (nI (4 * i9)))]) hx hb dL_law_451 hl (by decide) rfl (fun ls hl => ?_)
  refine lv_aload_n hx hb dL_law_453 rfl (lv_at hl 3 rfl) ?_
  refine lv_aload_n hx hb dL_law_454 rfl (lv_at hl 1 rfl) ?_
  refine lv_iload hx hb dL_law_455 (lv_at hl 5 rfl) ?_
  refine lv_iconst (v := nI 1) hx hb dL_law_457 (by decide) ?_
  refine mn_iadd hB dL_law_458 ?_
  refine va_sld hx hb hX hbl hbA hS (vp_in_nI (by omega) (by omega)) dL_law_459 ?_
  refine mh_top (y := .int (nI f)) (by rw [nI_clamp (by omega), a1]) ?_
  refine lv_aload_n hx hb dL_law_460 rfl (lv_at hl 1 rfl) ?_
  refine lv_iload hx hb dL_law_461 (lv_at hl 5 rfl) ?_
  refine lv_iconst (v := nI 2) hx hb dL_law_463 (by decide) ?_
  refine mn_iadd hB dL_law_464 ?_
  refine va_sld hx hb hX hbl hbA hS (vp_in_nI (by omega) (by omega)) dL_law_465 ?_
  refine mh_top (y := .int (nI 0)) (by rw [nI_clamp (by omega), a2]) ?_
  refine cl_L_125 (As := [.int (nI f), .int (nI 0)]) (rest := []) hB (c_X11_frame_v l g H r q zsp rm (nI n) sl sv tx (nI ln) zth zsg zbg zwd zhg zin zop zbe zwi zhi zbk zot zer zen zpo zpi zgr zsh zsn f 0 hR (by first | assumption | omega) (hf) (by omega) (by omega)) hR.o rfl hl.1 (Nat.le_of_ble_eq_true rfl) dL_law_466 ⟨Nat.le_of_ble_eq_true rfl, Nat.le_of_ble_eq_true rfl⟩ ⟨by show (ce7) + 0 ≤ 622861; omega, by show (sn7) + 0 ≤ 7227521; omega⟩ hS (by have hz9 := hS.1; rintro q9 (h9 | h9) <;> first | exact h9.elim | (have h8 : r ≤ q9 ∧ q9 < r + 16 := h9; show xb ≤ q9; omega) | (have h8 : ((xb ≤ q9 ∧ q9 < xb + 68) ∨ lim ≤ q9) ∨ q9 = ob := h9; show xb ≤ q9; omega) | (have h8 : (xb ≤ q9 ∧ q9 < xb + 68) ∨ lim ≤ q9 := h9; show xb ≤ q9; omega) | (show xb ≤ q9; omega)) (fun v H1 locs hpo hfr hS => ?_)
  obtain ⟨rfl, hR⟩ := hpo
  have hC := hC.keptM hfr (fun a9 y9 => by first | exact y9.elim | (have y8 : r ≤ a9 ∧ a9 < r + 16 := y9; omega))
  have hO := Fr.keep hfr hO (fun y9 => by first | exact y9.elim | (have y8 : r ≤ ob ∧ ob < r + 16 := y9; omega) | (have y8 : (xb ≤ ob ∧ ob < xb + 68) ∨ lim ≤ ob := y9; omega))
  generalize H1 = H at hfr hS hX hC hO hR ⊢
  refine W.widen (k := ce7) (n := sn7) (by show (ce7) + 0 ≤ ce7; omega) (by show (sn7) + 0 ≤ sn7; omega) ?_
  refine lv_istore (lv' := [(6, .int (q (74 + 264 * f + 0))), (5, .int (nI 0)), (0, .ref b), (1, .ref xb), (2, .ref r), (3, .ref ob), (4, .int (nI (4 * i9)))]) hx hb dL_law_469 hl (by decide) rfl (fun ls hl => ?_)
  refine lv_aload_n hx hb dL_law_471 rfl (lv_at hl 4 rfl) ?_
  refine cl_L_102 (As := []) (rest := []) hB (c_X11_thrown l g H r q zsp rm (nI n) sl sv tx (nI ln) (nI 0) zsg zbg zwd zhg zin zop zbe zwi zhi zbk zot zer zen zpo zpi zgr zsh zsn hR) hR.o rfl hl.1 (Nat.le_of_ble_eq_true rfl) dL_law_472 ⟨Nat.le_of_ble_eq_true rfl, Nat.le_of_ble_eq_true rfl⟩ ⟨by show (ce7) + 0 ≤ 622861; omega, by show (sn7) + 0 ≤ 7227521; omega⟩ hS (by have hz9 := hS.1; rintro q9 (h9 | h9) <;> first | exact h9.elim | (have h8 : r ≤ q9 ∧ q9 < r + 16 := h9; show xb ≤ q9; omega) | (have h8 : ((xb ≤ q9 ∧ q9 < xb + 68) ∨ lim ≤ q9) ∨ q9 = ob := h9; show xb ≤ q9; omega) | (have h8 : (xb ≤ q9 ∧ q9 < xb + 68) ∨ lim ≤ q9 := h9; show xb ≤ q9; omega) | (show xb ≤ q9; omega)) (fun v H1 locs hpo hfr hS => ?_)
  obtain ⟨rfl, rfl⟩ := hpo
  refine W.widen (k := ce7) (n := sn7) (by show (ce7) + 0 ≤ ce7; omega) (by show (sn7) + 0 ≤ sn7; omega) ?_
  refine lv_iload hx hb dL_law_475 (lv_at hl 1 rfl) ?_
  refine lv_icmp_eq (tgt := 482) hx hb dL_law_477 (by decide) (fun h_477 => ?_) (fun h9 => absurd rfl h9)
  refine lv_iload hx hb dL_law_482 (lv_at hl 1 rfl) ?_
  refine mn_if_ne (tgt := 499) hB dL_law_484 (by decide) (by omega) (fun h => by exfalso; omega) (fun h_484 => ?_)
  refine lv_aload_n hx hb dL_law_487 rfl (lv_at hl 5 rfl) ?_
  refine lv_iconst (v := nI 0) hx hb dL_law_488 (by decide) ?_
  refine mn_lald hB hO (by omega) (by omega) dL_law_489 ?_
  refine mh_top (y := .long ((q (74 + 264 * f + 0)).toInt64)) (rfl) ?_
  refine lv_iload hx hb dL_law_490 (lv_at hl 0 rfl) ?_
  refine lv_i2l (v := (q (74 + 264 * f + 0)).toInt64) hx hb dL_law_492 rfl ?_
  refine W.lcmp hx hb dL_law_493 ?_
  refine ml_if_eq (tgt := 499) hB dL_law_494 (by decide) (fun h_494 => ?_) (fun h => absurd rfl h)
  refine lv_goto (tgt := 1803) hx hb dL_law_499 (by decide) ?_
  refine W.widen (k := ce7 + 30) (n := sn7 + 1100) (by omega) (by omega) ?_
  exact kk _ _ _ ⟨hC, ⟨_, _, _, _, _, _, _, _, _, _, _, _, _, _, _, _, _, _, _, _, hR⟩, ⟨_, hO⟩, hTx⟩ hS (lv_sub hl [2, 3, 4, 5, 6] rfl)

set_option maxRecDepth 100000 in
set_option maxHeartbeats 800000 in
theorem s_frame_w1 {p : Program} {l : Launch} {e : Env} {s : State} {m : MethodId} {args : Array Value} {below : List Frame} {meth : Method} {c : Code} {H : Heap} {locs : List Loc} {ce7 sn7 : Nat} {Q : State → Prop} {g : GG} {b L xb r ob lim : Nat} {xs : Nat → Int32} {i9 : Nat} {ls : Array Slot} {q : Nat → Int32} {n : Nat} {rm sl sv tx : Nat → Int32} {ln : Nat} {zsp : Nat → Int32} {zth : Int32} {zsg : Nat → Int32} {zbg : Nat → Int32} {zwd : Nat → Int32} {zhg : Nat → Int32} {zin : Nat → Int32} {zop : Int32} {zbe : Int32} {zwi : Int32} {zhi : Int32} {zbk : Nat → Int32} {zot : Nat → Int32} {zer : Int32} {zen : Int32} {zpo : Nat → Int32} {zpi : Int32} {zgr : Int32} {zsh : Nat → Int32} {zsn : Int32} {o : Nat → Int64} (hfl : l.stackTraces = false) (hE : LE p s m meth c g b L xs xb r ob lim) (hi : 4 * i9 + 3 < L) (hC : CLS g xb lim q n rm sl sv tx ln H) (hR : ModAt g r q zsp rm (nI n) sl sv tx (nI ln) zth zsg zbg zwd zhg zin zop zbe zwi zhi zbk zot zer zen zpo zpi zgr zsh zsn H) (hO : at_ g H ob (eL g 1 o)) (hTx : TxT tx ln) (hS : va_S (fun q9 => xb ≤ q9) s.heap H locs) (hl : lv_has ls 7 [(0, .ref b), (1, .ref xb), (2, .ref r), (3, .ref ob), (4, .int (nI (4 * i9)))]) (hce7 : ce7 + 30 ≤ 622861) (hsn7 : sn7 + 1100 ≤ 7227521) (f : Nat) (a1 : xs (4 * i9 + 1) = nI f) (a2 : xs (4 * i9 + 2) = nI 1) (hf : f < 3) (kk : ∀ (H1 : Heap) (locs1 : List Loc) (ls1 : Array Slot), LI g xb r ob lim q n rm sl sv tx ln H1 → va_S (fun q9 => xb ≤ q9) s.heap H1 locs1 → lv_has ls1 7 [(0, .ref b), (1, .ref xb), (2, .ref r), (3, .ref ob), (4, .int (nI (4 * i9)))] → W p l e room_1 s m args below meth c H1 locs1 (ce7 + 30) (sn7 + 1100) Q (F0 m 1803 ls1 [])) : W p l e room_1 s m args below meth c H locs ce7 sn7 Q (F0 m 434 ls []) := by
  obtain ⟨hB, hZ9, hX, hbl, hL9, hxs, hr9, hob9, hlm9⟩ := hE
  have hx := hB.x
  have hb := hB.b
  have hbA : ¬ (fun q9 => xb ≤ q9) b := fun y9 => by have y8 : xb ≤ b := y9; omega
  have hW := hC.wf
  have hn14 := hC.n14
  have hl6c := hC.l60
  have hnm5 := hW.2.2.1
  refine lv_aload_n hx hb dL_law_434 rfl (lv_at hl 1 rfl) ?_
  refine lv_aload_n hx hb dL_law_435 rfl (lv_at hl 0 rfl) ?_
  refine lv_iload hx hb dL_law_436 (lv_at hl 4 rfl) ?_
  refine lv_iconst (v := nI 1) hx hb dL_law_438 (by decide) ?_
  refine mn_iadd hB dL_law_439 ?_
  refine va_sld hx hb hX hbl hbA hS (vp_in_nI (by omega) (by omega)) dL_law_440 ?_
  refine mh_top (y := .int (nI f)) (by rw [nI_clamp (by omega), a1]) ?_
  refine lv_aload_n hx hb dL_law_441 rfl (lv_at hl 0 rfl) ?_
  refine lv_iload hx hb dL_law_442 (lv_at hl 4 rfl) ?_
  refine lv_iconst (v := nI 2) hx hb dL_law_444 (by decide) ?_
  refine mn_iadd hB dL_law_445 ?_
  refine va_sld hx hb hX hbl hbA hS (vp_in_nI (by omega) (by omega)) dL_law_446 ?_
  refine mh_top (y := .int (nI 1)) (by rw [nI_clamp (by omega), a2]) ?_
  refine lv_aload_n hx hb dL_law_447 rfl (lv_at hl 3 rfl) ?_
  refine cw_123 (As := [.ref xb, .int (nI f), .int (nI 1), .ref ob]) (rest := []) hB (hZ9.at hS (fun _ h9 => h9)) (w_frame_w1 l g H xb lim q n rm sl sv tx ln f ob o (hC) (hO) (hf) (⟨by omega, by omega⟩) (hfl)) rfl hl.1 (Nat.le_of_ble_eq_true rfl) dL_law_448 ⟨Nat.le_of_ble_eq_true rfl, Nat.le_of_ble_eq_true rfl⟩ ⟨by show (ce7) + 0 ≤ 622861; omega, by show (sn7) + 0 ≤ 7227521; omega⟩ hS (by have hz9 := hS.1; rintro q9 (h9 | h9) <;> first | exact h9.elim | (have h8 : r ≤ q9 ∧ q9 < r + 16 := h9; show xb ≤ q9; omega) | (have h8 : ((xb ≤ q9 ∧ q9 < xb + 68) ∨ lim ≤ q9) ∨ q9 = ob := h9; show xb ≤ q9; omega) | (have h8 : (xb ≤ q9 ∧ q9 < xb + 68) ∨ lim ≤ q9 := h9; show xb ≤ q9; omega) | (show xb ≤ q9; omega)) (fun v H1 locs hpo hfr hS => ?_)
  obtain ⟨rfl, hC, hO⟩ := hpo
  have hR := hR.keptF hfr (fun q9 h1 h2 y9 => by first | exact y9.elim | (have y8 : ((xb ≤ q9 ∧ q9 < xb + 68) ∨ lim ≤ q9) ∨ q9 = ob := y9; omega) | (have y8 : (xb ≤ q9 ∧ q9 < xb + 68) ∨ lim ≤ q9 := y9; omega))
  generalize H1 = H at hfr hS hR hX hC hO ⊢
  refine W.widen (k := ce7) (n := sn7) (by show (ce7) + 0 ≤ ce7; omega) (by show (sn7) + 0 ≤ sn7; omega) ?_
  refine lv_istore (lv' := [(5, .int (nI 0)), (0, .ref b), (1, .ref xb), (2, .ref r), (3, .ref ob), (4, .int (nI (4 * i9)))]) hx hb dL_law_451 hl (by decide) rfl (fun ls hl => ?_)
  refine lv_aload_n hx hb dL_law_453 rfl (lv_at hl 3 rfl) ?_
  refine lv_aload_n hx hb dL_law_454 rfl (lv_at hl 1 rfl) ?_
  refine lv_iload hx hb dL_law_455 (lv_at hl 5 rfl) ?_
  refine lv_iconst (v := nI 1) hx hb dL_law_457 (by decide) ?_
  refine mn_iadd hB dL_law_458 ?_
  refine va_sld hx hb hX hbl hbA hS (vp_in_nI (by omega) (by omega)) dL_law_459 ?_
  refine mh_top (y := .int (nI f)) (by rw [nI_clamp (by omega), a1]) ?_
  refine lv_aload_n hx hb dL_law_460 rfl (lv_at hl 1 rfl) ?_
  refine lv_iload hx hb dL_law_461 (lv_at hl 5 rfl) ?_
  refine lv_iconst (v := nI 2) hx hb dL_law_463 (by decide) ?_
  refine mn_iadd hB dL_law_464 ?_
  refine va_sld hx hb hX hbl hbA hS (vp_in_nI (by omega) (by omega)) dL_law_465 ?_
  refine mh_top (y := .int (nI 1)) (by rw [nI_clamp (by omega), a2]) ?_
  refine cl_L_125 (As := [.int (nI f), .int (nI 1)]) (rest := []) hB (c_X11_frame_v l g H r q zsp rm (nI n) sl sv tx (nI ln) zth zsg zbg zwd zhg zin zop zbe zwi zhi zbk zot zer zen zpo zpi zgr zsh zsn f 1 hR (by first | assumption | omega) (hf) (by omega) (by omega)) hR.o rfl hl.1 (Nat.le_of_ble_eq_true rfl) dL_law_466 ⟨Nat.le_of_ble_eq_true rfl, Nat.le_of_ble_eq_true rfl⟩ ⟨by show (ce7) + 0 ≤ 622861; omega, by show (sn7) + 0 ≤ 7227521; omega⟩ hS (by have hz9 := hS.1; rintro q9 (h9 | h9) <;> first | exact h9.elim | (have h8 : r ≤ q9 ∧ q9 < r + 16 := h9; show xb ≤ q9; omega) | (have h8 : ((xb ≤ q9 ∧ q9 < xb + 68) ∨ lim ≤ q9) ∨ q9 = ob := h9; show xb ≤ q9; omega) | (have h8 : (xb ≤ q9 ∧ q9 < xb + 68) ∨ lim ≤ q9 := h9; show xb ≤ q9; omega) | (show xb ≤ q9; omega)) (fun v H1 locs hpo hfr hS => ?_)
  obtain ⟨rfl, hR⟩ := hpo
  have hC := hC.keptM hfr (fun a9 y9 => by first | exact y9.elim | (have y8 : r ≤ a9 ∧ a9 < r + 16 := y9; omega))
  have hO := Fr.keep hfr hO (fun y9 => by first | exact y9.elim | (have y8 : r ≤ ob ∧ ob < r + 16 := y9; omega) | (have y8 : (xb ≤ ob ∧ ob < xb + 68) ∨ lim ≤ ob := y9; omega))
  generalize H1 = H at hfr hS hX hC hO hR ⊢
  refine W.widen (k := ce7) (n := sn7) (by show (ce7) + 0 ≤ ce7; omega) (by show (sn7) + 0 ≤ sn7; omega) ?_
  refine lv_istore (lv' := [(6, .int (q (74 + 264 * f + 1))), (5, .int (nI 0)), (0, .ref b), (1, .ref xb), (2, .ref r), (3, .ref ob), (4, .int (nI (4 * i9)))]) hx hb dL_law_469 hl (by decide) rfl (fun ls hl => ?_)
  refine lv_aload_n hx hb dL_law_471 rfl (lv_at hl 4 rfl) ?_
  refine cl_L_102 (As := []) (rest := []) hB (c_X11_thrown l g H r q zsp rm (nI n) sl sv tx (nI ln) (nI 0) zsg zbg zwd zhg zin zop zbe zwi zhi zbk zot zer zen zpo zpi zgr zsh zsn hR) hR.o rfl hl.1 (Nat.le_of_ble_eq_true rfl) dL_law_472 ⟨Nat.le_of_ble_eq_true rfl, Nat.le_of_ble_eq_true rfl⟩ ⟨by show (ce7) + 0 ≤ 622861; omega, by show (sn7) + 0 ≤ 7227521; omega⟩ hS (by have hz9 := hS.1; rintro q9 (h9 | h9) <;> first | exact h9.elim | (have h8 : r ≤ q9 ∧ q9 < r + 16 := h9; show xb ≤ q9; omega) | (have h8 : ((xb ≤ q9 ∧ q9 < xb + 68) ∨ lim ≤ q9) ∨ q9 = ob := h9; show xb ≤ q9; omega) | (have h8 : (xb ≤ q9 ∧ q9 < xb + 68) ∨ lim ≤ q9 := h9; show xb ≤ q9; omega) | (show xb ≤ q9; omega)) (fun v H1 locs hpo hfr hS => ?_)
  obtain ⟨rfl, rfl⟩ := hpo
  refine W.widen (k := ce7) (n := sn7) (by show (ce7) + 0 ≤ ce7; omega) (by show (sn7) + 0 ≤ sn7; omega) ?_
  refine lv_iload hx hb dL_law_475 (lv_at hl 1 rfl) ?_
  refine lv_icmp_eq (tgt := 482) hx hb dL_law_477 (by decide) (fun h_477 => ?_) (fun h9 => absurd rfl h9)
  refine lv_iload hx hb dL_law_482 (lv_at hl 1 rfl) ?_
  refine mn_if_ne (tgt := 499) hB dL_law_484 (by decide) (by omega) (fun h => by exfalso; omega) (fun h_484 => ?_)
  refine lv_aload_n hx hb dL_law_487 rfl (lv_at hl 5 rfl) ?_
  refine lv_iconst (v := nI 0) hx hb dL_law_488 (by decide) ?_
  refine mn_lald hB hO (by omega) (by omega) dL_law_489 ?_
  refine mh_top (y := .long ((q (74 + 264 * f + 1)).toInt64)) (rfl) ?_
  refine lv_iload hx hb dL_law_490 (lv_at hl 0 rfl) ?_
  refine lv_i2l (v := (q (74 + 264 * f + 1)).toInt64) hx hb dL_law_492 rfl ?_
  refine W.lcmp hx hb dL_law_493 ?_
  refine ml_if_eq (tgt := 499) hB dL_law_494 (by decide) (fun h_494 => ?_) (fun h => absurd rfl h)
  refine lv_goto (tgt := 1803) hx hb dL_law_499 (by decide) ?_
  refine W.widen (k := ce7 + 30) (n := sn7 + 1100) (by omega) (by omega) ?_
  exact kk _ _ _ ⟨hC, ⟨_, _, _, _, _, _, _, _, _, _, _, _, _, _, _, _, _, _, _, _, hR⟩, ⟨_, hO⟩, hTx⟩ hS (lv_sub hl [2, 3, 4, 5, 6] rfl)

set_option maxRecDepth 100000 in
set_option maxHeartbeats 800000 in
theorem s_frame_w2 {p : Program} {l : Launch} {e : Env} {s : State} {m : MethodId} {args : Array Value} {below : List Frame} {meth : Method} {c : Code} {H : Heap} {locs : List Loc} {ce7 sn7 : Nat} {Q : State → Prop} {g : GG} {b L xb r ob lim : Nat} {xs : Nat → Int32} {i9 : Nat} {ls : Array Slot} {q : Nat → Int32} {n : Nat} {rm sl sv tx : Nat → Int32} {ln : Nat} {zsp : Nat → Int32} {zth : Int32} {zsg : Nat → Int32} {zbg : Nat → Int32} {zwd : Nat → Int32} {zhg : Nat → Int32} {zin : Nat → Int32} {zop : Int32} {zbe : Int32} {zwi : Int32} {zhi : Int32} {zbk : Nat → Int32} {zot : Nat → Int32} {zer : Int32} {zen : Int32} {zpo : Nat → Int32} {zpi : Int32} {zgr : Int32} {zsh : Nat → Int32} {zsn : Int32} {o : Nat → Int64} (hfl : l.stackTraces = false) (hE : LE p s m meth c g b L xs xb r ob lim) (hi : 4 * i9 + 3 < L) (hC : CLS g xb lim q n rm sl sv tx ln H) (hR : ModAt g r q zsp rm (nI n) sl sv tx (nI ln) zth zsg zbg zwd zhg zin zop zbe zwi zhi zbk zot zer zen zpo zpi zgr zsh zsn H) (hO : at_ g H ob (eL g 1 o)) (hTx : TxT tx ln) (hS : va_S (fun q9 => xb ≤ q9) s.heap H locs) (hl : lv_has ls 7 [(0, .ref b), (1, .ref xb), (2, .ref r), (3, .ref ob), (4, .int (nI (4 * i9)))]) (hce7 : ce7 + 30 ≤ 622861) (hsn7 : sn7 + 1100 ≤ 7227521) (f : Nat) (a1 : xs (4 * i9 + 1) = nI f) (a2 : xs (4 * i9 + 2) = nI 2) (hf : f < 3) (kk : ∀ (H1 : Heap) (locs1 : List Loc) (ls1 : Array Slot), LI g xb r ob lim q n rm sl sv tx ln H1 → va_S (fun q9 => xb ≤ q9) s.heap H1 locs1 → lv_has ls1 7 [(0, .ref b), (1, .ref xb), (2, .ref r), (3, .ref ob), (4, .int (nI (4 * i9)))] → W p l e room_1 s m args below meth c H1 locs1 (ce7 + 30) (sn7 + 1100) Q (F0 m 1803 ls1 [])) : W p l e room_1 s m args below meth c H locs ce7 sn7 Q (F0 m 434 ls []) := by
  obtain ⟨hB, hZ9, hX, hbl, hL9, hxs, hr9, hob9, hlm9⟩ := hE
  have hx := hB.x
  have hb := hB.b
  have hbA : ¬ (fun q9 => xb ≤ q9) b := fun y9 => by have y8 : xb ≤ b := y9; omega
  have hW := hC.wf
  have hn14 := hC.n14
  have hl6c := hC.l60
  have hnm5 := hW.2.2.1
  refine lv_aload_n hx hb dL_law_434 rfl (lv_at hl 1 rfl) ?_
  refine lv_aload_n hx hb dL_law_435 rfl (lv_at hl 0 rfl) ?_
  refine lv_iload hx hb dL_law_436 (lv_at hl 4 rfl) ?_
  refine lv_iconst (v := nI 1) hx hb dL_law_438 (by decide) ?_
  refine mn_iadd hB dL_law_439 ?_
  refine va_sld hx hb hX hbl hbA hS (vp_in_nI (by omega) (by omega)) dL_law_440 ?_
  refine mh_top (y := .int (nI f)) (by rw [nI_clamp (by omega), a1]) ?_
  refine lv_aload_n hx hb dL_law_441 rfl (lv_at hl 0 rfl) ?_
  refine lv_iload hx hb dL_law_442 (lv_at hl 4 rfl) ?_
  refine lv_iconst (v := nI 2) hx hb dL_law_444 (by decide) ?_
  refine mn_iadd hB dL_law_445 ?_
  refine va_sld hx hb hX hbl hbA hS (vp_in_nI (by omega) (by omega)) dL_law_446 ?_
  refine mh_top (y := .int (nI 2)) (by rw [nI_clamp (by omega), a2]) ?_
  refine lv_aload_n hx hb dL_law_447 rfl (lv_at hl 3 rfl) ?_
  refine cw_123 (As := [.ref xb, .int (nI f), .int (nI 2), .ref ob]) (rest := []) hB (hZ9.at hS (fun _ h9 => h9)) (w_frame_w2 l g H xb lim q n rm sl sv tx ln f ob o (hC) (hO) (hf) (⟨by omega, by omega⟩) (hfl)) rfl hl.1 (Nat.le_of_ble_eq_true rfl) dL_law_448 ⟨Nat.le_of_ble_eq_true rfl, Nat.le_of_ble_eq_true rfl⟩ ⟨by show (ce7) + 0 ≤ 622861; omega, by show (sn7) + 0 ≤ 7227521; omega⟩ hS (by have hz9 := hS.1; rintro q9 (h9 | h9) <;> first | exact h9.elim | (have h8 : r ≤ q9 ∧ q9 < r + 16 := h9; show xb ≤ q9; omega) | (have h8 : ((xb ≤ q9 ∧ q9 < xb + 68) ∨ lim ≤ q9) ∨ q9 = ob := h9; show xb ≤ q9; omega) | (have h8 : (xb ≤ q9 ∧ q9 < xb + 68) ∨ lim ≤ q9 := h9; show xb ≤ q9; omega) | (show xb ≤ q9; omega)) (fun v H1 locs hpo hfr hS => ?_)
  obtain ⟨rfl, hC, hO⟩ := hpo
  have hR := hR.keptF hfr (fun q9 h1 h2 y9 => by first | exact y9.elim | (have y8 : ((xb ≤ q9 ∧ q9 < xb + 68) ∨ lim ≤ q9) ∨ q9 = ob := y9; omega) | (have y8 : (xb ≤ q9 ∧ q9 < xb + 68) ∨ lim ≤ q9 := y9; omega))
  generalize H1 = H at hfr hS hR hX hC hO ⊢
  refine W.widen (k := ce7) (n := sn7) (by show (ce7) + 0 ≤ ce7; omega) (by show (sn7) + 0 ≤ sn7; omega) ?_
  refine lv_istore (lv' := [(5, .int (nI 0)), (0, .ref b), (1, .ref xb), (2, .ref r), (3, .ref ob), (4, .int (nI (4 * i9)))]) hx hb dL_law_451 hl (by decide) rfl (fun ls hl => ?_)
  refine lv_aload_n hx hb dL_law_453 rfl (lv_at hl 3 rfl) ?_
  refine lv_aload_n hx hb dL_law_454 rfl (lv_at hl 1 rfl) ?_
  refine lv_iload hx hb dL_law_455 (lv_at hl 5 rfl) ?_
  refine lv_iconst (v := nI 1) hx hb dL_law_457 (by decide) ?_
  refine mn_iadd hB dL_law_458 ?_
  refine va_sld hx hb hX hbl hbA hS (vp_in_nI (by omega) (by omega)) dL_law_459 ?_
  refine mh_top (y := .int (nI f)) (by rw [nI_clamp (by omega), a1]) ?_
  refine lv_aload_n hx hb dL_law_460 rfl (lv_at hl 1 rfl) ?_
  refine lv_iload hx hb dL_law_461 (lv_at hl 5 rfl) ?_
  refine lv_iconst (v := nI 2) hx hb dL_law_463 (by decide) ?_
  refine mn_iadd hB dL_law_464 ?_
  refine va_sld hx hb hX hbl hbA hS (vp_in_nI (by omega) (by omega)) dL_law_465 ?_
  refine mh_top (y := .int (nI 2)) (by rw [nI_clamp (by omega), a2]) ?_
  refine cl_L_125 (As := [.int (nI f), .int (nI 2)]) (rest := []) hB (c_X11_frame_v l g H r q zsp rm (nI n) sl sv tx (nI ln) zth zsg zbg zwd zhg zin zop zbe zwi zhi zbk zot zer zen zpo zpi zgr zsh zsn f 2 hR (by first | assumption | omega) (hf) (by omega) (by omega)) hR.o rfl hl.1 (Nat.le_of_ble_eq_true rfl) dL_law_466 ⟨Nat.le_of_ble_eq_true rfl, Nat.le_of_ble_eq_true rfl⟩ ⟨by show (ce7) + 0 ≤ 622861; omega, by show (sn7) + 0 ≤ 7227521; omega⟩ hS (by have hz9 := hS.1; rintro q9 (h9 | h9) <;> first | exact h9.elim | (have h8 : r ≤ q9 ∧ q9 < r + 16 := h9; show xb ≤ q9; omega) | (have h8 : ((xb ≤ q9 ∧ q9 < xb + 68) ∨ lim ≤ q9) ∨ q9 = ob := h9; show xb ≤ q9; omega) | (have h8 : (xb ≤ q9 ∧ q9 < xb + 68) ∨ lim ≤ q9 := h9; show xb ≤ q9; omega) | (show xb ≤ q9; omega)) (fun v H1 locs hpo hfr hS => ?_)
  obtain ⟨rfl, hR⟩ := hpo
  have hC := hC.keptM hfr (fun a9 y9 => by first | exact y9.elim | (have y8 : r ≤ a9 ∧ a9 < r + 16 := y9; omega))
  have hO := Fr.keep hfr hO (fun y9 => by first | exact y9.elim | (have y8 : r ≤ ob ∧ ob < r + 16 := y9; omega) | (have y8 : (xb ≤ ob ∧ ob < xb + 68) ∨ lim ≤ ob := y9; omega))
  generalize H1 = H at hfr hS hX hC hO hR ⊢
  refine W.widen (k := ce7) (n := sn7) (by show (ce7) + 0 ≤ ce7; omega) (by show (sn7) + 0 ≤ sn7; omega) ?_
  refine lv_istore (lv' := [(6, .int (q (74 + 264 * f + 2))), (5, .int (nI 0)), (0, .ref b), (1, .ref xb), (2, .ref r), (3, .ref ob), (4, .int (nI (4 * i9)))]) hx hb dL_law_469 hl (by decide) rfl (fun ls hl => ?_)
  refine lv_aload_n hx hb dL_law_471 rfl (lv_at hl 4 rfl) ?_
  refine cl_L_102 (As := []) (rest := []) hB (c_X11_thrown l g H r q zsp rm (nI n) sl sv tx (nI ln) (nI 0) zsg zbg zwd zhg zin zop zbe zwi zhi zbk zot zer zen zpo zpi zgr zsh zsn hR) hR.o rfl hl.1 (Nat.le_of_ble_eq_true rfl) dL_law_472 ⟨Nat.le_of_ble_eq_true rfl, Nat.le_of_ble_eq_true rfl⟩ ⟨by show (ce7) + 0 ≤ 622861; omega, by show (sn7) + 0 ≤ 7227521; omega⟩ hS (by have hz9 := hS.1; rintro q9 (h9 | h9) <;> first | exact h9.elim | (have h8 : r ≤ q9 ∧ q9 < r + 16 := h9; show xb ≤ q9; omega) | (have h8 : ((xb ≤ q9 ∧ q9 < xb + 68) ∨ lim ≤ q9) ∨ q9 = ob := h9; show xb ≤ q9; omega) | (have h8 : (xb ≤ q9 ∧ q9 < xb + 68) ∨ lim ≤ q9 := h9; show xb ≤ q9; omega) | (show xb ≤ q9; omega)) (fun v H1 locs hpo hfr hS => ?_)
  obtain ⟨rfl, rfl⟩ := hpo
  refine W.widen (k := ce7) (n := sn7) (by show (ce7) + 0 ≤ ce7; omega) (by show (sn7) + 0 ≤ sn7; omega) ?_
  refine lv_iload hx hb dL_law_475 (lv_at hl 1 rfl) ?_
  refine lv_icmp_eq (tgt := 482) hx hb dL_law_477 (by decide) (fun h_477 => ?_) (fun h9 => absurd rfl h9)
  refine lv_iload hx hb dL_law_482 (lv_at hl 1 rfl) ?_
  refine mn_if_ne (tgt := 499) hB dL_law_484 (by decide) (by omega) (fun h => by exfalso; omega) (fun h_484 => ?_)
  refine lv_aload_n hx hb dL_law_487 rfl (lv_at hl 5 rfl) ?_
  refine lv_iconst (v := nI 0) hx hb dL_law_488 (by decide) ?_
  refine mn_lald hB hO (by omega) (by omega) dL_law_489 ?_
  refine mh_top (y := .long ((q (74 + 264 * f + 2)).toInt64)) (rfl) ?_
  refine lv_iload hx hb dL_law_490 (lv_at hl 0 rfl) ?_
  refine lv_i2l (v := (q (74 + 264 * f + 2)).toInt64) hx hb dL_law_492 rfl ?_
  refine W.lcmp hx hb dL_law_493 ?_
  refine ml_if_eq (tgt := 499) hB dL_law_494 (by decide) (fun h_494 => ?_) (fun h => absurd rfl h)
  refine lv_goto (tgt := 1803) hx hb dL_law_499 (by decide) ?_
  refine W.widen (k := ce7 + 30) (n := sn7 + 1100) (by omega) (by omega) ?_
  exact kk _ _ _ ⟨hC, ⟨_, _, _, _, _, _, _, _, _, _, _, _, _, _, _, _, _, _, _, _, hR⟩, ⟨_, hO⟩, hTx⟩ hS (lv_sub hl [2, 3, 4, 5, 6] rfl)

set_option maxRecDepth 100000 in
set_option maxHeartbeats 800000 in
theorem s_frame_w3 {p : Program} {l : Launch} {e : Env} {s : State} {m : MethodId} {args : Array Value} {below : List Frame} {meth : Method} {c : Code} {H : Heap} {locs : List Loc} {ce7 sn7 : Nat} {Q : State → Prop} {g : GG} {b L xb r ob lim : Nat} {xs : Nat → Int32} {i9 : Nat} {ls : Array Slot} {q : Nat → Int32} {n : Nat} {rm sl sv tx : Nat → Int32} {ln : Nat} {zsp : Nat → Int32} {zth : Int32} {zsg : Nat → Int32} {zbg : Nat → Int32} {zwd : Nat → Int32} {zhg : Nat → Int32} {zin : Nat → Int32} {zop : Int32} {zbe : Int32} {zwi : Int32} {zhi : Int32} {zbk : Nat → Int32} {zot : Nat → Int32} {zer : Int32} {zen : Int32} {zpo : Nat → Int32} {zpi : Int32} {zgr : Int32} {zsh : Nat → Int32} {zsn : Int32} {o : Nat → Int64} (hfl : l.stackTraces = false) (hE : LE p s m meth c g b L xs xb r ob lim) (hi : 4 * i9 + 3 < L) (hC : CLS g xb lim q n rm sl sv tx ln H) (hR : ModAt g r q zsp rm (nI n) sl sv tx (nI ln) zth zsg zbg zwd zhg zin zop zbe zwi zhi zbk zot zer zen zpo zpi zgr zsh zsn H) (hO : at_ g H ob (eL g 1 o)) (hTx : TxT tx ln) (hS : va_S (fun q9 => xb ≤ q9) s.heap H locs) (hl : lv_has ls 7 [(0, .ref b), (1, .ref xb), (2, .ref r), (3, .ref ob), (4, .int (nI (4 * i9)))]) (hce7 : ce7 + 30 ≤ 622861) (hsn7 : sn7 + 1100 ≤ 7227521) (f : Nat) (a1 : xs (4 * i9 + 1) = nI f) (a2 : xs (4 * i9 + 2) = nI 3) (hf : f < 3) (kk : ∀ (H1 : Heap) (locs1 : List Loc) (ls1 : Array Slot), LI g xb r ob lim q n rm sl sv tx ln H1 → va_S (fun q9 => xb ≤ q9) s.heap H1 locs1 → lv_has ls1 7 [(0, .ref b), (1, .ref xb), (2, .ref r), (3, .ref ob), (4, .int (nI (4 * i9)))] → W p l e room_1 s m args below meth c H1 locs1 (ce7 + 30) (sn7 + 1100) Q (F0 m 1803 ls1 [])) : W p l e room_1 s m args below meth c H locs ce7 sn7 Q (F0 m 434 ls []) := by
  obtain ⟨hB, hZ9, hX, hbl, hL9, hxs, hr9, hob9, hlm9⟩ := hE
  have hx := hB.x
  have hb := hB.b
  have hbA : ¬ (fun q9 => xb ≤ q9) b := fun y9 => by have y8 : xb ≤ b := y9; omega
  have hW := hC.wf
  have hn14 := hC.n14
  have hl6c := hC.l60
  have hnm5 := hW.2.2.1
  refine lv_aload_n hx hb dL_law_434 rfl (lv_at hl 1 rfl) ?_
  refine lv_aload_n hx hb dL_law_435 rfl (lv_at hl 0 rfl) ?_
  refine lv_iload hx hb dL_law_436 (lv_at hl 4 rfl) ?_
  refine lv_iconst (v := nI 1) hx hb dL_law_438 (by decide) ?_
  refine mn_iadd hB dL_law_439 ?_
  refine va_sld hx hb hX hbl hbA hS (vp_in_nI (by omega) (by omega)) dL_law_440 ?_
  refine mh_top (y := .int (nI f)) (by rw [nI_clamp (by omega), a1]) ?_
  refine lv_aload_n hx hb dL_law_441 rfl (lv_at hl 0 rfl) ?_
  refine lv_iload hx hb dL_law_442 (lv_at hl 4 rfl) ?_
  refine lv_iconst (v := nI 2) hx hb dL_law_444 (by decide) ?_
  refine mn_iadd hB dL_law_445 ?_
  refine va_sld hx hb hX hbl hbA hS (vp_in_nI (by omega) (by omega)) dL_law_446 ?_
  refine mh_top (y := .int (nI 3)) (by rw [nI_clamp (by omega), a2]) ?_
  refine lv_aload_n hx hb dL_law_447 rfl (lv_at hl 3 rfl) ?_
  refine cw_123 (As := [.ref xb, .int (nI f), .int (nI 3), .ref ob]) (rest := []) hB (hZ9.at hS (fun _ h9 => h9)) (w_frame_w3 l g H xb lim q n rm sl sv tx ln f ob o (hC) (hO) (hf) (⟨by omega, by omega⟩) (hfl)) rfl hl.1 (Nat.le_of_ble_eq_true rfl) dL_law_448 ⟨Nat.le_of_ble_eq_true rfl, Nat.le_of_ble_eq_true rfl⟩ ⟨by show (ce7) + 0 ≤ 622861; omega, by show (sn7) + 0 ≤ 7227521; omega⟩ hS (by have hz9 := hS.1; rintro q9 (h9 | h9) <;> first | exact h9.elim | (have h8 : r ≤ q9 ∧ q9 < r + 16 := h9; show xb ≤ q9; omega) | (have h8 : ((xb ≤ q9 ∧ q9 < xb + 68) ∨ lim ≤ q9) ∨ q9 = ob := h9; show xb ≤ q9; omega) | (have h8 : (xb ≤ q9 ∧ q9 < xb + 68) ∨ lim ≤ q9 := h9; show xb ≤ q9; omega) | (show xb ≤ q9; omega)) (fun v H1 locs hpo hfr hS => ?_)
  obtain ⟨rfl, hC, hO⟩ := hpo
  have hR := hR.keptF hfr (fun q9 h1 h2 y9 => by first | exact y9.elim | (have y8 : ((xb ≤ q9 ∧ q9 < xb + 68) ∨ lim ≤ q9) ∨ q9 = ob := y9; omega) | (have y8 : (xb ≤ q9 ∧ q9 < xb + 68) ∨ lim ≤ q9 := y9; omega))
  generalize H1 = H at hfr hS hR hX hC hO ⊢
  refine W.widen (k := ce7) (n := sn7) (by show (ce7) + 0 ≤ ce7; omega) (by show (sn7) + 0 ≤ sn7; omega) ?_
  refine lv_istore (lv' := [(5, .int (nI 0)), (0, .ref b), (1, .ref xb), (2, .ref r), (3, .ref ob), (4, .int (nI (4 * i9)))]) hx hb dL_law_451 hl (by decide) rfl (fun ls hl => ?_)
  refine lv_aload_n hx hb dL_law_453 rfl (lv_at hl 3 rfl) ?_
  refine lv_aload_n hx hb dL_law_454 rfl (lv_at hl 1 rfl) ?_
  refine lv_iload hx hb dL_law_455 (lv_at hl 5 rfl) ?_
  refine lv_iconst (v := nI 1) hx hb dL_law_457 (by decide) ?_
  refine mn_iadd hB dL_law_458 ?_
  refine va_sld hx hb hX hbl hbA hS (vp_in_nI (by omega) (by omega)) dL_law_459 ?_
  refine mh_top (y := .int (nI f)) (by rw [nI_clamp (by omega), a1]) ?_
  refine lv_aload_n hx hb dL_law_460 rfl (lv_at hl 1 rfl) ?_
  refine lv_iload hx hb dL_law_461 (lv_at hl 5 rfl) ?_
  refine lv_iconst (v := nI 2) hx hb dL_law_463 (by decide) ?_
  refine mn_iadd hB dL_law_464 ?_
  refine va_sld hx hb hX hbl hbA hS (vp_in_nI (by omega) (by omega)) dL_law_465 ?_
  refine mh_top (y := .int (nI 3)) (by rw [nI_clamp (by omega), a2]) ?_
  refine cl_L_125 (As := [.int (nI f), .int (nI 3)]) (rest := []) hB (c_X11_frame_c l g H r q zsp rm (nI n) sl sv tx (nI ln) zth zsg zbg zwd zhg zin zop zbe zwi zhi zbk zot zer zen zpo zpi zgr zsh zsn f 3 hR (by first | assumption | omega) (hf) (by omega) (by omega)) hR.o rfl hl.1 (Nat.le_of_ble_eq_true rfl) dL_law_466 ⟨Nat.le_of_ble_eq_true rfl, Nat.le_of_ble_eq_true rfl⟩ ⟨by show (ce7) + 0 ≤ 622861; omega, by show (sn7) + 0 ≤ 7227521; omega⟩ hS (by have hz9 := hS.1; rintro q9 (h9 | h9) <;> first | exact h9.elim | (have h8 : r ≤ q9 ∧ q9 < r + 16 := h9; show xb ≤ q9; omega) | (have h8 : ((xb ≤ q9 ∧ q9 < xb + 68) ∨ lim ≤ q9) ∨ q9 = ob := h9; show xb ≤ q9; omega) | (have h8 : (xb ≤ q9 ∧ q9 < xb + 68) ∨ lim ≤ q9 := h9; show xb ≤ q9; omega) | (show xb ≤ q9; omega)) (fun v H1 locs hpo hfr hS => ?_)
  obtain ⟨rfl, hR⟩ := hpo
  have hC := hC.keptM hfr (fun a9 y9 => by first | exact y9.elim | (have y8 : r ≤ a9 ∧ a9 < r + 16 := y9; omega))
  have hO := Fr.keep hfr hO (fun y9 => by first | exact y9.elim | (have y8 : r ≤ ob ∧ ob < r + 16 := y9; omega) | (have y8 : (xb ≤ ob ∧ ob < xb + 68) ∨ lim ≤ ob := y9; omega))
  generalize H1 = H at hfr hS hX hC hO hR ⊢
  refine W.widen (k := ce7) (n := sn7) (by show (ce7) + 0 ≤ ce7; omega) (by show (sn7) + 0 ≤ sn7; omega) ?_
  refine lv_istore (lv' := [(6, .int (nI (cntR (fun j9 => decide (0 < cntC q f j9 0 (szF q f))) 0 6))), (5, .int (nI 0)), (0, .ref b), (1, .ref xb), (2, .ref r), (3, .ref ob), (4, .int (nI (4 * i9)))]) hx hb dL_law_469 hl (by decide) rfl (fun ls hl => ?_)
  refine lv_aload_n hx hb dL_law_471 rfl (lv_at hl 4 rfl) ?_
  refine cl_L_102 (As := []) (rest := []) hB (c_X11_thrown l g H r q zsp rm (nI n) sl sv tx (nI ln) (nI 0) zsg zbg zwd zhg zin zop zbe zwi zhi zbk zot zer zen zpo zpi zgr zsh zsn hR) hR.o rfl hl.1 (Nat.le_of_ble_eq_true rfl) dL_law_472 ⟨Nat.le_of_ble_eq_true rfl, Nat.le_of_ble_eq_true rfl⟩ ⟨by show (ce7) + 0 ≤ 622861; omega, by show (sn7) + 0 ≤ 7227521; omega⟩ hS (by have hz9 := hS.1; rintro q9 (h9 | h9) <;> first | exact h9.elim | (have h8 : r ≤ q9 ∧ q9 < r + 16 := h9; show xb ≤ q9; omega) | (have h8 : ((xb ≤ q9 ∧ q9 < xb + 68) ∨ lim ≤ q9) ∨ q9 = ob := h9; show xb ≤ q9; omega) | (have h8 : (xb ≤ q9 ∧ q9 < xb + 68) ∨ lim ≤ q9 := h9; show xb ≤ q9; omega) | (show xb ≤ q9; omega)) (fun v H1 locs hpo hfr hS => ?_)
  obtain ⟨rfl, rfl⟩ := hpo
  refine W.widen (k := ce7) (n := sn7) (by show (ce7) + 0 ≤ ce7; omega) (by show (sn7) + 0 ≤ sn7; omega) ?_
  refine lv_iload hx hb dL_law_475 (lv_at hl 1 rfl) ?_
  refine lv_icmp_eq (tgt := 482) hx hb dL_law_477 (by decide) (fun h_477 => ?_) (fun h9 => absurd rfl h9)
  refine lv_iload hx hb dL_law_482 (lv_at hl 1 rfl) ?_
  refine mn_if_ne (tgt := 499) hB dL_law_484 (by decide) (by omega) (fun h => by exfalso; omega) (fun h_484 => ?_)
  refine lv_aload_n hx hb dL_law_487 rfl (lv_at hl 5 rfl) ?_
  refine lv_iconst (v := nI 0) hx hb dL_law_488 (by decide) ?_
  refine mn_lald hB hO (by omega) (by omega) dL_law_489 ?_
  refine mh_top (y := .long ((nI (cntR (fun j9 => decide (0 < cntC q f j9 0 (szF q f))) 0 6)).toInt64)) (rfl) ?_
  refine lv_iload hx hb dL_law_490 (lv_at hl 0 rfl) ?_
  refine lv_i2l (v := (nI (cntR (fun j9 => decide (0 < cntC q f j9 0 (szF q f))) 0 6)).toInt64) hx hb dL_law_492 rfl ?_
  refine W.lcmp hx hb dL_law_493 ?_
  refine ml_if_eq (tgt := 499) hB dL_law_494 (by decide) (fun h_494 => ?_) (fun h => absurd rfl h)
  refine lv_goto (tgt := 1803) hx hb dL_law_499 (by decide) ?_
  refine W.widen (k := ce7 + 30) (n := sn7 + 1100) (by omega) (by omega) ?_
  exact kk _ _ _ ⟨hC, ⟨_, _, _, _, _, _, _, _, _, _, _, _, _, _, _, _, _, _, _, _, hR⟩, ⟨_, hO⟩, hTx⟩ hS (lv_sub hl [2, 3, 4, 5, 6] rfl)

set_option maxRecDepth 100000 in
set_option maxHeartbeats 800000 in
theorem s_frame_w4 {p : Program} {l : Launch} {e : Env} {s : State} {m : MethodId} {args : Array Value} {below : List Frame} {meth : Method} {c : Code} {H : Heap} {locs : List Loc} {ce7 sn7 : Nat} {Q : State → Prop} {g : GG} {b L xb r ob lim : Nat} {xs : Nat → Int32} {i9 : Nat} {ls : Array Slot} {q : Nat → Int32} {n : Nat} {rm sl sv tx : Nat → Int32} {ln : Nat} {zsp : Nat → Int32} {zth : Int32} {zsg : Nat → Int32} {zbg : Nat → Int32} {zwd : Nat → Int32} {zhg : Nat → Int32} {zin : Nat → Int32} {zop : Int32} {zbe : Int32} {zwi : Int32} {zhi : Int32} {zbk : Nat → Int32} {zot : Nat → Int32} {zer : Int32} {zen : Int32} {zpo : Nat → Int32} {zpi : Int32} {zgr : Int32} {zsh : Nat → Int32} {zsn : Int32} {o : Nat → Int64} (hfl : l.stackTraces = false) (hE : LE p s m meth c g b L xs xb r ob lim) (hi : 4 * i9 + 3 < L) (hC : CLS g xb lim q n rm sl sv tx ln H) (hR : ModAt g r q zsp rm (nI n) sl sv tx (nI ln) zth zsg zbg zwd zhg zin zop zbe zwi zhi zbk zot zer zen zpo zpi zgr zsh zsn H) (hO : at_ g H ob (eL g 1 o)) (hTx : TxT tx ln) (hS : va_S (fun q9 => xb ≤ q9) s.heap H locs) (hl : lv_has ls 7 [(0, .ref b), (1, .ref xb), (2, .ref r), (3, .ref ob), (4, .int (nI (4 * i9)))]) (hce7 : ce7 + 30 ≤ 622861) (hsn7 : sn7 + 1100 ≤ 7227521) (f : Nat) (a1 : xs (4 * i9 + 1) = nI f) (a2 : xs (4 * i9 + 2) = nI 4) (hf : f < 3) (kk : ∀ (H1 : Heap) (locs1 : List Loc) (ls1 : Array Slot), LI g xb r ob lim q n rm sl sv tx ln H1 → va_S (fun q9 => xb ≤ q9) s.heap H1 locs1 → lv_has ls1 7 [(0, .ref b), (1, .ref xb), (2, .ref r), (3, .ref ob), (4, .int (nI (4 * i9)))] → W p l e room_1 s m args below meth c H1 locs1 (ce7 + 30) (sn7 + 1100) Q (F0 m 1803 ls1 [])) : W p l e room_1 s m args below meth c H locs ce7 sn7 Q (F0 m 434 ls []) := by
  obtain ⟨hB, hZ9, hX, hbl, hL9, hxs, hr9, hob9, hlm9⟩ := hE
  have hx := hB.x
  have hb := hB.b
  have hbA : ¬ (fun q9 => xb ≤ q9) b := fun y9 => by have y8 : xb ≤ b := y9; omega
  have hW := hC.wf
  have hn14 := hC.n14
  have hl6c := hC.l60
  have hnm5 := hW.2.2.1
  refine lv_aload_n hx hb dL_law_434 rfl (lv_at hl 1 rfl) ?_
  refine lv_aload_n hx hb dL_law_435 rfl (lv_at hl 0 rfl) ?_
  refine lv_iload hx hb dL_law_436 (lv_at hl 4 rfl) ?_
  refine lv_iconst (v := nI 1) hx hb dL_law_438 (by decide) ?_
  refine mn_iadd hB dL_law_439 ?_
  refine va_sld hx hb hX hbl hbA hS (vp_in_nI (by omega) (by omega)) dL_law_440 ?_
  refine mh_top (y := .int (nI f)) (by rw [nI_clamp (by omega), a1]) ?_
  refine lv_aload_n hx hb dL_law_441 rfl (lv_at hl 0 rfl) ?_
  refine lv_iload hx hb dL_law_442 (lv_at hl 4 rfl) ?_
  refine lv_iconst (v := nI 2) hx hb dL_law_444 (by decide) ?_
  refine mn_iadd hB dL_law_445 ?_
  refine va_sld hx hb hX hbl hbA hS (vp_in_nI (by omega) (by omega)) dL_law_446 ?_
  refine mh_top (y := .int (nI 4)) (by rw [nI_clamp (by omega), a2]) ?_
  refine lv_aload_n hx hb dL_law_447 rfl (lv_at hl 3 rfl) ?_
  refine cw_123 (As := [.ref xb, .int (nI f), .int (nI 4), .ref ob]) (rest := []) hB (hZ9.at hS (fun _ h9 => h9)) (w_frame_w4 l g H xb lim q n rm sl sv tx ln f ob o (hC) (hO) (hf) (⟨by omega, by omega⟩) (hfl)) rfl hl.1 (Nat.le_of_ble_eq_true rfl) dL_law_448 ⟨Nat.le_of_ble_eq_true rfl, Nat.le_of_ble_eq_true rfl⟩ ⟨by show (ce7) + 0 ≤ 622861; omega, by show (sn7) + 0 ≤ 7227521; omega⟩ hS (by have hz9 := hS.1; rintro q9 (h9 | h9) <;> first | exact h9.elim | (have h8 : r ≤ q9 ∧ q9 < r + 16 := h9; show xb ≤ q9; omega) | (have h8 : ((xb ≤ q9 ∧ q9 < xb + 68) ∨ lim ≤ q9) ∨ q9 = ob := h9; show xb ≤ q9; omega) | (have h8 : (xb ≤ q9 ∧ q9 < xb + 68) ∨ lim ≤ q9 := h9; show xb ≤ q9; omega) | (show xb ≤ q9; omega)) (fun v H1 locs hpo hfr hS => ?_)
  obtain ⟨rfl, hC, hO⟩ := hpo
  have hR := hR.keptF hfr (fun q9 h1 h2 y9 => by first | exact y9.elim | (have y8 : ((xb ≤ q9 ∧ q9 < xb + 68) ∨ lim ≤ q9) ∨ q9 = ob := y9; omega) | (have y8 : (xb ≤ q9 ∧ q9 < xb + 68) ∨ lim ≤ q9 := y9; omega))
  generalize H1 = H at hfr hS hR hX hC hO ⊢
  refine W.widen (k := ce7) (n := sn7) (by show (ce7) + 0 ≤ ce7; omega) (by show (sn7) + 0 ≤ sn7; omega) ?_
  refine lv_istore (lv' := [(5, .int (nI 0)), (0, .ref b), (1, .ref xb), (2, .ref r), (3, .ref ob), (4, .int (nI (4 * i9)))]) hx hb dL_law_451 hl (by decide) rfl (fun ls hl => ?_)
  refine lv_aload_n hx hb dL_law_453 rfl (lv_at hl 3 rfl) ?_
  refine lv_aload_n hx hb dL_law_454 rfl (lv_at hl 1 rfl) ?_
  refine lv_iload hx hb dL_law_455 (lv_at hl 5 rfl) ?_
  refine lv_iconst (v := nI 1) hx hb dL_law_457 (by decide) ?_
  refine mn_iadd hB dL_law_458 ?_
  refine va_sld hx hb hX hbl hbA hS (vp_in_nI (by omega) (by omega)) dL_law_459 ?_
  refine mh_top (y := .int (nI f)) (by rw [nI_clamp (by omega), a1]) ?_
  refine lv_aload_n hx hb dL_law_460 rfl (lv_at hl 1 rfl) ?_
  refine lv_iload hx hb dL_law_461 (lv_at hl 5 rfl) ?_
  refine lv_iconst (v := nI 2) hx hb dL_law_463 (by decide) ?_
  refine mn_iadd hB dL_law_464 ?_
  refine va_sld hx hb hX hbl hbA hS (vp_in_nI (by omega) (by omega)) dL_law_465 ?_
  refine mh_top (y := .int (nI 4)) (by rw [nI_clamp (by omega), a2]) ?_
  refine cl_L_125 (As := [.int (nI f), .int (nI 4)]) (rest := []) hB (c_X11_frame_s l g H r q zsp rm (nI n) sl sv tx (nI ln) zth zsg zbg zwd zhg zin zop zbe zwi zhi zbk zot zer zen zpo zpi zgr zsh zsn f 4 hR (by first | assumption | omega) (hf) (by omega) (by omega)) hR.o rfl hl.1 (Nat.le_of_ble_eq_true rfl) dL_law_466 ⟨Nat.le_of_ble_eq_true rfl, Nat.le_of_ble_eq_true rfl⟩ ⟨by show (ce7) + 0 ≤ 622861; omega, by show (sn7) + 0 ≤ 7227521; omega⟩ hS (by have hz9 := hS.1; rintro q9 (h9 | h9) <;> first | exact h9.elim | (have h8 : r ≤ q9 ∧ q9 < r + 16 := h9; show xb ≤ q9; omega) | (have h8 : ((xb ≤ q9 ∧ q9 < xb + 68) ∨ lim ≤ q9) ∨ q9 = ob := h9; show xb ≤ q9; omega) | (have h8 : (xb ≤ q9 ∧ q9 < xb + 68) ∨ lim ≤ q9 := h9; show xb ≤ q9; omega) | (show xb ≤ q9; omega)) (fun v H1 locs hpo hfr hS => ?_)
  obtain ⟨rfl, hR⟩ := hpo
  have hC := hC.keptM hfr (fun a9 y9 => by first | exact y9.elim | (have y8 : r ≤ a9 ∧ a9 < r + 16 := y9; omega))
  have hO := Fr.keep hfr hO (fun y9 => by first | exact y9.elim | (have y8 : r ≤ ob ∧ ob < r + 16 := y9; omega) | (have y8 : (xb ≤ ob ∧ ob < xb + 68) ∨ lim ≤ ob := y9; omega))
  generalize H1 = H at hfr hS hX hC hO hR ⊢
  refine W.widen (k := ce7) (n := sn7) (by show (ce7) + 0 ≤ ce7; omega) (by show (sn7) + 0 ≤ sn7; omega) ?_
  refine lv_istore (lv' := [(6, .int (nI (seamN (wdF q f) (szF q f) (clF q f) (szF q f)))), (5, .int (nI 0)), (0, .ref b), (1, .ref xb), (2, .ref r), (3, .ref ob), (4, .int (nI (4 * i9)))]) hx hb dL_law_469 hl (by decide) rfl (fun ls hl => ?_)
  refine lv_aload_n hx hb dL_law_471 rfl (lv_at hl 4 rfl) ?_
  refine cl_L_102 (As := []) (rest := []) hB (c_X11_thrown l g H r q zsp rm (nI n) sl sv tx (nI ln) (nI 0) zsg zbg zwd zhg zin zop zbe zwi zhi zbk zot zer zen zpo zpi zgr zsh zsn hR) hR.o rfl hl.1 (Nat.le_of_ble_eq_true rfl) dL_law_472 ⟨Nat.le_of_ble_eq_true rfl, Nat.le_of_ble_eq_true rfl⟩ ⟨by show (ce7) + 0 ≤ 622861; omega, by show (sn7) + 0 ≤ 7227521; omega⟩ hS (by have hz9 := hS.1; rintro q9 (h9 | h9) <;> first | exact h9.elim | (have h8 : r ≤ q9 ∧ q9 < r + 16 := h9; show xb ≤ q9; omega) | (have h8 : ((xb ≤ q9 ∧ q9 < xb + 68) ∨ lim ≤ q9) ∨ q9 = ob := h9; show xb ≤ q9; omega) | (have h8 : (xb ≤ q9 ∧ q9 < xb + 68) ∨ lim ≤ q9 := h9; show xb ≤ q9; omega) | (show xb ≤ q9; omega)) (fun v H1 locs hpo hfr hS => ?_)
  obtain ⟨rfl, rfl⟩ := hpo
  refine W.widen (k := ce7) (n := sn7) (by show (ce7) + 0 ≤ ce7; omega) (by show (sn7) + 0 ≤ sn7; omega) ?_
  refine lv_iload hx hb dL_law_475 (lv_at hl 1 rfl) ?_
  refine lv_icmp_eq (tgt := 482) hx hb dL_law_477 (by decide) (fun h_477 => ?_) (fun h9 => absurd rfl h9)
  refine lv_iload hx hb dL_law_482 (lv_at hl 1 rfl) ?_
  refine mn_if_ne (tgt := 499) hB dL_law_484 (by decide) (by omega) (fun h => by exfalso; omega) (fun h_484 => ?_)
  refine lv_aload_n hx hb dL_law_487 rfl (lv_at hl 5 rfl) ?_
  refine lv_iconst (v := nI 0) hx hb dL_law_488 (by decide) ?_
  refine mn_lald hB hO (by omega) (by omega) dL_law_489 ?_
  refine mh_top (y := .long ((nI (seamN (wdF q f) (szF q f) (clF q f) (szF q f))).toInt64)) (rfl) ?_
  refine lv_iload hx hb dL_law_490 (lv_at hl 0 rfl) ?_
  refine lv_i2l (v := (nI (seamN (wdF q f) (szF q f) (clF q f) (szF q f))).toInt64) hx hb dL_law_492 rfl ?_
  refine W.lcmp hx hb dL_law_493 ?_
  refine ml_if_eq (tgt := 499) hB dL_law_494 (by decide) (fun h_494 => ?_) (fun h => absurd rfl h)
  refine lv_goto (tgt := 1803) hx hb dL_law_499 (by decide) ?_
  refine W.widen (k := ce7 + 30) (n := sn7 + 1100) (by omega) (by omega) ?_
  exact kk _ _ _ ⟨hC, ⟨_, _, _, _, _, _, _, _, _, _, _, _, _, _, _, _, _, _, _, _, hR⟩, ⟨_, hO⟩, hTx⟩ hS (lv_sub hl [2, 3, 4, 5, 6] rfl)

set_option maxRecDepth 100000 in
set_option maxHeartbeats 800000 in
theorem s_frame_w5 {p : Program} {l : Launch} {e : Env} {s : State} {m : MethodId} {args : Array Value} {below : List Frame} {meth : Method} {c : Code} {H : Heap} {locs : List Loc} {ce7 sn7 : Nat} {Q : State → Prop} {g : GG} {b L xb r ob lim : Nat} {xs : Nat → Int32} {i9 : Nat} {ls : Array Slot} {q : Nat → Int32} {n : Nat} {rm sl sv tx : Nat → Int32} {ln : Nat} {zsp : Nat → Int32} {zth : Int32} {zsg : Nat → Int32} {zbg : Nat → Int32} {zwd : Nat → Int32} {zhg : Nat → Int32} {zin : Nat → Int32} {zop : Int32} {zbe : Int32} {zwi : Int32} {zhi : Int32} {zbk : Nat → Int32} {zot : Nat → Int32} {zer : Int32} {zen : Int32} {zpo : Nat → Int32} {zpi : Int32} {zgr : Int32} {zsh : Nat → Int32} {zsn : Int32} {o : Nat → Int64} (hfl : l.stackTraces = false) (hE : LE p s m meth c g b L xs xb r ob lim) (hi : 4 * i9 + 3 < L) (hC : CLS g xb lim q n rm sl sv tx ln H) (hR : ModAt g r q zsp rm (nI n) sl sv tx (nI ln) zth zsg zbg zwd zhg zin zop zbe zwi zhi zbk zot zer zen zpo zpi zgr zsh zsn H) (hO : at_ g H ob (eL g 1 o)) (hTx : TxT tx ln) (hS : va_S (fun q9 => xb ≤ q9) s.heap H locs) (hl : lv_has ls 7 [(0, .ref b), (1, .ref xb), (2, .ref r), (3, .ref ob), (4, .int (nI (4 * i9)))]) (hce7 : ce7 + 30 ≤ 622861) (hsn7 : sn7 + 1100 ≤ 7227521) (f : Nat) (a1 : xs (4 * i9 + 1) = nI f) (a2 : xs (4 * i9 + 2) = nI 5) (hf : f < 3) (kk : ∀ (H1 : Heap) (locs1 : List Loc) (ls1 : Array Slot), LI g xb r ob lim q n rm sl sv tx ln H1 → va_S (fun q9 => xb ≤ q9) s.heap H1 locs1 → lv_has ls1 7 [(0, .ref b), (1, .ref xb), (2, .ref r), (3, .ref ob), (4, .int (nI (4 * i9)))] → W p l e room_1 s m args below meth c H1 locs1 (ce7 + 30) (sn7 + 1100) Q (F0 m 1803 ls1 [])) : W p l e room_1 s m args below meth c H locs ce7 sn7 Q (F0 m 434 ls []) := by
  obtain ⟨hB, hZ9, hX, hbl, hL9, hxs, hr9, hob9, hlm9⟩ := hE
  have hx := hB.x
  have hb := hB.b
  have hbA : ¬ (fun q9 => xb ≤ q9) b := fun y9 => by have y8 : xb ≤ b := y9; omega
  have hW := hC.wf
  have hn14 := hC.n14
  have hl6c := hC.l60
  have hnm5 := hW.2.2.1
  refine lv_aload_n hx hb dL_law_434 rfl (lv_at hl 1 rfl) ?_
  refine lv_aload_n hx hb dL_law_435 rfl (lv_at hl 0 rfl) ?_
  refine lv_iload hx hb dL_law_436 (lv_at hl 4 rfl) ?_
  refine lv_iconst (v := nI 1) hx hb dL_law_438 (by decide) ?_
  refine mn_iadd hB dL_law_439 ?_
  refine va_sld hx hb hX hbl hbA hS (vp_in_nI (by omega) (by omega)) dL_law_440 ?_
  refine mh_top (y := .int (nI f)) (by rw [nI_clamp (by omega), a1]) ?_
  refine lv_aload_n hx hb dL_law_441 rfl (lv_at hl 0 rfl) ?_
  refine lv_iload hx hb dL_law_442 (lv_at hl 4 rfl) ?_
  refine lv_iconst (v := nI 2) hx hb dL_law_444 (by decide) ?_
  refine mn_iadd hB dL_law_445 ?_
  refine va_sld hx hb hX hbl hbA hS (vp_in_nI (by omega) (by omega)) dL_law_446 ?_
  refine mh_top (y := .int (nI 5)) (by rw [nI_clamp (by omega), a2]) ?_
  refine lv_aload_n hx hb dL_law_447 rfl (lv_at hl 3 rfl) ?_
  refine cw_123 (As := [.ref xb, .int (nI f), .int (nI 5), .ref ob]) (rest := []) hB (hZ9.at hS (fun _ h9 => h9)) (w_frame_w5 l g H xb lim q n rm sl sv tx ln f ob o (hC) (hO) (hf) (⟨by omega, by omega⟩) (hfl)) rfl hl.1 (Nat.le_of_ble_eq_true rfl) dL_law_448 ⟨Nat.le_of_ble_eq_true rfl, Nat.le_of_ble_eq_true rfl⟩ ⟨by show (ce7) + 0 ≤ 622861; omega, by show (sn7) + 0 ≤ 7227521; omega⟩ hS (by have hz9 := hS.1; rintro q9 (h9 | h9) <;> first | exact h9.elim | (have h8 : r ≤ q9 ∧ q9 < r + 16 := h9; show xb ≤ q9; omega) | (have h8 : ((xb ≤ q9 ∧ q9 < xb + 68) ∨ lim ≤ q9) ∨ q9 = ob := h9; show xb ≤ q9; omega) | (have h8 : (xb ≤ q9 ∧ q9 < xb + 68) ∨ lim ≤ q9 := h9; show xb ≤ q9; omega) | (show xb ≤ q9; omega)) (fun v H1 locs hpo hfr hS => ?_)
  obtain ⟨rfl, hC, hO⟩ := hpo
  have hR := hR.keptF hfr (fun q9 h1 h2 y9 => by first | exact y9.elim | (have y8 : ((xb ≤ q9 ∧ q9 < xb + 68) ∨ lim ≤ q9) ∨ q9 = ob := y9; omega) | (have y8 : (xb ≤ q9 ∧ q9 < xb + 68) ∨ lim ≤ q9 := y9; omega))
  generalize H1 = H at hfr hS hR hX hC hO ⊢
  refine W.widen (k := ce7) (n := sn7) (by show (ce7) + 0 ≤ ce7; omega) (by show (sn7) + 0 ≤ sn7; omega) ?_
  refine lv_istore (lv' := [(5, .int (nI 0)), (0, .ref b), (1, .ref xb), (2, .ref r), (3, .ref ob), (4, .int (nI (4 * i9)))]) hx hb dL_law_451 hl (by decide) rfl (fun ls hl => ?_)
  refine lv_aload_n hx hb dL_law_453 rfl (lv_at hl 3 rfl) ?_
  refine lv_aload_n hx hb dL_law_454 rfl (lv_at hl 1 rfl) ?_
  refine lv_iload hx hb dL_law_455 (lv_at hl 5 rfl) ?_
  refine lv_iconst (v := nI 1) hx hb dL_law_457 (by decide) ?_
  refine mn_iadd hB dL_law_458 ?_
  refine va_sld hx hb hX hbl hbA hS (vp_in_nI (by omega) (by omega)) dL_law_459 ?_
  refine mh_top (y := .int (nI f)) (by rw [nI_clamp (by omega), a1]) ?_
  refine lv_aload_n hx hb dL_law_460 rfl (lv_at hl 1 rfl) ?_
  refine lv_iload hx hb dL_law_461 (lv_at hl 5 rfl) ?_
  refine lv_iconst (v := nI 2) hx hb dL_law_463 (by decide) ?_
  refine mn_iadd hB dL_law_464 ?_
  refine va_sld hx hb hX hbl hbA hS (vp_in_nI (by omega) (by omega)) dL_law_465 ?_
  refine mh_top (y := .int (nI 5)) (by rw [nI_clamp (by omega), a2]) ?_
  refine cl_L_125 (As := [.int (nI f), .int (nI 5)]) (rest := []) hB (c_X11_frame_p l g H r q zsp rm (nI n) sl sv tx (nI ln) zth zsg zbg zwd zhg zin zop zbe zwi zhi zbk zot zer zen zpo zpi zgr zsh zsn f hR (by first | assumption | omega) (hf)) hR.o rfl hl.1 (Nat.le_of_ble_eq_true rfl) dL_law_466 ⟨Nat.le_of_ble_eq_true rfl, Nat.le_of_ble_eq_true rfl⟩ ⟨by show (ce7) + 0 ≤ 622861; omega, by show (sn7) + 0 ≤ 7227521; omega⟩ hS (by have hz9 := hS.1; rintro q9 (h9 | h9) <;> first | exact h9.elim | (have h8 : r ≤ q9 ∧ q9 < r + 16 := h9; show xb ≤ q9; omega) | (have h8 : ((xb ≤ q9 ∧ q9 < xb + 68) ∨ lim ≤ q9) ∨ q9 = ob := h9; show xb ≤ q9; omega) | (have h8 : (xb ≤ q9 ∧ q9 < xb + 68) ∨ lim ≤ q9 := h9; show xb ≤ q9; omega) | (show xb ≤ q9; omega)) (fun v H1 locs hpo hfr hS => ?_)
  obtain ⟨rfl, po2_1, hR⟩ := hpo
  have hC := hC.keptM hfr (fun a9 y9 => by first | exact y9.elim | (have y8 : r ≤ a9 ∧ a9 < r + 16 := y9; omega))
  have hO := Fr.keep hfr hO (fun y9 => by first | exact y9.elim | (have y8 : r ≤ ob ∧ ob < r + 16 := y9; omega) | (have y8 : (xb ≤ ob ∧ ob < xb + 68) ∨ lim ≤ ob := y9; omega))
  generalize H1 = H at hfr hS hX hC hO hR ⊢
  refine W.widen (k := ce7) (n := sn7) (by show (ce7) + 0 ≤ ce7; omega) (by show (sn7) + 0 ≤ sn7; omega) ?_
  refine lv_istore (lv' := [(6, .int (nI (pcN (labC (wdF q f) (szF q f) (clF q f)) (szF q f) (szF q f)))), (5, .int (nI 0)), (0, .ref b), (1, .ref xb), (2, .ref r), (3, .ref ob), (4, .int (nI (4 * i9)))]) hx hb dL_law_469 hl (by decide) rfl (fun ls hl => ?_)
  refine lv_aload_n hx hb dL_law_471 rfl (lv_at hl 4 rfl) ?_
  refine cl_L_102 (As := []) (rest := []) hB (c_X11_thrown l g H r q zsp rm (nI n) sl sv tx (nI ln) (nI 0) zsg zbg zwd zhg zin zop zbe zwi zhi zbk zot zer zen po2_1 (nI (pcN (labC (wdF q f) (szF q f) (clF q f)) (szF q f) (szF q f))) (nI (grN (labC (wdF q f) (szF q f) (clF q f)) (szF q f) (szF q f))) zsh zsn hR) hR.o rfl hl.1 (Nat.le_of_ble_eq_true rfl) dL_law_472 ⟨Nat.le_of_ble_eq_true rfl, Nat.le_of_ble_eq_true rfl⟩ ⟨by show (ce7) + 0 ≤ 622861; omega, by show (sn7) + 0 ≤ 7227521; omega⟩ hS (by have hz9 := hS.1; rintro q9 (h9 | h9) <;> first | exact h9.elim | (have h8 : r ≤ q9 ∧ q9 < r + 16 := h9; show xb ≤ q9; omega) | (have h8 : ((xb ≤ q9 ∧ q9 < xb + 68) ∨ lim ≤ q9) ∨ q9 = ob := h9; show xb ≤ q9; omega) | (have h8 : (xb ≤ q9 ∧ q9 < xb + 68) ∨ lim ≤ q9 := h9; show xb ≤ q9; omega) | (show xb ≤ q9; omega)) (fun v H1 locs hpo hfr hS => ?_)
  obtain ⟨rfl, rfl⟩ := hpo
  refine W.widen (k := ce7) (n := sn7) (by show (ce7) + 0 ≤ ce7; omega) (by show (sn7) + 0 ≤ sn7; omega) ?_
  refine lv_iload hx hb dL_law_475 (lv_at hl 1 rfl) ?_
  refine lv_icmp_eq (tgt := 482) hx hb dL_law_477 (by decide) (fun h_477 => ?_) (fun h9 => absurd rfl h9)
  refine lv_iload hx hb dL_law_482 (lv_at hl 1 rfl) ?_
  refine mn_if_ne (tgt := 499) hB dL_law_484 (by decide) (by omega) (fun h => by exfalso; omega) (fun h_484 => ?_)
  refine lv_aload_n hx hb dL_law_487 rfl (lv_at hl 5 rfl) ?_
  refine lv_iconst (v := nI 0) hx hb dL_law_488 (by decide) ?_
  refine mn_lald hB hO (by omega) (by omega) dL_law_489 ?_
  refine mh_top (y := .long ((nI (pcN (labC (wdF q f) (szF q f) (clF q f)) (szF q f) (szF q f))).toInt64)) (rfl) ?_
  refine lv_iload hx hb dL_law_490 (lv_at hl 0 rfl) ?_
  refine lv_i2l (v := (nI (pcN (labC (wdF q f) (szF q f) (clF q f)) (szF q f) (szF q f))).toInt64) hx hb dL_law_492 rfl ?_
  refine W.lcmp hx hb dL_law_493 ?_
  refine ml_if_eq (tgt := 499) hB dL_law_494 (by decide) (fun h_494 => ?_) (fun h => absurd rfl h)
  refine lv_goto (tgt := 1803) hx hb dL_law_499 (by decide) ?_
  refine W.widen (k := ce7 + 30) (n := sn7 + 1100) (by omega) (by omega) ?_
  exact kk _ _ _ ⟨hC, ⟨_, _, _, _, _, _, _, _, _, _, _, _, _, _, _, _, _, _, _, _, hR⟩, ⟨_, hO⟩, hTx⟩ hS (lv_sub hl [2, 3, 4, 5, 6] rfl)

set_option maxRecDepth 100000 in
set_option maxHeartbeats 800000 in
theorem s_frame_w6 {p : Program} {l : Launch} {e : Env} {s : State} {m : MethodId} {args : Array Value} {below : List Frame} {meth : Method} {c : Code} {H : Heap} {locs : List Loc} {ce7 sn7 : Nat} {Q : State → Prop} {g : GG} {b L xb r ob lim : Nat} {xs : Nat → Int32} {i9 : Nat} {ls : Array Slot} {q : Nat → Int32} {n : Nat} {rm sl sv tx : Nat → Int32} {ln : Nat} {zsp : Nat → Int32} {zth : Int32} {zsg : Nat → Int32} {zbg : Nat → Int32} {zwd : Nat → Int32} {zhg : Nat → Int32} {zin : Nat → Int32} {zop : Int32} {zbe : Int32} {zwi : Int32} {zhi : Int32} {zbk : Nat → Int32} {zot : Nat → Int32} {zer : Int32} {zen : Int32} {zpo : Nat → Int32} {zpi : Int32} {zgr : Int32} {zsh : Nat → Int32} {zsn : Int32} {o : Nat → Int64} (hfl : l.stackTraces = false) (hE : LE p s m meth c g b L xs xb r ob lim) (hi : 4 * i9 + 3 < L) (hC : CLS g xb lim q n rm sl sv tx ln H) (hR : ModAt g r q zsp rm (nI n) sl sv tx (nI ln) zth zsg zbg zwd zhg zin zop zbe zwi zhi zbk zot zer zen zpo zpi zgr zsh zsn H) (hO : at_ g H ob (eL g 1 o)) (hTx : TxT tx ln) (hS : va_S (fun q9 => xb ≤ q9) s.heap H locs) (hl : lv_has ls 7 [(0, .ref b), (1, .ref xb), (2, .ref r), (3, .ref ob), (4, .int (nI (4 * i9)))]) (hce7 : ce7 + 30 ≤ 622861) (hsn7 : sn7 + 1100 ≤ 7227521) (f : Nat) (a1 : xs (4 * i9 + 1) = nI f) (a2 : xs (4 * i9 + 2) = nI 6) (hf : f < 3) (kk : ∀ (H1 : Heap) (locs1 : List Loc) (ls1 : Array Slot), LI g xb r ob lim q n rm sl sv tx ln H1 → va_S (fun q9 => xb ≤ q9) s.heap H1 locs1 → lv_has ls1 7 [(0, .ref b), (1, .ref xb), (2, .ref r), (3, .ref ob), (4, .int (nI (4 * i9)))] → W p l e room_1 s m args below meth c H1 locs1 (ce7 + 30) (sn7 + 1100) Q (F0 m 1803 ls1 [])) : W p l e room_1 s m args below meth c H locs ce7 sn7 Q (F0 m 434 ls []) := by
  obtain ⟨hB, hZ9, hX, hbl, hL9, hxs, hr9, hob9, hlm9⟩ := hE
  have hx := hB.x
  have hb := hB.b
  have hbA : ¬ (fun q9 => xb ≤ q9) b := fun y9 => by have y8 : xb ≤ b := y9; omega
  have hW := hC.wf
  have hn14 := hC.n14
  have hl6c := hC.l60
  have hnm5 := hW.2.2.1
  refine lv_aload_n hx hb dL_law_434 rfl (lv_at hl 1 rfl) ?_
  refine lv_aload_n hx hb dL_law_435 rfl (lv_at hl 0 rfl) ?_
  refine lv_iload hx hb dL_law_436 (lv_at hl 4 rfl) ?_
  refine lv_iconst (v := nI 1) hx hb dL_law_438 (by decide) ?_
  refine mn_iadd hB dL_law_439 ?_
  refine va_sld hx hb hX hbl hbA hS (vp_in_nI (by omega) (by omega)) dL_law_440 ?_
  refine mh_top (y := .int (nI f)) (by rw [nI_clamp (by omega), a1]) ?_
  refine lv_aload_n hx hb dL_law_441 rfl (lv_at hl 0 rfl) ?_
  refine lv_iload hx hb dL_law_442 (lv_at hl 4 rfl) ?_
  refine lv_iconst (v := nI 2) hx hb dL_law_444 (by decide) ?_
  refine mn_iadd hB dL_law_445 ?_
  refine va_sld hx hb hX hbl hbA hS (vp_in_nI (by omega) (by omega)) dL_law_446 ?_
  refine mh_top (y := .int (nI 6)) (by rw [nI_clamp (by omega), a2]) ?_
  refine lv_aload_n hx hb dL_law_447 rfl (lv_at hl 3 rfl) ?_
  refine cw_123 (As := [.ref xb, .int (nI f), .int (nI 6), .ref ob]) (rest := []) hB (hZ9.at hS (fun _ h9 => h9)) (w_frame_w6 l g H xb lim q n rm sl sv tx ln f ob o (hC) (hO) (hf) (⟨by omega, by omega⟩) (hfl)) rfl hl.1 (Nat.le_of_ble_eq_true rfl) dL_law_448 ⟨Nat.le_of_ble_eq_true rfl, Nat.le_of_ble_eq_true rfl⟩ ⟨by show (ce7) + 0 ≤ 622861; omega, by show (sn7) + 0 ≤ 7227521; omega⟩ hS (by have hz9 := hS.1; rintro q9 (h9 | h9) <;> first | exact h9.elim | (have h8 : r ≤ q9 ∧ q9 < r + 16 := h9; show xb ≤ q9; omega) | (have h8 : ((xb ≤ q9 ∧ q9 < xb + 68) ∨ lim ≤ q9) ∨ q9 = ob := h9; show xb ≤ q9; omega) | (have h8 : (xb ≤ q9 ∧ q9 < xb + 68) ∨ lim ≤ q9 := h9; show xb ≤ q9; omega) | (show xb ≤ q9; omega)) (fun v H1 locs hpo hfr hS => ?_)
  obtain ⟨rfl, hC, hO⟩ := hpo
  have hR := hR.keptF hfr (fun q9 h1 h2 y9 => by first | exact y9.elim | (have y8 : ((xb ≤ q9 ∧ q9 < xb + 68) ∨ lim ≤ q9) ∨ q9 = ob := y9; omega) | (have y8 : (xb ≤ q9 ∧ q9 < xb + 68) ∨ lim ≤ q9 := y9; omega))
  generalize H1 = H at hfr hS hR hX hC hO ⊢
  refine W.widen (k := ce7) (n := sn7) (by show (ce7) + 0 ≤ ce7; omega) (by show (sn7) + 0 ≤ sn7; omega) ?_
  refine lv_istore (lv' := [(5, .int (nI 0)), (0, .ref b), (1, .ref xb), (2, .ref r), (3, .ref ob), (4, .int (nI (4 * i9)))]) hx hb dL_law_451 hl (by decide) rfl (fun ls hl => ?_)
  refine lv_aload_n hx hb dL_law_453 rfl (lv_at hl 3 rfl) ?_
  refine lv_aload_n hx hb dL_law_454 rfl (lv_at hl 1 rfl) ?_
  refine lv_iload hx hb dL_law_455 (lv_at hl 5 rfl) ?_
  refine lv_iconst (v := nI 1) hx hb dL_law_457 (by decide) ?_
  refine mn_iadd hB dL_law_458 ?_
  refine va_sld hx hb hX hbl hbA hS (vp_in_nI (by omega) (by omega)) dL_law_459 ?_
  refine mh_top (y := .int (nI f)) (by rw [nI_clamp (by omega), a1]) ?_
  refine lv_aload_n hx hb dL_law_460 rfl (lv_at hl 1 rfl) ?_
  refine lv_iload hx hb dL_law_461 (lv_at hl 5 rfl) ?_
  refine lv_iconst (v := nI 2) hx hb dL_law_463 (by decide) ?_
  refine mn_iadd hB dL_law_464 ?_
  refine va_sld hx hb hX hbl hbA hS (vp_in_nI (by omega) (by omega)) dL_law_465 ?_
  refine mh_top (y := .int (nI 6)) (by rw [nI_clamp (by omega), a2]) ?_
  refine cl_L_125 (As := [.int (nI f), .int (nI 6)]) (rest := []) hB (c_X11_frame_g l g H r q zsp rm (nI n) sl sv tx (nI ln) zth zsg zbg zwd zhg zin zop zbe zwi zhi zbk zot zer zen zpo zpi zgr zsh zsn f hR (by first | assumption | omega) (hf)) hR.o rfl hl.1 (Nat.le_of_ble_eq_true rfl) dL_law_466 ⟨Nat.le_of_ble_eq_true rfl, Nat.le_of_ble_eq_true rfl⟩ ⟨by show (ce7) + 0 ≤ 622861; omega, by show (sn7) + 0 ≤ 7227521; omega⟩ hS (by have hz9 := hS.1; rintro q9 (h9 | h9) <;> first | exact h9.elim | (have h8 : r ≤ q9 ∧ q9 < r + 16 := h9; show xb ≤ q9; omega) | (have h8 : ((xb ≤ q9 ∧ q9 < xb + 68) ∨ lim ≤ q9) ∨ q9 = ob := h9; show xb ≤ q9; omega) | (have h8 : (xb ≤ q9 ∧ q9 < xb + 68) ∨ lim ≤ q9 := h9; show xb ≤ q9; omega) | (show xb ≤ q9; omega)) (fun v H1 locs hpo hfr hS => ?_)
  obtain ⟨rfl, po2_1, hR⟩ := hpo
  have hC := hC.keptM hfr (fun a9 y9 => by first | exact y9.elim | (have y8 : r ≤ a9 ∧ a9 < r + 16 := y9; omega))
  have hO := Fr.keep hfr hO (fun y9 => by first | exact y9.elim | (have y8 : r ≤ ob ∧ ob < r + 16 := y9; omega) | (have y8 : (xb ≤ ob ∧ ob < xb + 68) ∨ lim ≤ ob := y9; omega))
  generalize H1 = H at hfr hS hX hC hO hR ⊢
  refine W.widen (k := ce7) (n := sn7) (by show (ce7) + 0 ≤ ce7; omega) (by show (sn7) + 0 ≤ sn7; omega) ?_
  refine lv_istore (lv' := [(6, .int (nI (grN (labC (wdF q f) (szF q f) (clF q f)) (szF q f) (szF q f)))), (5, .int (nI 0)), (0, .ref b), (1, .ref xb), (2, .ref r), (3, .ref ob), (4, .int (nI (4 * i9)))]) hx hb dL_law_469 hl (by decide) rfl (fun ls hl => ?_)
  refine lv_aload_n hx hb dL_law_471 rfl (lv_at hl 4 rfl) ?_
  refine cl_L_102 (As := []) (rest := []) hB (c_X11_thrown l g H r q zsp rm (nI n) sl sv tx (nI ln) (nI 0) zsg zbg zwd zhg zin zop zbe zwi zhi zbk zot zer zen po2_1 (nI (pcN (labC (wdF q f) (szF q f) (clF q f)) (szF q f) (szF q f))) (nI (grN (labC (wdF q f) (szF q f) (clF q f)) (szF q f) (szF q f))) zsh zsn hR) hR.o rfl hl.1 (Nat.le_of_ble_eq_true rfl) dL_law_472 ⟨Nat.le_of_ble_eq_true rfl, Nat.le_of_ble_eq_true rfl⟩ ⟨by show (ce7) + 0 ≤ 622861; omega, by show (sn7) + 0 ≤ 7227521; omega⟩ hS (by have hz9 := hS.1; rintro q9 (h9 | h9) <;> first | exact h9.elim | (have h8 : r ≤ q9 ∧ q9 < r + 16 := h9; show xb ≤ q9; omega) | (have h8 : ((xb ≤ q9 ∧ q9 < xb + 68) ∨ lim ≤ q9) ∨ q9 = ob := h9; show xb ≤ q9; omega) | (have h8 : (xb ≤ q9 ∧ q9 < xb + 68) ∨ lim ≤ q9 := h9; show xb ≤ q9; omega) | (show xb ≤ q9; omega)) (fun v H1 locs hpo hfr hS => ?_)
  obtain ⟨rfl, rfl⟩ := hpo
  refine W.widen (k := ce7) (n := sn7) (by show (ce7) + 0 ≤ ce7; omega) (by show (sn7) + 0 ≤ sn7; omega) ?_
  refine lv_iload hx hb dL_law_475 (lv_at hl 1 rfl) ?_
  refine lv_icmp_eq (tgt := 482) hx hb dL_law_477 (by decide) (fun h_477 => ?_) (fun h9 => absurd rfl h9)
  refine lv_iload hx hb dL_law_482 (lv_at hl 1 rfl) ?_
  refine mn_if_ne (tgt := 499) hB dL_law_484 (by decide) (by omega) (fun h => by exfalso; omega) (fun h_484 => ?_)
  refine lv_aload_n hx hb dL_law_487 rfl (lv_at hl 5 rfl) ?_
  refine lv_iconst (v := nI 0) hx hb dL_law_488 (by decide) ?_
  refine mn_lald hB hO (by omega) (by omega) dL_law_489 ?_
  refine mh_top (y := .long ((nI (grN (labC (wdF q f) (szF q f) (clF q f)) (szF q f) (szF q f))).toInt64)) (rfl) ?_
  refine lv_iload hx hb dL_law_490 (lv_at hl 0 rfl) ?_
  refine lv_i2l (v := (nI (grN (labC (wdF q f) (szF q f) (clF q f)) (szF q f) (szF q f))).toInt64) hx hb dL_law_492 rfl ?_
  refine W.lcmp hx hb dL_law_493 ?_
  refine ml_if_eq (tgt := 499) hB dL_law_494 (by decide) (fun h_494 => ?_) (fun h => absurd rfl h)
  refine lv_goto (tgt := 1803) hx hb dL_law_499 (by decide) ?_
  refine W.widen (k := ce7 + 30) (n := sn7 + 1100) (by omega) (by omega) ?_
  exact kk _ _ _ ⟨hC, ⟨_, _, _, _, _, _, _, _, _, _, _, _, _, _, _, _, _, _, _, _, hR⟩, ⟨_, hO⟩, hTx⟩ hS (lv_sub hl [2, 3, 4, 5, 6] rfl)

set_option maxRecDepth 100000 in
set_option maxHeartbeats 800000 in
theorem s_patch_t1 {p : Program} {l : Launch} {e : Env} {s : State} {m : MethodId} {args : Array Value} {below : List Frame} {meth : Method} {c : Code} {H : Heap} {locs : List Loc} {ce7 sn7 : Nat} {Q : State → Prop} {g : GG} {b L xb r ob lim : Nat} {xs : Nat → Int32} {i9 : Nat} {ls : Array Slot} {q : Nat → Int32} {n : Nat} {rm sl sv tx : Nat → Int32} {ln : Nat} {zsp : Nat → Int32} {zth : Int32} {zsg : Nat → Int32} {zbg : Nat → Int32} {zwd : Nat → Int32} {zhg : Nat → Int32} {zin : Nat → Int32} {zop : Int32} {zbe : Int32} {zwi : Int32} {zhi : Int32} {zbk : Nat → Int32} {zot : Nat → Int32} {zer : Int32} {zen : Int32} {zpo : Nat → Int32} {zpi : Int32} {zgr : Int32} {zsh : Nat → Int32} {zsn : Int32} {o : Nat → Int64} (hfl : l.stackTraces = false) (hE : LE p s m meth c g b L xs xb r ob lim) (hi : 4 * i9 + 3 < L) (hC : CLS g xb lim q n rm sl sv tx ln H) (hR : ModAt g r q zsp rm (nI n) sl sv tx (nI ln) zth zsg zbg zwd zhg zin zop zbe zwi zhi zbk zot zer zen zpo zpi zgr zsh zsn H) (hO : at_ g H ob (eL g 1 o)) (hTx : TxT tx ln) (hS : va_S (fun q9 => xb ≤ q9) s.heap H locs) (hl : lv_has ls 7 [(0, .ref b), (1, .ref xb), (2, .ref r), (3, .ref ob), (4, .int (nI (4 * i9)))]) (hce7 : ce7 + 30 ≤ 622861) (hsn7 : sn7 + 1100 ≤ 7227521) (x : Int32) (y : Int32) (z : Int32) (a1 : xs (4 * i9 + 1) = x) (a2 : xs (4 * i9 + 2) = y) (a3 : xs (4 * i9 + 3) = z) (hx1 : isIx x 3 = false) (kk : ∀ (H1 : Heap) (locs1 : List Loc) (ls1 : Array Slot), LI g xb r ob lim q n rm sl sv tx ln H1 → va_S (fun q9 => xb ≤ q9) s.heap H1 locs1 → lv_has ls1 7 [(0, .ref b), (1, .ref xb), (2, .ref r), (3, .ref ob), (4, .int (nI (4 * i9)))] → W p l e room_1 s m args below meth c H1 locs1 (ce7 + 30) (sn7 + 1100) Q (F0 m 1803 ls1 [])) : W p l e room_1 s m args below meth c H locs ce7 sn7 Q (F0 m 502 ls []) := by
  obtain ⟨hB, hZ9, hX, hbl, hL9, hxs, hr9, hob9, hlm9⟩ := hE
  have hx := hB.x
  have hb := hB.b
  have hbA : ¬ (fun q9 => xb ≤ q9) b := fun y9 => by have y8 : xb ≤ b := y9; omega
  have hW := hC.wf
  have hn14 := hC.n14
  have hl6c := hC.l60
  have hnm5 := hW.2.2.1
  refine lv_aload_n hx hb dL_law_502 rfl (lv_at hl 1 rfl) ?_
  refine lv_aload_n hx hb dL_law_503 rfl (lv_at hl 0 rfl) ?_
  refine lv_iload hx hb dL_law_504 (lv_at hl 4 rfl) ?_
  refine lv_iconst (v := nI 1) hx hb dL_law_506 (by decide) ?_
  refine mn_iadd hB dL_law_507 ?_
  refine va_sld hx hb hX hbl hbA hS (vp_in_nI (by omega) (by omega)) dL_law_508 ?_
  refine mh_top (y := .int x) (by rw [nI_clamp (by omega), a1]) ?_
  refine lv_aload_n hx hb dL_law_509 rfl (lv_at hl 0 rfl) ?_
  refine lv_iload hx hb dL_law_510 (lv_at hl 4 rfl) ?_
  refine lv_iconst (v := nI 2) hx hb dL_law_512 (by decide) ?_
  refine mn_iadd hB dL_law_513 ?_
  refine va_sld hx hb hX hbl hbA hS (vp_in_nI (by omega) (by omega)) dL_law_514 ?_
  refine mh_top (y := .int y) (by rw [nI_clamp (by omega), a2]) ?_
  refine lv_aload_n hx hb dL_law_515 rfl (lv_at hl 0 rfl) ?_
  refine lv_iload hx hb dL_law_516 (lv_at hl 4 rfl) ?_
  refine lv_iconst (v := nI 3) hx hb dL_law_518 (by decide) ?_
  refine mn_iadd hB dL_law_519 ?_
  refine va_sld hx hb hX hbl hbA hS (vp_in_nI (by omega) (by omega)) dL_law_520 ?_
  refine mh_top (y := .int z) (by rw [nI_clamp (by omega), a3]) ?_
  refine lv_aload_n hx hb dL_law_521 rfl (lv_at hl 3 rfl) ?_
  refine cw_126 (As := [.ref xb, .int x, .int y, .int z, .ref ob]) (rest := []) hB (hZ9.at hS (fun _ h9 => h9)) (w_patch_t1 l g H xb lim q n rm sl sv tx ln x y z ob o (hC) (hO) (hx1) (⟨by omega, by omega⟩) (hfl)) rfl hl.1 (Nat.le_of_ble_eq_true rfl) dL_law_522 ⟨Nat.le_of_ble_eq_true rfl, Nat.le_of_ble_eq_true rfl⟩ ⟨by show (ce7) + 1 ≤ 622861; omega, by show (sn7) + 6 ≤ 7227521; omega⟩ hS (by have hz9 := hS.1; rintro q9 (h9 | h9) <;> first | exact h9.elim | (have h8 : r ≤ q9 ∧ q9 < r + 16 := h9; show xb ≤ q9; omega) | (have h8 : ((xb ≤ q9 ∧ q9 < xb + 68) ∨ lim ≤ q9) ∨ q9 = ob := h9; show xb ≤ q9; omega) | (have h8 : (xb ≤ q9 ∧ q9 < xb + 68) ∨ lim ≤ q9 := h9; show xb ≤ q9; omega) | (show xb ≤ q9; omega)) (fun v H1 locs hpo hfr hS => ?_)
  obtain ⟨rfl, hC, hO⟩ := hpo
  have hR := hR.keptF hfr (fun q9 h1 h2 y9 => by first | exact y9.elim | (have y8 : ((xb ≤ q9 ∧ q9 < xb + 68) ∨ lim ≤ q9) ∨ q9 = ob := y9; omega) | (have y8 : (xb ≤ q9 ∧ q9 < xb + 68) ∨ lim ≤ q9 := y9; omega))
  generalize H1 = H at hfr hS hR hX hC hO ⊢
  refine W.widen (k := ce7 + 1) (n := sn7 + 6) (by show (ce7) + 1 ≤ ce7 + 1; omega) (by show (sn7) + 6 ≤ sn7 + 6; omega) ?_
  refine lv_istore (lv' := [(5, .int (nI 1)), (0, .ref b), (1, .ref xb), (2, .ref r), (3, .ref ob), (4, .int (nI (4 * i9)))]) hx hb dL_law_525 hl (by decide) rfl (fun ls hl => ?_)
  refine lv_aload_n hx hb dL_law_527 rfl (lv_at hl 3 rfl) ?_
  refine lv_aload_n hx hb dL_law_528 rfl (lv_at hl 1 rfl) ?_
  refine lv_iload hx hb dL_law_529 (lv_at hl 5 rfl) ?_
  refine lv_iconst (v := nI 1) hx hb dL_law_531 (by decide) ?_
  refine mn_iadd hB dL_law_532 ?_
  refine va_sld hx hb hX hbl hbA hS (vp_in_nI (by omega) (by omega)) dL_law_533 ?_
  refine mh_top (y := .int x) (by rw [nI_clamp (by omega), a1]) ?_
  refine lv_aload_n hx hb dL_law_534 rfl (lv_at hl 1 rfl) ?_
  refine lv_iload hx hb dL_law_535 (lv_at hl 5 rfl) ?_
  refine lv_iconst (v := nI 2) hx hb dL_law_537 (by decide) ?_
  refine mn_iadd hB dL_law_538 ?_
  refine va_sld hx hb hX hbl hbA hS (vp_in_nI (by omega) (by omega)) dL_law_539 ?_
  refine mh_top (y := .int y) (by rw [nI_clamp (by omega), a2]) ?_
  refine lv_aload_n hx hb dL_law_540 rfl (lv_at hl 1 rfl) ?_
  refine lv_iload hx hb dL_law_541 (lv_at hl 5 rfl) ?_
  refine lv_iconst (v := nI 3) hx hb dL_law_543 (by decide) ?_
  refine mn_iadd hB dL_law_544 ?_
  refine va_sld hx hb hX hbl hbA hS (vp_in_nI (by omega) (by omega)) dL_law_545 ?_
  refine mh_top (y := .int z) (by rw [nI_clamp (by omega), a3]) ?_
  refine cl_L_129 (As := [.int x, .int y, .int z]) (rest := []) hB (c_X11_patch_t1 l g H r q zsp rm (nI n) sl sv tx (nI ln) zth zsg zbg zwd zhg zin zop zbe zwi zhi zbk zot zer zen zpo zpi zgr zsh zsn x y z hR (hx1)) hR.o rfl hl.1 (Nat.le_of_ble_eq_true rfl) dL_law_546 ⟨Nat.le_of_ble_eq_true rfl, Nat.le_of_ble_eq_true rfl⟩ ⟨by show (ce7 + 1) + 0 ≤ 622861; omega, by show (sn7 + 6) + 0 ≤ 7227521; omega⟩ hS (by have hz9 := hS.1; rintro q9 (h9 | h9) <;> first | exact h9.elim | (have h8 : r ≤ q9 ∧ q9 < r + 16 := h9; show xb ≤ q9; omega) | (have h8 : ((xb ≤ q9 ∧ q9 < xb + 68) ∨ lim ≤ q9) ∨ q9 = ob := h9; show xb ≤ q9; omega) | (have h8 : (xb ≤ q9 ∧ q9 < xb + 68) ∨ lim ≤ q9 := h9; show xb ≤ q9; omega) | (show xb ≤ q9; omega)) (fun v H1 locs hpo hfr hS => ?_)
  obtain ⟨rfl, hR⟩ := hpo
  have hC := hC.keptM hfr (fun a9 y9 => by first | exact y9.elim | (have y8 : r ≤ a9 ∧ a9 < r + 16 := y9; omega))
  have hO := Fr.keep hfr hO (fun y9 => by first | exact y9.elim | (have y8 : r ≤ ob ∧ ob < r + 16 := y9; omega) | (have y8 : (xb ≤ ob ∧ ob < xb + 68) ∨ lim ≤ ob := y9; omega))
  generalize H1 = H at hfr hS hX hC hO hR ⊢
  refine W.widen (k := ce7 + 1) (n := sn7 + 6) (by show (ce7 + 1) + 0 ≤ ce7 + 1; omega) (by show (sn7 + 6) + 0 ≤ sn7 + 6; omega) ?_
  refine lv_istore (lv' := [(6, .int (nI 0)), (5, .int (nI 1)), (0, .ref b), (1, .ref xb), (2, .ref r), (3, .ref ob), (4, .int (nI (4 * i9)))]) hx hb dL_law_549 hl (by decide) rfl (fun ls hl => ?_)
  refine lv_aload_n hx hb dL_law_551 rfl (lv_at hl 4 rfl) ?_
  refine cl_L_102 (As := []) (rest := []) hB (c_X11_thrown l g H r q zsp rm (nI n) sl sv tx (nI ln) (nI 1) zsg zbg zwd zhg zin zop zbe zwi zhi zbk zot zer zen zpo zpi zgr zsh zsn hR) hR.o rfl hl.1 (Nat.le_of_ble_eq_true rfl) dL_law_552 ⟨Nat.le_of_ble_eq_true rfl, Nat.le_of_ble_eq_true rfl⟩ ⟨by show (ce7 + 1) + 0 ≤ 622861; omega, by show (sn7 + 6) + 0 ≤ 7227521; omega⟩ hS (by have hz9 := hS.1; rintro q9 (h9 | h9) <;> first | exact h9.elim | (have h8 : r ≤ q9 ∧ q9 < r + 16 := h9; show xb ≤ q9; omega) | (have h8 : ((xb ≤ q9 ∧ q9 < xb + 68) ∨ lim ≤ q9) ∨ q9 = ob := h9; show xb ≤ q9; omega) | (have h8 : (xb ≤ q9 ∧ q9 < xb + 68) ∨ lim ≤ q9 := h9; show xb ≤ q9; omega) | (show xb ≤ q9; omega)) (fun v H1 locs hpo hfr hS => ?_)
  obtain ⟨rfl, rfl⟩ := hpo
  refine W.widen (k := ce7 + 1) (n := sn7 + 6) (by show (ce7 + 1) + 0 ≤ ce7 + 1; omega) (by show (sn7 + 6) + 0 ≤ sn7 + 6; omega) ?_
  refine lv_iload hx hb dL_law_555 (lv_at hl 1 rfl) ?_
  refine lv_icmp_eq (tgt := 562) hx hb dL_law_557 (by decide) (fun h_557 => ?_) (fun h9 => absurd rfl h9)
  refine lv_iload hx hb dL_law_562 (lv_at hl 1 rfl) ?_
  refine mn_if_ne (tgt := 579) hB dL_law_564 (by decide) (by omega) (fun h_564 => ?_) (fun h => by exfalso; omega)
  refine lv_goto (tgt := 1803) hx hb dL_law_579 (by decide) ?_
  refine W.widen (k := ce7 + 30) (n := sn7 + 1100) (by omega) (by omega) ?_
  exact kk _ _ _ ⟨hC, ⟨_, _, _, _, _, _, _, _, _, _, _, _, _, _, _, _, _, _, _, _, hR⟩, ⟨_, hO⟩, hTx⟩ hS (lv_sub hl [2, 3, 4, 5, 6] rfl)

set_option maxRecDepth 100000 in
set_option maxHeartbeats 800000 in
theorem s_patch_t2 {p : Program} {l : Launch} {e : Env} {s : State} {m : MethodId} {args : Array Value} {below : List Frame} {meth : Method} {c : Code} {H : Heap} {locs : List Loc} {ce7 sn7 : Nat} {Q : State → Prop} {g : GG} {b L xb r ob lim : Nat} {xs : Nat → Int32} {i9 : Nat} {ls : Array Slot} {q : Nat → Int32} {n : Nat} {rm sl sv tx : Nat → Int32} {ln : Nat} {zsp : Nat → Int32} {zth : Int32} {zsg : Nat → Int32} {zbg : Nat → Int32} {zwd : Nat → Int32} {zhg : Nat → Int32} {zin : Nat → Int32} {zop : Int32} {zbe : Int32} {zwi : Int32} {zhi : Int32} {zbk : Nat → Int32} {zot : Nat → Int32} {zer : Int32} {zen : Int32} {zpo : Nat → Int32} {zpi : Int32} {zgr : Int32} {zsh : Nat → Int32} {zsn : Int32} {o : Nat → Int64} (hfl : l.stackTraces = false) (hE : LE p s m meth c g b L xs xb r ob lim) (hi : 4 * i9 + 3 < L) (hC : CLS g xb lim q n rm sl sv tx ln H) (hR : ModAt g r q zsp rm (nI n) sl sv tx (nI ln) zth zsg zbg zwd zhg zin zop zbe zwi zhi zbk zot zer zen zpo zpi zgr zsh zsn H) (hO : at_ g H ob (eL g 1 o)) (hTx : TxT tx ln) (hS : va_S (fun q9 => xb ≤ q9) s.heap H locs) (hl : lv_has ls 7 [(0, .ref b), (1, .ref xb), (2, .ref r), (3, .ref ob), (4, .int (nI (4 * i9)))]) (hce7 : ce7 + 30 ≤ 622861) (hsn7 : sn7 + 1100 ≤ 7227521) (f : Nat) (y : Int32) (z : Int32) (a1 : xs (4 * i9 + 1) = nI f) (a2 : xs (4 * i9 + 2) = y) (a3 : xs (4 * i9 + 3) = z) (hf : f < 3) (hx1 : y < 0 ∨ z < 0) (kk : ∀ (H1 : Heap) (locs1 : List Loc) (ls1 : Array Slot), LI g xb r ob lim q n rm sl sv tx ln H1 → va_S (fun q9 => xb ≤ q9) s.heap H1 locs1 → lv_has ls1 7 [(0, .ref b), (1, .ref xb), (2, .ref r), (3, .ref ob), (4, .int (nI (4 * i9)))] → W p l e room_1 s m args below meth c H1 locs1 (ce7 + 30) (sn7 + 1100) Q (F0 m 1803 ls1 [])) : W p l e room_1 s m args below meth c H locs ce7 sn7 Q (F0 m 502 ls []) := by
  obtain ⟨hB, hZ9, hX, hbl, hL9, hxs, hr9, hob9, hlm9⟩ := hE
  have hx := hB.x
  have hb := hB.b
  have hbA : ¬ (fun q9 => xb ≤ q9) b := fun y9 => by have y8 : xb ≤ b := y9; omega
  have hW := hC.wf
  have hn14 := hC.n14
  have hl6c := hC.l60
  have hnm5 := hW.2.2.1
  refine lv_aload_n hx hb dL_law_502 rfl (lv_at hl 1 rfl) ?_
  refine lv_aload_n hx hb dL_law_503 rfl (lv_at hl 0 rfl) ?_
  refine lv_iload hx hb dL_law_504 (lv_at hl 4 rfl) ?_
  refine lv_iconst (v := nI 1) hx hb dL_law_506 (by decide) ?_
  refine mn_iadd hB dL_law_507 ?_
  refine va_sld hx hb hX hbl hbA hS (vp_in_nI (by omega) (by omega)) dL_law_508 ?_
  refine mh_top (y := .int (nI f)) (by rw [nI_clamp (by omega), a1]) ?_
  refine lv_aload_n hx hb dL_law_509 rfl (lv_at hl 0 rfl) ?_
  refine lv_iload hx hb dL_law_510 (lv_at hl 4 rfl) ?_
  refine lv_iconst (v := nI 2) hx hb dL_law_512 (by decide) ?_
  refine mn_iadd hB dL_law_513 ?_
  refine va_sld hx hb hX hbl hbA hS (vp_in_nI (by omega) (by omega)) dL_law_514 ?_
  refine mh_top (y := .int y) (by rw [nI_clamp (by omega), a2]) ?_
  refine lv_aload_n hx hb dL_law_515 rfl (lv_at hl 0 rfl) ?_
  refine lv_iload hx hb dL_law_516 (lv_at hl 4 rfl) ?_
  refine lv_iconst (v := nI 3) hx hb dL_law_518 (by decide) ?_
  refine mn_iadd hB dL_law_519 ?_
  refine va_sld hx hb hX hbl hbA hS (vp_in_nI (by omega) (by omega)) dL_law_520 ?_
  refine mh_top (y := .int z) (by rw [nI_clamp (by omega), a3]) ?_
  refine lv_aload_n hx hb dL_law_521 rfl (lv_at hl 3 rfl) ?_
  refine cw_126 (As := [.ref xb, .int (nI f), .int y, .int z, .ref ob]) (rest := []) hB (hZ9.at hS (fun _ h9 => h9)) (w_patch_t2 l g H xb lim q n rm sl sv tx ln f y z ob o (hC) (hO) (hf) (hx1) (⟨by omega, by omega⟩) (hfl)) rfl hl.1 (Nat.le_of_ble_eq_true rfl) dL_law_522 ⟨Nat.le_of_ble_eq_true rfl, Nat.le_of_ble_eq_true rfl⟩ ⟨by show (ce7) + 1 ≤ 622861; omega, by show (sn7) + 6 ≤ 7227521; omega⟩ hS (by have hz9 := hS.1; rintro q9 (h9 | h9) <;> first | exact h9.elim | (have h8 : r ≤ q9 ∧ q9 < r + 16 := h9; show xb ≤ q9; omega) | (have h8 : ((xb ≤ q9 ∧ q9 < xb + 68) ∨ lim ≤ q9) ∨ q9 = ob := h9; show xb ≤ q9; omega) | (have h8 : (xb ≤ q9 ∧ q9 < xb + 68) ∨ lim ≤ q9 := h9; show xb ≤ q9; omega) | (show xb ≤ q9; omega)) (fun v H1 locs hpo hfr hS => ?_)
  obtain ⟨rfl, hC, hO⟩ := hpo
  have hR := hR.keptF hfr (fun q9 h1 h2 y9 => by first | exact y9.elim | (have y8 : ((xb ≤ q9 ∧ q9 < xb + 68) ∨ lim ≤ q9) ∨ q9 = ob := y9; omega) | (have y8 : (xb ≤ q9 ∧ q9 < xb + 68) ∨ lim ≤ q9 := y9; omega))
  generalize H1 = H at hfr hS hR hX hC hO ⊢
  refine W.widen (k := ce7 + 1) (n := sn7 + 6) (by show (ce7) + 1 ≤ ce7 + 1; omega) (by show (sn7) + 6 ≤ sn7 + 6; omega) ?_
  refine lv_istore (lv' := [(5, .int (nI 2)), (0, .ref b), (1, .ref xb), (2, .ref r), (3, .ref ob), (4, .int (nI (4 * i9)))]) hx hb dL_law_525 hl (by decide) rfl (fun ls hl => ?_)
  refine lv_aload_n hx hb dL_law_527 rfl (lv_at hl 3 rfl) ?_
  refine lv_aload_n hx hb dL_law_528 rfl (lv_at hl 1 rfl) ?_
  refine lv_iload hx hb dL_law_529 (lv_at hl 5 rfl) ?_
  refine lv_iconst (v := nI 1) hx hb dL_law_531 (by decide) ?_
  refine mn_iadd hB dL_law_532 ?_
  refine va_sld hx hb hX hbl hbA hS (vp_in_nI (by omega) (by omega)) dL_law_533 ?_
  refine mh_top (y := .int (nI f)) (by rw [nI_clamp (by omega), a1]) ?_
  refine lv_aload_n hx hb dL_law_534 rfl (lv_at hl 1 rfl) ?_
  refine lv_iload hx hb dL_law_535 (lv_at hl 5 rfl) ?_
  refine lv_iconst (v := nI 2) hx hb dL_law_537 (by decide) ?_
  refine mn_iadd hB dL_law_538 ?_
  refine va_sld hx hb hX hbl hbA hS (vp_in_nI (by omega) (by omega)) dL_law_539 ?_
  refine mh_top (y := .int y) (by rw [nI_clamp (by omega), a2]) ?_
  refine lv_aload_n hx hb dL_law_540 rfl (lv_at hl 1 rfl) ?_
  refine lv_iload hx hb dL_law_541 (lv_at hl 5 rfl) ?_
  refine lv_iconst (v := nI 3) hx hb dL_law_543 (by decide) ?_
  refine mn_iadd hB dL_law_544 ?_
  refine va_sld hx hb hX hbl hbA hS (vp_in_nI (by omega) (by omega)) dL_law_545 ?_
  refine mh_top (y := .int z) (by rw [nI_clamp (by omega), a3]) ?_
  refine cl_L_129 (As := [.int (nI f), .int y, .int z]) (rest := []) hB (c_X11_patch_t2 l g H r q zsp rm (nI n) sl sv tx (nI ln) zth zsg zbg zwd zhg zin zop zbe zwi zhi zbk zot zer zen zpo zpi zgr zsh zsn f y z hR (hf) (hx1)) hR.o rfl hl.1 (Nat.le_of_ble_eq_true rfl) dL_law_546 ⟨Nat.le_of_ble_eq_true rfl, Nat.le_of_ble_eq_true rfl⟩ ⟨by show (ce7 + 1) + 0 ≤ 622861; omega, by show (sn7 + 6) + 0 ≤ 7227521; omega⟩ hS (by have hz9 := hS.1; rintro q9 (h9 | h9) <;> first | exact h9.elim | (have h8 : r ≤ q9 ∧ q9 < r + 16 := h9; show xb ≤ q9; omega) | (have h8 : ((xb ≤ q9 ∧ q9 < xb + 68) ∨ lim ≤ q9) ∨ q9 = ob := h9; show xb ≤ q9; omega) | (have h8 : (xb ≤ q9 ∧ q9 < xb + 68) ∨ lim ≤ q9 := h9; show xb ≤ q9; omega) | (show xb ≤ q9; omega)) (fun v H1 locs hpo hfr hS => ?_)
  obtain ⟨rfl, hR⟩ := hpo
  have hC := hC.keptM hfr (fun a9 y9 => by first | exact y9.elim | (have y8 : r ≤ a9 ∧ a9 < r + 16 := y9; omega))
  have hO := Fr.keep hfr hO (fun y9 => by first | exact y9.elim | (have y8 : r ≤ ob ∧ ob < r + 16 := y9; omega) | (have y8 : (xb ≤ ob ∧ ob < xb + 68) ∨ lim ≤ ob := y9; omega))
  generalize H1 = H at hfr hS hX hC hO hR ⊢
  refine W.widen (k := ce7 + 1) (n := sn7 + 6) (by show (ce7 + 1) + 0 ≤ ce7 + 1; omega) (by show (sn7 + 6) + 0 ≤ sn7 + 6; omega) ?_
  refine lv_istore (lv' := [(6, .int (nI 0)), (5, .int (nI 2)), (0, .ref b), (1, .ref xb), (2, .ref r), (3, .ref ob), (4, .int (nI (4 * i9)))]) hx hb dL_law_549 hl (by decide) rfl (fun ls hl => ?_)
  refine lv_aload_n hx hb dL_law_551 rfl (lv_at hl 4 rfl) ?_
  refine cl_L_102 (As := []) (rest := []) hB (c_X11_thrown l g H r q zsp rm (nI n) sl sv tx (nI ln) (nI 2) zsg zbg zwd zhg zin zop zbe zwi zhi zbk zot zer zen zpo zpi zgr zsh zsn hR) hR.o rfl hl.1 (Nat.le_of_ble_eq_true rfl) dL_law_552 ⟨Nat.le_of_ble_eq_true rfl, Nat.le_of_ble_eq_true rfl⟩ ⟨by show (ce7 + 1) + 0 ≤ 622861; omega, by show (sn7 + 6) + 0 ≤ 7227521; omega⟩ hS (by have hz9 := hS.1; rintro q9 (h9 | h9) <;> first | exact h9.elim | (have h8 : r ≤ q9 ∧ q9 < r + 16 := h9; show xb ≤ q9; omega) | (have h8 : ((xb ≤ q9 ∧ q9 < xb + 68) ∨ lim ≤ q9) ∨ q9 = ob := h9; show xb ≤ q9; omega) | (have h8 : (xb ≤ q9 ∧ q9 < xb + 68) ∨ lim ≤ q9 := h9; show xb ≤ q9; omega) | (show xb ≤ q9; omega)) (fun v H1 locs hpo hfr hS => ?_)
  obtain ⟨rfl, rfl⟩ := hpo
  refine W.widen (k := ce7 + 1) (n := sn7 + 6) (by show (ce7 + 1) + 0 ≤ ce7 + 1; omega) (by show (sn7 + 6) + 0 ≤ sn7 + 6; omega) ?_
  refine lv_iload hx hb dL_law_555 (lv_at hl 1 rfl) ?_
  refine lv_icmp_eq (tgt := 562) hx hb dL_law_557 (by decide) (fun h_557 => ?_) (fun h9 => absurd rfl h9)
  refine lv_iload hx hb dL_law_562 (lv_at hl 1 rfl) ?_
  refine mn_if_ne (tgt := 579) hB dL_law_564 (by decide) (by omega) (fun h_564 => ?_) (fun h => by exfalso; omega)
  refine lv_goto (tgt := 1803) hx hb dL_law_579 (by decide) ?_
  refine W.widen (k := ce7 + 30) (n := sn7 + 1100) (by omega) (by omega) ?_
  exact kk _ _ _ ⟨hC, ⟨_, _, _, _, _, _, _, _, _, _, _, _, _, _, _, _, _, _, _, _, hR⟩, ⟨_, hO⟩, hTx⟩ hS (lv_sub hl [2, 3, 4, 5, 6] rfl)

set_option maxRecDepth 100000 in
set_option maxHeartbeats 800000 in
theorem s_patch_ok {p : Program} {l : Launch} {e : Env} {s : State} {m : MethodId} {args : Array Value} {below : List Frame} {meth : Method} {c : Code} {H : Heap} {locs : List Loc} {ce7 sn7 : Nat} {Q : State → Prop} {g : GG} {b L xb r ob lim : Nat} {xs : Nat → Int32} {i9 : Nat} {ls : Array Slot} {q : Nat → Int32} {n : Nat} {rm sl sv tx : Nat → Int32} {ln : Nat} {zsp : Nat → Int32} {zth : Int32} {zsg : Nat → Int32} {zbg : Nat → Int32} {zwd : Nat → Int32} {zhg : Nat → Int32} {zin : Nat → Int32} {zop : Int32} {zbe : Int32} {zwi : Int32} {zhi : Int32} {zbk : Nat → Int32} {zot : Nat → Int32} {zer : Int32} {zen : Int32} {zpo : Nat → Int32} {zpi : Int32} {zgr : Int32} {zsh : Nat → Int32} {zsn : Int32} {o : Nat → Int64} (hfl : l.stackTraces = false) (hE : LE p s m meth c g b L xs xb r ob lim) (hi : 4 * i9 + 3 < L) (hC : CLS g xb lim q n rm sl sv tx ln H) (hR : ModAt g r q zsp rm (nI n) sl sv tx (nI ln) zth zsg zbg zwd zhg zin zop zbe zwi zhi zbk zot zer zen zpo zpi zgr zsh zsn H) (hO : at_ g H ob (eL g 1 o)) (hTx : TxT tx ln) (hS : va_S (fun q9 => xb ≤ q9) s.heap H locs) (hl : lv_has ls 7 [(0, .ref b), (1, .ref xb), (2, .ref r), (3, .ref ob), (4, .int (nI (4 * i9)))]) (hce7 : ce7 + 30 ≤ 622861) (hsn7 : sn7 + 1100 ≤ 7227521) (f : Nat) (a : Nat) (b7 : Nat) (a1 : xs (4 * i9 + 1) = nI f) (a2 : xs (4 * i9 + 2) = nI a) (a3 : xs (4 * i9 + 3) = nI b7) (hf : f < 3) (ha : a < 2147483648) (hb8 : b7 < 2147483648) (kk : ∀ (H1 : Heap) (locs1 : List Loc) (ls1 : Array Slot), LI g xb r ob lim q n rm sl sv tx ln H1 → va_S (fun q9 => xb ≤ q9) s.heap H1 locs1 → lv_has ls1 7 [(0, .ref b), (1, .ref xb), (2, .ref r), (3, .ref ob), (4, .int (nI (4 * i9)))] → W p l e room_1 s m args below meth c H1 locs1 (ce7 + 30) (sn7 + 1100) Q (F0 m 1803 ls1 [])) : W p l e room_1 s m args below meth c H locs ce7 sn7 Q (F0 m 502 ls []) := by
  obtain ⟨hB, hZ9, hX, hbl, hL9, hxs, hr9, hob9, hlm9⟩ := hE
  have hx := hB.x
  have hb := hB.b
  have hbA : ¬ (fun q9 => xb ≤ q9) b := fun y9 => by have y8 : xb ≤ b := y9; omega
  have hW := hC.wf
  have hn14 := hC.n14
  have hl6c := hC.l60
  have hnm5 := hW.2.2.1
  refine lv_aload_n hx hb dL_law_502 rfl (lv_at hl 1 rfl) ?_
  refine lv_aload_n hx hb dL_law_503 rfl (lv_at hl 0 rfl) ?_
  refine lv_iload hx hb dL_law_504 (lv_at hl 4 rfl) ?_
  refine lv_iconst (v := nI 1) hx hb dL_law_506 (by decide) ?_
  refine mn_iadd hB dL_law_507 ?_
  refine va_sld hx hb hX hbl hbA hS (vp_in_nI (by omega) (by omega)) dL_law_508 ?_
  refine mh_top (y := .int (nI f)) (by rw [nI_clamp (by omega), a1]) ?_
  refine lv_aload_n hx hb dL_law_509 rfl (lv_at hl 0 rfl) ?_
  refine lv_iload hx hb dL_law_510 (lv_at hl 4 rfl) ?_
  refine lv_iconst (v := nI 2) hx hb dL_law_512 (by decide) ?_
  refine mn_iadd hB dL_law_513 ?_
  refine va_sld hx hb hX hbl hbA hS (vp_in_nI (by omega) (by omega)) dL_law_514 ?_
  refine mh_top (y := .int (nI a)) (by rw [nI_clamp (by omega), a2]) ?_
  refine lv_aload_n hx hb dL_law_515 rfl (lv_at hl 0 rfl) ?_
  refine lv_iload hx hb dL_law_516 (lv_at hl 4 rfl) ?_
  refine lv_iconst (v := nI 3) hx hb dL_law_518 (by decide) ?_
  refine mn_iadd hB dL_law_519 ?_
  refine va_sld hx hb hX hbl hbA hS (vp_in_nI (by omega) (by omega)) dL_law_520 ?_
  refine mh_top (y := .int (nI b7)) (by rw [nI_clamp (by omega), a3]) ?_
  refine lv_aload_n hx hb dL_law_521 rfl (lv_at hl 3 rfl) ?_
  refine cw_126 (As := [.ref xb, .int (nI f), .int (nI a), .int (nI b7), .ref ob]) (rest := []) hB (hZ9.at hS (fun _ h9 => h9)) (w_patch_ok l g H xb lim q n rm sl sv tx ln f a b7 ob o (hC) (hO) (hf) (ha) (hb8) (⟨by omega, by omega⟩) (hfl)) rfl hl.1 (Nat.le_of_ble_eq_true rfl) dL_law_522 ⟨Nat.le_of_ble_eq_true rfl, Nat.le_of_ble_eq_true rfl⟩ ⟨by show (ce7) + 0 ≤ 622861; omega, by show (sn7) + 0 ≤ 7227521; omega⟩ hS (by have hz9 := hS.1; rintro q9 (h9 | h9) <;> first | exact h9.elim | (have h8 : r ≤ q9 ∧ q9 < r + 16 := h9; show xb ≤ q9; omega) | (have h8 : ((xb ≤ q9 ∧ q9 < xb + 68) ∨ lim ≤ q9) ∨ q9 = ob := h9; show xb ≤ q9; omega) | (have h8 : (xb ≤ q9 ∧ q9 < xb + 68) ∨ lim ≤ q9 := h9; show xb ≤ q9; omega) | (show xb ≤ q9; omega)) (fun v H1 locs hpo hfr hS => ?_)
  obtain ⟨rfl, hC, hO⟩ := hpo
  have hR := hR.keptF hfr (fun q9 h1 h2 y9 => by first | exact y9.elim | (have y8 : ((xb ≤ q9 ∧ q9 < xb + 68) ∨ lim ≤ q9) ∨ q9 = ob := y9; omega) | (have y8 : (xb ≤ q9 ∧ q9 < xb + 68) ∨ lim ≤ q9 := y9; omega))
  generalize H1 = H at hfr hS hR hX hC hO ⊢
  refine W.widen (k := ce7) (n := sn7) (by show (ce7) + 0 ≤ ce7; omega) (by show (sn7) + 0 ≤ sn7; omega) ?_
  refine lv_istore (lv' := [(5, .int (nI 0)), (0, .ref b), (1, .ref xb), (2, .ref r), (3, .ref ob), (4, .int (nI (4 * i9)))]) hx hb dL_law_525 hl (by decide) rfl (fun ls hl => ?_)
  refine lv_aload_n hx hb dL_law_527 rfl (lv_at hl 3 rfl) ?_
  refine lv_aload_n hx hb dL_law_528 rfl (lv_at hl 1 rfl) ?_
  refine lv_iload hx hb dL_law_529 (lv_at hl 5 rfl) ?_
  refine lv_iconst (v := nI 1) hx hb dL_law_531 (by decide) ?_
  refine mn_iadd hB dL_law_532 ?_
  refine va_sld hx hb hX hbl hbA hS (vp_in_nI (by omega) (by omega)) dL_law_533 ?_
  refine mh_top (y := .int (nI f)) (by rw [nI_clamp (by omega), a1]) ?_
  refine lv_aload_n hx hb dL_law_534 rfl (lv_at hl 1 rfl) ?_
  refine lv_iload hx hb dL_law_535 (lv_at hl 5 rfl) ?_
  refine lv_iconst (v := nI 2) hx hb dL_law_537 (by decide) ?_
  refine mn_iadd hB dL_law_538 ?_
  refine va_sld hx hb hX hbl hbA hS (vp_in_nI (by omega) (by omega)) dL_law_539 ?_
  refine mh_top (y := .int (nI a)) (by rw [nI_clamp (by omega), a2]) ?_
  refine lv_aload_n hx hb dL_law_540 rfl (lv_at hl 1 rfl) ?_
  refine lv_iload hx hb dL_law_541 (lv_at hl 5 rfl) ?_
  refine lv_iconst (v := nI 3) hx hb dL_law_543 (by decide) ?_
  refine mn_iadd hB dL_law_544 ?_
  refine va_sld hx hb hX hbl hbA hS (vp_in_nI (by omega) (by omega)) dL_law_545 ?_
  refine mh_top (y := .int (nI b7)) (by rw [nI_clamp (by omega), a3]) ?_
  refine cl_L_129 (As := [.int (nI f), .int (nI a), .int (nI b7)]) (rest := []) hB (c_X11_patch l g H r q zsp rm (nI n) sl sv tx (nI ln) zth zsg zbg zwd zhg zin zop zbe zwi zhi zbk zot zer zen zpo zpi zgr zsh zsn f a b7 hR (by first | assumption | omega) (hf) (ha) (hb8)) hR.o rfl hl.1 (Nat.le_of_ble_eq_true rfl) dL_law_546 ⟨Nat.le_of_ble_eq_true rfl, Nat.le_of_ble_eq_true rfl⟩ ⟨by show (ce7) + 0 ≤ 622861; omega, by show (sn7) + 0 ≤ 7227521; omega⟩ hS (by have hz9 := hS.1; rintro q9 (h9 | h9) <;> first | exact h9.elim | (have h8 : r ≤ q9 ∧ q9 < r + 16 := h9; show xb ≤ q9; omega) | (have h8 : ((xb ≤ q9 ∧ q9 < xb + 68) ∨ lim ≤ q9) ∨ q9 = ob := h9; show xb ≤ q9; omega) | (have h8 : (xb ≤ q9 ∧ q9 < xb + 68) ∨ lim ≤ q9 := h9; show xb ≤ q9; omega) | (show xb ≤ q9; omega)) (fun v H1 locs hpo hfr hS => ?_)
  obtain ⟨rfl, hR⟩ := hpo
  have hC := hC.keptM hfr (fun a9 y9 => by first | exact y9.elim | (have y8 : r ≤ a9 ∧ a9 < r + 16 := y9; omega))
  have hO := Fr.keep hfr hO (fun y9 => by first | exact y9.elim | (have y8 : r ≤ ob ∧ ob < r + 16 := y9; omega) | (have y8 : (xb ≤ ob ∧ ob < xb + 68) ∨ lim ≤ ob := y9; omega))
  generalize H1 = H at hfr hS hX hC hO hR ⊢
  refine W.widen (k := ce7) (n := sn7) (by show (ce7) + 0 ≤ ce7; omega) (by show (sn7) + 0 ≤ sn7; omega) ?_
  refine lv_istore (lv' := [(6, .int (patV q f a b7)), (5, .int (nI 0)), (0, .ref b), (1, .ref xb), (2, .ref r), (3, .ref ob), (4, .int (nI (4 * i9)))]) hx hb dL_law_549 hl (by decide) rfl (fun ls hl => ?_)
  refine lv_aload_n hx hb dL_law_551 rfl (lv_at hl 4 rfl) ?_
  refine cl_L_102 (As := []) (rest := []) hB (c_X11_thrown l g H r q zsp rm (nI n) sl sv tx (nI ln) (nI 0) zsg zbg zwd zhg zin zop zbe zwi zhi zbk zot zer zen zpo zpi zgr zsh zsn hR) hR.o rfl hl.1 (Nat.le_of_ble_eq_true rfl) dL_law_552 ⟨Nat.le_of_ble_eq_true rfl, Nat.le_of_ble_eq_true rfl⟩ ⟨by show (ce7) + 0 ≤ 622861; omega, by show (sn7) + 0 ≤ 7227521; omega⟩ hS (by have hz9 := hS.1; rintro q9 (h9 | h9) <;> first | exact h9.elim | (have h8 : r ≤ q9 ∧ q9 < r + 16 := h9; show xb ≤ q9; omega) | (have h8 : ((xb ≤ q9 ∧ q9 < xb + 68) ∨ lim ≤ q9) ∨ q9 = ob := h9; show xb ≤ q9; omega) | (have h8 : (xb ≤ q9 ∧ q9 < xb + 68) ∨ lim ≤ q9 := h9; show xb ≤ q9; omega) | (show xb ≤ q9; omega)) (fun v H1 locs hpo hfr hS => ?_)
  obtain ⟨rfl, rfl⟩ := hpo
  refine W.widen (k := ce7) (n := sn7) (by show (ce7) + 0 ≤ ce7; omega) (by show (sn7) + 0 ≤ sn7; omega) ?_
  refine lv_iload hx hb dL_law_555 (lv_at hl 1 rfl) ?_
  refine lv_icmp_eq (tgt := 562) hx hb dL_law_557 (by decide) (fun h_557 => ?_) (fun h9 => absurd rfl h9)
  refine lv_iload hx hb dL_law_562 (lv_at hl 1 rfl) ?_
  refine mn_if_ne (tgt := 579) hB dL_law_564 (by decide) (by omega) (fun h => by exfalso; omega) (fun h_564 => ?_)
  refine lv_aload_n hx hb dL_law_567 rfl (lv_at hl 5 rfl) ?_
  refine lv_iconst (v := nI 0) hx hb dL_law_568 (by decide) ?_
  refine mn_lald hB hO (by omega) (by omega) dL_law_569 ?_
  refine mh_top (y := .long ((patV q f a b7).toInt64)) (rfl) ?_
  refine lv_iload hx hb dL_law_570 (lv_at hl 0 rfl) ?_
  refine lv_i2l (v := (patV q f a b7).toInt64) hx hb dL_law_572 rfl ?_
  refine W.lcmp hx hb dL_law_573 ?_
  refine ml_if_eq (tgt := 579) hB dL_law_574 (by decide) (fun h_574 => ?_) (fun h => absurd rfl h)
  refine lv_goto (tgt := 1803) hx hb dL_law_579 (by decide) ?_
  refine W.widen (k := ce7 + 30) (n := sn7 + 1100) (by omega) (by omega) ?_
  exact kk _ _ _ ⟨hC, ⟨_, _, _, _, _, _, _, _, _, _, _, _, _, _, _, _, _, _, _, _, hR⟩, ⟨_, hO⟩, hTx⟩ hS (lv_sub hl [2, 3, 4, 5, 6] rfl)

set_option maxRecDepth 100000 in
set_option maxHeartbeats 800000 in
theorem s_count_t1_0 {p : Program} {l : Launch} {e : Env} {s : State} {m : MethodId} {args : Array Value} {below : List Frame} {meth : Method} {c : Code} {H : Heap} {locs : List Loc} {ce7 sn7 : Nat} {Q : State → Prop} {g : GG} {b L xb r ob lim : Nat} {xs : Nat → Int32} {i9 : Nat} {ls : Array Slot} {q : Nat → Int32} {n : Nat} {rm sl sv tx : Nat → Int32} {ln : Nat} {zsp : Nat → Int32} {zth : Int32} {zsg : Nat → Int32} {zbg : Nat → Int32} {zwd : Nat → Int32} {zhg : Nat → Int32} {zin : Nat → Int32} {zop : Int32} {zbe : Int32} {zwi : Int32} {zhi : Int32} {zbk : Nat → Int32} {zot : Nat → Int32} {zer : Int32} {zen : Int32} {zpo : Nat → Int32} {zpi : Int32} {zgr : Int32} {zsh : Nat → Int32} {zsn : Int32} {o : Nat → Int64} (hfl : l.stackTraces = false) (hE : LE p s m meth c g b L xs xb r ob lim) (hi : 4 * i9 + 3 < L) (hC : CLS g xb lim q n rm sl sv tx ln H) (hR : ModAt g r q zsp rm (nI n) sl sv tx (nI ln) zth zsg zbg zwd zhg zin zop zbe zwi zhi zbk zot zer zen zpo zpi zgr zsh zsn H) (hO : at_ g H ob (eL g 1 o)) (hTx : TxT tx ln) (hS : va_S (fun q9 => xb ≤ q9) s.heap H locs) (hl : lv_has ls 7 [(0, .ref b), (1, .ref xb), (2, .ref r), (3, .ref ob), (4, .int (nI (4 * i9)))]) (hce7 : ce7 + 30 ≤ 622861) (hsn7 : sn7 + 1100 ≤ 7227521) (x : Int32) (y : Int32) (z : Int32) (a1 : xs (4 * i9 + 1) = x) (a2 : xs (4 * i9 + 2) = y) (a3 : xs (4 * i9 + 3) = z) (hx1 : isIx x 3 = false) (hz9 : z = 0) (kk : ∀ (H1 : Heap) (locs1 : List Loc) (ls1 : Array Slot), LI g xb r ob lim q n rm sl sv tx ln H1 → va_S (fun q9 => xb ≤ q9) s.heap H1 locs1 → lv_has ls1 7 [(0, .ref b), (1, .ref xb), (2, .ref r), (3, .ref ob), (4, .int (nI (4 * i9)))] → W p l e room_1 s m args below meth c H1 locs1 (ce7 + 30) (sn7 + 1100) Q (F0 m 1803 ls1 [])) : W p l e room_1 s m args below meth c H locs ce7 sn7 Q (F0 m 582 ls []) := by
  obtain ⟨hB, hZ9, hX, hbl, hL9, hxs, hr9, hob9, hlm9⟩ := hE
  have hx := hB.x
  have hb := hB.b
  have hbA : ¬ (fun q9 => xb ≤ q9) b := fun y9 => by have y8 : xb ≤ b := y9; omega
  have hW := hC.wf
  have hn14 := hC.n14
  have hl6c := hC.l60
  have hnm5 := hW.2.2.1
  refine lv_aload_n hx hb dL_law_582 rfl (lv_at hl 1 rfl) ?_
  refine lv_aload_n hx hb dL_law_583 rfl (lv_at hl 0 rfl) ?_
  refine lv_iload hx hb dL_law_584 (lv_at hl 4 rfl) ?_
  refine lv_iconst (v := nI 1) hx hb dL_law_586 (by decide) ?_
  refine mn_iadd hB dL_law_587 ?_
  refine va_sld hx hb hX hbl hbA hS (vp_in_nI (by omega) (by omega)) dL_law_588 ?_
  refine mh_top (y := .int x) (by rw [nI_clamp (by omega), a1]) ?_
  refine lv_aload_n hx hb dL_law_589 rfl (lv_at hl 0 rfl) ?_
  refine lv_iload hx hb dL_law_590 (lv_at hl 4 rfl) ?_
  refine lv_iconst (v := nI 2) hx hb dL_law_592 (by decide) ?_
  refine mn_iadd hB dL_law_593 ?_
  refine va_sld hx hb hX hbl hbA hS (vp_in_nI (by omega) (by omega)) dL_law_594 ?_
  refine mh_top (y := .int y) (by rw [nI_clamp (by omega), a2]) ?_
  refine lv_aload_n hx hb dL_law_595 rfl (lv_at hl 0 rfl) ?_
  refine lv_iload hx hb dL_law_596 (lv_at hl 4 rfl) ?_
  refine lv_iconst (v := nI 3) hx hb dL_law_598 (by decide) ?_
  refine mn_iadd hB dL_law_599 ?_
  refine va_sld hx hb hX hbl hbA hS (vp_in_nI (by omega) (by omega)) dL_law_600 ?_
  refine mh_top (y := .int z) (by rw [nI_clamp (by omega), a3]) ?_
  refine lv_if_eq (tgt := 608) hx hb dL_law_601 (by decide) (fun h_601 => ?_) (fun h => absurd hz9 h)
  refine lv_iconst (v := nI 0) hx hb dL_law_608 (by decide) ?_
  refine lv_aload_n hx hb dL_law_609 rfl (lv_at hl 3 rfl) ?_
  refine cw_130 (As := [.ref xb, .int x, .int y, .int (nI 0), .ref ob]) (rest := []) hB (hZ9.at hS (fun _ h9 => h9)) (w_count_t1_0 l g H xb lim q n rm sl sv tx ln x y (nI 0) ob o (hC) (hO) (hx1) (⟨by omega, by omega⟩) (hfl)) rfl hl.1 (Nat.le_of_ble_eq_true rfl) dL_law_610 ⟨Nat.le_of_ble_eq_true rfl, Nat.le_of_ble_eq_true rfl⟩ ⟨by show (ce7) + 1 ≤ 622861; omega, by show (sn7) + 6 ≤ 7227521; omega⟩ hS (by have hz9 := hS.1; rintro q9 (h9 | h9) <;> first | exact h9.elim | (have h8 : r ≤ q9 ∧ q9 < r + 16 := h9; show xb ≤ q9; omega) | (have h8 : ((xb ≤ q9 ∧ q9 < xb + 68) ∨ lim ≤ q9) ∨ q9 = ob := h9; show xb ≤ q9; omega) | (have h8 : (xb ≤ q9 ∧ q9 < xb + 68) ∨ lim ≤ q9 := h9; show xb ≤ q9; omega) | (show xb ≤ q9; omega)) (fun v H1 locs hpo hfr hS => ?_)
  obtain ⟨rfl, hC, hO⟩ := hpo
  have hR := hR.keptF hfr (fun q9 h1 h2 y9 => by first | exact y9.elim | (have y8 : ((xb ≤ q9 ∧ q9 < xb + 68) ∨ lim ≤ q9) ∨ q9 = ob := y9; omega) | (have y8 : (xb ≤ q9 ∧ q9 < xb + 68) ∨ lim ≤ q9 := y9; omega))
  generalize H1 = H at hfr hS hR hX hC hO ⊢
  refine W.widen (k := ce7 + 1) (n := sn7 + 6) (by show (ce7) + 1 ≤ ce7 + 1; omega) (by show (sn7) + 6 ≤ sn7 + 6; omega) ?_
  refine lv_istore (lv' := [(5, .int (nI 1)), (0, .ref b), (1, .ref xb), (2, .ref r), (3, .ref ob), (4, .int (nI (4 * i9)))]) hx hb dL_law_613 hl (by decide) rfl (fun ls hl => ?_)
  refine lv_aload_n hx hb dL_law_615 rfl (lv_at hl 3 rfl) ?_
  refine lv_aload_n hx hb dL_law_616 rfl (lv_at hl 1 rfl) ?_
  refine lv_iload hx hb dL_law_617 (lv_at hl 5 rfl) ?_
  refine lv_iconst (v := nI 1) hx hb dL_law_619 (by decide) ?_
  refine mn_iadd hB dL_law_620 ?_
  refine va_sld hx hb hX hbl hbA hS (vp_in_nI (by omega) (by omega)) dL_law_621 ?_
  refine mh_top (y := .int x) (by rw [nI_clamp (by omega), a1]) ?_
  refine lv_aload_n hx hb dL_law_622 rfl (lv_at hl 1 rfl) ?_
  refine lv_iload hx hb dL_law_623 (lv_at hl 5 rfl) ?_
  refine lv_iconst (v := nI 2) hx hb dL_law_625 (by decide) ?_
  refine mn_iadd hB dL_law_626 ?_
  refine va_sld hx hb hX hbl hbA hS (vp_in_nI (by omega) (by omega)) dL_law_627 ?_
  refine mh_top (y := .int y) (by rw [nI_clamp (by omega), a2]) ?_
  refine lv_aload_n hx hb dL_law_628 rfl (lv_at hl 1 rfl) ?_
  refine lv_iload hx hb dL_law_629 (lv_at hl 5 rfl) ?_
  refine lv_iconst (v := nI 3) hx hb dL_law_631 (by decide) ?_
  refine mn_iadd hB dL_law_632 ?_
  refine va_sld hx hb hX hbl hbA hS (vp_in_nI (by omega) (by omega)) dL_law_633 ?_
  refine mh_top (y := .int z) (by rw [nI_clamp (by omega), a3]) ?_
  refine lv_if_eq (tgt := 641) hx hb dL_law_634 (by decide) (fun h_634 => ?_) (fun h => absurd hz9 h)
  refine lv_iconst (v := nI 0) hx hb dL_law_641 (by decide) ?_
  refine mh_top (y := .int (bI false)) (rfl) ?_
  refine cl_L_133 (As := [.int x, .int y, .int (bI false)]) (rest := []) hB (c_X11_count_t1 l g H r q zsp rm (nI n) sl sv tx (nI ln) zth zsg zbg zwd zhg zin zop zbe zwi zhi zbk zot zer zen zpo zpi zgr zsh zsn x y false hR (Or.inl hx1)) hR.o rfl hl.1 (Nat.le_of_ble_eq_true rfl) dL_law_642 ⟨Nat.le_of_ble_eq_true rfl, Nat.le_of_ble_eq_true rfl⟩ ⟨by show (ce7 + 1) + 0 ≤ 622861; omega, by show (sn7 + 6) + 0 ≤ 7227521; omega⟩ hS (by have hz9 := hS.1; rintro q9 (h9 | h9) <;> first | exact h9.elim | (have h8 : r ≤ q9 ∧ q9 < r + 16 := h9; show xb ≤ q9; omega) | (have h8 : ((xb ≤ q9 ∧ q9 < xb + 68) ∨ lim ≤ q9) ∨ q9 = ob := h9; show xb ≤ q9; omega) | (have h8 : (xb ≤ q9 ∧ q9 < xb + 68) ∨ lim ≤ q9 := h9; show xb ≤ q9; omega) | (show xb ≤ q9; omega)) (fun v H1 locs hpo hfr hS => ?_)
  obtain ⟨rfl, hR⟩ := hpo
  have hC := hC.keptM hfr (fun a9 y9 => by first | exact y9.elim | (have y8 : r ≤ a9 ∧ a9 < r + 16 := y9; omega))
  have hO := Fr.keep hfr hO (fun y9 => by first | exact y9.elim | (have y8 : r ≤ ob ∧ ob < r + 16 := y9; omega) | (have y8 : (xb ≤ ob ∧ ob < xb + 68) ∨ lim ≤ ob := y9; omega))
  generalize H1 = H at hfr hS hX hC hO hR ⊢
  refine W.widen (k := ce7 + 1) (n := sn7 + 6) (by show (ce7 + 1) + 0 ≤ ce7 + 1; omega) (by show (sn7 + 6) + 0 ≤ sn7 + 6; omega) ?_
  refine lv_istore (lv' := [(6, .int (nI 0)), (5, .int (nI 1)), (0, .ref b), (1, .ref xb), (2, .ref r), (3, .ref ob), (4, .int (nI (4 * i9)))]) hx hb dL_law_645 hl (by decide) rfl (fun ls hl => ?_)
  refine lv_aload_n hx hb dL_law_647 rfl (lv_at hl 4 rfl) ?_
  refine cl_L_102 (As := []) (rest := []) hB (c_X11_thrown l g H r q zsp rm (nI n) sl sv tx (nI ln) (nI 1) zsg zbg zwd zhg zin zop zbe zwi zhi zbk zot zer zen zpo zpi zgr zsh zsn hR) hR.o rfl hl.1 (Nat.le_of_ble_eq_true rfl) dL_law_648 ⟨Nat.le_of_ble_eq_true rfl, Nat.le_of_ble_eq_true rfl⟩ ⟨by show (ce7 + 1) + 0 ≤ 622861; omega, by show (sn7 + 6) + 0 ≤ 7227521; omega⟩ hS (by have hz9 := hS.1; rintro q9 (h9 | h9) <;> first | exact h9.elim | (have h8 : r ≤ q9 ∧ q9 < r + 16 := h9; show xb ≤ q9; omega) | (have h8 : ((xb ≤ q9 ∧ q9 < xb + 68) ∨ lim ≤ q9) ∨ q9 = ob := h9; show xb ≤ q9; omega) | (have h8 : (xb ≤ q9 ∧ q9 < xb + 68) ∨ lim ≤ q9 := h9; show xb ≤ q9; omega) | (show xb ≤ q9; omega)) (fun v H1 locs hpo hfr hS => ?_)
  obtain ⟨rfl, rfl⟩ := hpo
  refine W.widen (k := ce7 + 1) (n := sn7 + 6) (by show (ce7 + 1) + 0 ≤ ce7 + 1; omega) (by show (sn7 + 6) + 0 ≤ sn7 + 6; omega) ?_
  refine lv_iload hx hb dL_law_651 (lv_at hl 1 rfl) ?_
  refine lv_icmp_eq (tgt := 658) hx hb dL_law_653 (by decide) (fun h_653 => ?_) (fun h9 => absurd rfl h9)
  refine lv_iload hx hb dL_law_658 (lv_at hl 1 rfl) ?_
  refine mn_if_ne (tgt := 675) hB dL_law_660 (by decide) (by omega) (fun h_660 => ?_) (fun h => by exfalso; omega)
  refine lv_goto (tgt := 1803) hx hb dL_law_675 (by decide) ?_
  refine W.widen (k := ce7 + 30) (n := sn7 + 1100) (by omega) (by omega) ?_
  exact kk _ _ _ ⟨hC, ⟨_, _, _, _, _, _, _, _, _, _, _, _, _, _, _, _, _, _, _, _, hR⟩, ⟨_, hO⟩, hTx⟩ hS (lv_sub hl [2, 3, 4, 5, 6] rfl)

set_option maxRecDepth 100000 in
set_option maxHeartbeats 800000 in
theorem s_count_t1b_0 {p : Program} {l : Launch} {e : Env} {s : State} {m : MethodId} {args : Array Value} {below : List Frame} {meth : Method} {c : Code} {H : Heap} {locs : List Loc} {ce7 sn7 : Nat} {Q : State → Prop} {g : GG} {b L xb r ob lim : Nat} {xs : Nat → Int32} {i9 : Nat} {ls : Array Slot} {q : Nat → Int32} {n : Nat} {rm sl sv tx : Nat → Int32} {ln : Nat} {zsp : Nat → Int32} {zth : Int32} {zsg : Nat → Int32} {zbg : Nat → Int32} {zwd : Nat → Int32} {zhg : Nat → Int32} {zin : Nat → Int32} {zop : Int32} {zbe : Int32} {zwi : Int32} {zhi : Int32} {zbk : Nat → Int32} {zot : Nat → Int32} {zer : Int32} {zen : Int32} {zpo : Nat → Int32} {zpi : Int32} {zgr : Int32} {zsh : Nat → Int32} {zsn : Int32} {o : Nat → Int64} (hfl : l.stackTraces = false) (hE : LE p s m meth c g b L xs xb r ob lim) (hi : 4 * i9 + 3 < L) (hC : CLS g xb lim q n rm sl sv tx ln H) (hR : ModAt g r q zsp rm (nI n) sl sv tx (nI ln) zth zsg zbg zwd zhg zin zop zbe zwi zhi zbk zot zer zen zpo zpi zgr zsh zsn H) (hO : at_ g H ob (eL g 1 o)) (hTx : TxT tx ln) (hS : va_S (fun q9 => xb ≤ q9) s.heap H locs) (hl : lv_has ls 7 [(0, .ref b), (1, .ref xb), (2, .ref r), (3, .ref ob), (4, .int (nI (4 * i9)))]) (hce7 : ce7 + 30 ≤ 622861) (hsn7 : sn7 + 1100 ≤ 7227521) (f : Nat) (y : Int32) (z : Int32) (a1 : xs (4 * i9 + 1) = nI f) (a2 : xs (4 * i9 + 2) = y) (a3 : xs (4 * i9 + 3) = z) (hf : f < 3) (hx1 : isIx y 6 = false) (hz9 : z = 0) (kk : ∀ (H1 : Heap) (locs1 : List Loc) (ls1 : Array Slot), LI g xb r ob lim q n rm sl sv tx ln H1 → va_S (fun q9 => xb ≤ q9) s.heap H1 locs1 → lv_has ls1 7 [(0, .ref b), (1, .ref xb), (2, .ref r), (3, .ref ob), (4, .int (nI (4 * i9)))] → W p l e room_1 s m args below meth c H1 locs1 (ce7 + 30) (sn7 + 1100) Q (F0 m 1803 ls1 [])) : W p l e room_1 s m args below meth c H locs ce7 sn7 Q (F0 m 582 ls []) := by
  obtain ⟨hB, hZ9, hX, hbl, hL9, hxs, hr9, hob9, hlm9⟩ := hE
  have hx := hB.x
  have hb := hB.b
  have hbA : ¬ (fun q9 => xb ≤ q9) b := fun y9 => by have y8 : xb ≤ b := y9; omega
  have hW := hC.wf
  have hn14 := hC.n14
  have hl6c := hC.l60
  have hnm5 := hW.2.2.1
  refine lv_aload_n hx hb dL_law_582 rfl (lv_at hl 1 rfl) ?_
  refine lv_aload_n hx hb dL_law_583 rfl (lv_at hl 0 rfl) ?_
  refine lv_iload hx hb dL_law_584 (lv_at hl 4 rfl) ?_
  refine lv_iconst (v := nI 1) hx hb dL_law_586 (by decide) ?_
  refine mn_iadd hB dL_law_587 ?_
  refine va_sld hx hb hX hbl hbA hS (vp_in_nI (by omega) (by omega)) dL_law_588 ?_
  refine mh_top (y := .int (nI f)) (by rw [nI_clamp (by omega), a1]) ?_
  refine lv_aload_n hx hb dL_law_589 rfl (lv_at hl 0 rfl) ?_
  refine lv_iload hx hb dL_law_590 (lv_at hl 4 rfl) ?_
  refine lv_iconst (v := nI 2) hx hb dL_law_592 (by decide) ?_
  refine mn_iadd hB dL_law_593 ?_
  refine va_sld hx hb hX hbl hbA hS (vp_in_nI (by omega) (by omega)) dL_law_594 ?_
  refine mh_top (y := .int y) (by rw [nI_clamp (by omega), a2]) ?_
  refine lv_aload_n hx hb dL_law_595 rfl (lv_at hl 0 rfl) ?_
  refine lv_iload hx hb dL_law_596 (lv_at hl 4 rfl) ?_
  refine lv_iconst (v := nI 3) hx hb dL_law_598 (by decide) ?_
  refine mn_iadd hB dL_law_599 ?_
  refine va_sld hx hb hX hbl hbA hS (vp_in_nI (by omega) (by omega)) dL_law_600 ?_
  refine mh_top (y := .int z) (by rw [nI_clamp (by omega), a3]) ?_
  refine lv_if_eq (tgt := 608) hx hb dL_law_601 (by decide) (fun h_601 => ?_) (fun h => absurd hz9 h)
  refine lv_iconst (v := nI 0) hx hb dL_law_608 (by decide) ?_
  refine lv_aload_n hx hb dL_law_609 rfl (lv_at hl 3 rfl) ?_
  refine cw_130 (As := [.ref xb, .int (nI f), .int y, .int (nI 0), .ref ob]) (rest := []) hB (hZ9.at hS (fun _ h9 => h9)) (w_count_t1b_0 l g H xb lim q n rm sl sv tx ln f y (nI 0) ob o (hC) (hO) (hf) (hx1) (⟨by omega, by omega⟩) (hfl)) rfl hl.1 (Nat.le_of_ble_eq_true rfl) dL_law_610 ⟨Nat.le_of_ble_eq_true rfl, Nat.le_of_ble_eq_true rfl⟩ ⟨by show (ce7) + 1 ≤ 622861; omega, by show (sn7) + 6 ≤ 7227521; omega⟩ hS (by have hz9 := hS.1; rintro q9 (h9 | h9) <;> first | exact h9.elim | (have h8 : r ≤ q9 ∧ q9 < r + 16 := h9; show xb ≤ q9; omega) | (have h8 : ((xb ≤ q9 ∧ q9 < xb + 68) ∨ lim ≤ q9) ∨ q9 = ob := h9; show xb ≤ q9; omega) | (have h8 : (xb ≤ q9 ∧ q9 < xb + 68) ∨ lim ≤ q9 := h9; show xb ≤ q9; omega) | (show xb ≤ q9; omega)) (fun v H1 locs hpo hfr hS => ?_)
  obtain ⟨rfl, hC, hO⟩ := hpo
  have hR := hR.keptF hfr (fun q9 h1 h2 y9 => by first | exact y9.elim | (have y8 : ((xb ≤ q9 ∧ q9 < xb + 68) ∨ lim ≤ q9) ∨ q9 = ob := y9; omega) | (have y8 : (xb ≤ q9 ∧ q9 < xb + 68) ∨ lim ≤ q9 := y9; omega))
  generalize H1 = H at hfr hS hR hX hC hO ⊢
  refine W.widen (k := ce7 + 1) (n := sn7 + 6) (by show (ce7) + 1 ≤ ce7 + 1; omega) (by show (sn7) + 6 ≤ sn7 + 6; omega) ?_
  refine lv_istore (lv' := [(5, .int (nI 1)), (0, .ref b), (1, .ref xb), (2, .ref r), (3, .ref ob), (4, .int (nI (4 * i9)))]) hx hb dL_law_613 hl (by decide) rfl (fun ls hl => ?_)
  refine lv_aload_n hx hb dL_law_615 rfl (lv_at hl 3 rfl) ?_
  refine lv_aload_n hx hb dL_law_616 rfl (lv_at hl 1 rfl) ?_
  refine lv_iload hx hb dL_law_617 (lv_at hl 5 rfl) ?_
  refine lv_iconst (v := nI 1) hx hb dL_law_619 (by decide) ?_
  refine mn_iadd hB dL_law_620 ?_
  refine va_sld hx hb hX hbl hbA hS (vp_in_nI (by omega) (by omega)) dL_law_621 ?_
  refine mh_top (y := .int (nI f)) (by rw [nI_clamp (by omega), a1]) ?_
  refine lv_aload_n hx hb dL_law_622 rfl (lv_at hl 1 rfl) ?_
  refine lv_iload hx hb dL_law_623 (lv_at hl 5 rfl) ?_
  refine lv_iconst (v := nI 2) hx hb dL_law_625 (by decide) ?_
  refine mn_iadd hB dL_law_626 ?_
  refine va_sld hx hb hX hbl hbA hS (vp_in_nI (by omega) (by omega)) dL_law_627 ?_
  refine mh_top (y := .int y) (by rw [nI_clamp (by omega), a2]) ?_
  refine lv_aload_n hx hb dL_law_628 rfl (lv_at hl 1 rfl) ?_
  refine lv_iload hx hb dL_law_629 (lv_at hl 5 rfl) ?_
  refine lv_iconst (v := nI 3) hx hb dL_law_631 (by decide) ?_
  refine mn_iadd hB dL_law_632 ?_
  refine va_sld hx hb hX hbl hbA hS (vp_in_nI (by omega) (by omega)) dL_law_633 ?_
  refine mh_top (y := .int z) (by rw [nI_clamp (by omega), a3]) ?_
  refine lv_if_eq (tgt := 641) hx hb dL_law_634 (by decide) (fun h_634 => ?_) (fun h => absurd hz9 h)
  refine lv_iconst (v := nI 0) hx hb dL_law_641 (by decide) ?_
  refine mh_top (y := .int (bI false)) (rfl) ?_
  refine cl_L_133 (As := [.int (nI f), .int y, .int (bI false)]) (rest := []) hB (c_X11_count_t1 l g H r q zsp rm (nI n) sl sv tx (nI ln) zth zsg zbg zwd zhg zin zop zbe zwi zhi zbk zot zer zen zpo zpi zgr zsh zsn (nI f) y false hR (Or.inr hx1)) hR.o rfl hl.1 (Nat.le_of_ble_eq_true rfl) dL_law_642 ⟨Nat.le_of_ble_eq_true rfl, Nat.le_of_ble_eq_true rfl⟩ ⟨by show (ce7 + 1) + 0 ≤ 622861; omega, by show (sn7 + 6) + 0 ≤ 7227521; omega⟩ hS (by have hz9 := hS.1; rintro q9 (h9 | h9) <;> first | exact h9.elim | (have h8 : r ≤ q9 ∧ q9 < r + 16 := h9; show xb ≤ q9; omega) | (have h8 : ((xb ≤ q9 ∧ q9 < xb + 68) ∨ lim ≤ q9) ∨ q9 = ob := h9; show xb ≤ q9; omega) | (have h8 : (xb ≤ q9 ∧ q9 < xb + 68) ∨ lim ≤ q9 := h9; show xb ≤ q9; omega) | (show xb ≤ q9; omega)) (fun v H1 locs hpo hfr hS => ?_)
  obtain ⟨rfl, hR⟩ := hpo
  have hC := hC.keptM hfr (fun a9 y9 => by first | exact y9.elim | (have y8 : r ≤ a9 ∧ a9 < r + 16 := y9; omega))
  have hO := Fr.keep hfr hO (fun y9 => by first | exact y9.elim | (have y8 : r ≤ ob ∧ ob < r + 16 := y9; omega) | (have y8 : (xb ≤ ob ∧ ob < xb + 68) ∨ lim ≤ ob := y9; omega))
  generalize H1 = H at hfr hS hX hC hO hR ⊢
  refine W.widen (k := ce7 + 1) (n := sn7 + 6) (by show (ce7 + 1) + 0 ≤ ce7 + 1; omega) (by show (sn7 + 6) + 0 ≤ sn7 + 6; omega) ?_
  refine lv_istore (lv' := [(6, .int (nI 0)), (5, .int (nI 1)), (0, .ref b), (1, .ref xb), (2, .ref r), (3, .ref ob), (4, .int (nI (4 * i9)))]) hx hb dL_law_645 hl (by decide) rfl (fun ls hl => ?_)
  refine lv_aload_n hx hb dL_law_647 rfl (lv_at hl 4 rfl) ?_
  refine cl_L_102 (As := []) (rest := []) hB (c_X11_thrown l g H r q zsp rm (nI n) sl sv tx (nI ln) (nI 1) zsg zbg zwd zhg zin zop zbe zwi zhi zbk zot zer zen zpo zpi zgr zsh zsn hR) hR.o rfl hl.1 (Nat.le_of_ble_eq_true rfl) dL_law_648 ⟨Nat.le_of_ble_eq_true rfl, Nat.le_of_ble_eq_true rfl⟩ ⟨by show (ce7 + 1) + 0 ≤ 622861; omega, by show (sn7 + 6) + 0 ≤ 7227521; omega⟩ hS (by have hz9 := hS.1; rintro q9 (h9 | h9) <;> first | exact h9.elim | (have h8 : r ≤ q9 ∧ q9 < r + 16 := h9; show xb ≤ q9; omega) | (have h8 : ((xb ≤ q9 ∧ q9 < xb + 68) ∨ lim ≤ q9) ∨ q9 = ob := h9; show xb ≤ q9; omega) | (have h8 : (xb ≤ q9 ∧ q9 < xb + 68) ∨ lim ≤ q9 := h9; show xb ≤ q9; omega) | (show xb ≤ q9; omega)) (fun v H1 locs hpo hfr hS => ?_)
  obtain ⟨rfl, rfl⟩ := hpo
  refine W.widen (k := ce7 + 1) (n := sn7 + 6) (by show (ce7 + 1) + 0 ≤ ce7 + 1; omega) (by show (sn7 + 6) + 0 ≤ sn7 + 6; omega) ?_
  refine lv_iload hx hb dL_law_651 (lv_at hl 1 rfl) ?_
  refine lv_icmp_eq (tgt := 658) hx hb dL_law_653 (by decide) (fun h_653 => ?_) (fun h9 => absurd rfl h9)
  refine lv_iload hx hb dL_law_658 (lv_at hl 1 rfl) ?_
  refine mn_if_ne (tgt := 675) hB dL_law_660 (by decide) (by omega) (fun h_660 => ?_) (fun h => by exfalso; omega)
  refine lv_goto (tgt := 1803) hx hb dL_law_675 (by decide) ?_
  refine W.widen (k := ce7 + 30) (n := sn7 + 1100) (by omega) (by omega) ?_
  exact kk _ _ _ ⟨hC, ⟨_, _, _, _, _, _, _, _, _, _, _, _, _, _, _, _, _, _, _, _, hR⟩, ⟨_, hO⟩, hTx⟩ hS (lv_sub hl [2, 3, 4, 5, 6] rfl)

set_option maxRecDepth 100000 in
set_option maxHeartbeats 800000 in
theorem s_count_z0 {p : Program} {l : Launch} {e : Env} {s : State} {m : MethodId} {args : Array Value} {below : List Frame} {meth : Method} {c : Code} {H : Heap} {locs : List Loc} {ce7 sn7 : Nat} {Q : State → Prop} {g : GG} {b L xb r ob lim : Nat} {xs : Nat → Int32} {i9 : Nat} {ls : Array Slot} {q : Nat → Int32} {n : Nat} {rm sl sv tx : Nat → Int32} {ln : Nat} {zsp : Nat → Int32} {zth : Int32} {zsg : Nat → Int32} {zbg : Nat → Int32} {zwd : Nat → Int32} {zhg : Nat → Int32} {zin : Nat → Int32} {zop : Int32} {zbe : Int32} {zwi : Int32} {zhi : Int32} {zbk : Nat → Int32} {zot : Nat → Int32} {zer : Int32} {zen : Int32} {zpo : Nat → Int32} {zpi : Int32} {zgr : Int32} {zsh : Nat → Int32} {zsn : Int32} {o : Nat → Int64} (hfl : l.stackTraces = false) (hE : LE p s m meth c g b L xs xb r ob lim) (hi : 4 * i9 + 3 < L) (hC : CLS g xb lim q n rm sl sv tx ln H) (hR : ModAt g r q zsp rm (nI n) sl sv tx (nI ln) zth zsg zbg zwd zhg zin zop zbe zwi zhi zbk zot zer zen zpo zpi zgr zsh zsn H) (hO : at_ g H ob (eL g 1 o)) (hTx : TxT tx ln) (hS : va_S (fun q9 => xb ≤ q9) s.heap H locs) (hl : lv_has ls 7 [(0, .ref b), (1, .ref xb), (2, .ref r), (3, .ref ob), (4, .int (nI (4 * i9)))]) (hce7 : ce7 + 30 ≤ 622861) (hsn7 : sn7 + 1100 ≤ 7227521) (f : Nat) (c0 : Nat) (z : Int32) (a1 : xs (4 * i9 + 1) = nI f) (a2 : xs (4 * i9 + 2) = nI c0) (a3 : xs (4 * i9 + 3) = z) (hf : f < 3) (hc : c0 < 6) (hz9 : z = 0) (kk : ∀ (H1 : Heap) (locs1 : List Loc) (ls1 : Array Slot), LI g xb r ob lim q n rm sl sv tx ln H1 → va_S (fun q9 => xb ≤ q9) s.heap H1 locs1 → lv_has ls1 7 [(0, .ref b), (1, .ref xb), (2, .ref r), (3, .ref ob), (4, .int (nI (4 * i9)))] → W p l e room_1 s m args below meth c H1 locs1 (ce7 + 30) (sn7 + 1100) Q (F0 m 1803 ls1 [])) : W p l e room_1 s m args below meth c H locs ce7 sn7 Q (F0 m 582 ls []) := by
  obtain ⟨hB, hZ9, hX, hbl, hL9, hxs, hr9, hob9, hlm9⟩ := hE
  have hx := hB.x
  have hb := hB.b
  have hbA : ¬ (fun q9 => xb ≤ q9) b := fun y9 => by have y8 : xb ≤ b := y9; omega
  have hW := hC.wf
  have hn14 := hC.n14
  have hl6c := hC.l60
  have hnm5 := hW.2.2.1
  refine lv_aload_n hx hb dL_law_582 rfl (lv_at hl 1 rfl) ?_
  refine lv_aload_n hx hb dL_law_583 rfl (lv_at hl 0 rfl) ?_
  refine lv_iload hx hb dL_law_584 (lv_at hl 4 rfl) ?_
  refine lv_iconst (v := nI 1) hx hb dL_law_586 (by decide) ?_
  refine mn_iadd hB dL_law_587 ?_
  refine va_sld hx hb hX hbl hbA hS (vp_in_nI (by omega) (by omega)) dL_law_588 ?_
  refine mh_top (y := .int (nI f)) (by rw [nI_clamp (by omega), a1]) ?_
  refine lv_aload_n hx hb dL_law_589 rfl (lv_at hl 0 rfl) ?_
  refine lv_iload hx hb dL_law_590 (lv_at hl 4 rfl) ?_
  refine lv_iconst (v := nI 2) hx hb dL_law_592 (by decide) ?_
  refine mn_iadd hB dL_law_593 ?_
  refine va_sld hx hb hX hbl hbA hS (vp_in_nI (by omega) (by omega)) dL_law_594 ?_
  refine mh_top (y := .int (nI c0)) (by rw [nI_clamp (by omega), a2]) ?_
  refine lv_aload_n hx hb dL_law_595 rfl (lv_at hl 0 rfl) ?_
  refine lv_iload hx hb dL_law_596 (lv_at hl 4 rfl) ?_
  refine lv_iconst (v := nI 3) hx hb dL_law_598 (by decide) ?_
  refine mn_iadd hB dL_law_599 ?_
  refine va_sld hx hb hX hbl hbA hS (vp_in_nI (by omega) (by omega)) dL_law_600 ?_
  refine mh_top (y := .int z) (by rw [nI_clamp (by omega), a3]) ?_
  refine lv_if_eq (tgt := 608) hx hb dL_law_601 (by decide) (fun h_601 => ?_) (fun h => absurd hz9 h)
  refine lv_iconst (v := nI 0) hx hb dL_law_608 (by decide) ?_
  refine lv_aload_n hx hb dL_law_609 rfl (lv_at hl 3 rfl) ?_
  refine cw_130 (As := [.ref xb, .int (nI f), .int (nI c0), .int (nI 0), .ref ob]) (rest := []) hB (hZ9.at hS (fun _ h9 => h9)) (w_count_z0 l g H xb lim q n rm sl sv tx ln f c0 ob o (hC) (hO) (hf) (hc) (⟨by omega, by omega⟩) (hfl)) rfl hl.1 (Nat.le_of_ble_eq_true rfl) dL_law_610 ⟨Nat.le_of_ble_eq_true rfl, Nat.le_of_ble_eq_true rfl⟩ ⟨by show (ce7) + 0 ≤ 622861; omega, by show (sn7) + 0 ≤ 7227521; omega⟩ hS (by have hz9 := hS.1; rintro q9 (h9 | h9) <;> first | exact h9.elim | (have h8 : r ≤ q9 ∧ q9 < r + 16 := h9; show xb ≤ q9; omega) | (have h8 : ((xb ≤ q9 ∧ q9 < xb + 68) ∨ lim ≤ q9) ∨ q9 = ob := h9; show xb ≤ q9; omega) | (have h8 : (xb ≤ q9 ∧ q9 < xb + 68) ∨ lim ≤ q9 := h9; show xb ≤ q9; omega) | (show xb ≤ q9; omega)) (fun v H1 locs hpo hfr hS => ?_)
  obtain ⟨rfl, hC, hO⟩ := hpo
  have hR := hR.keptF hfr (fun q9 h1 h2 y9 => by first | exact y9.elim | (have y8 : ((xb ≤ q9 ∧ q9 < xb + 68) ∨ lim ≤ q9) ∨ q9 = ob := y9; omega) | (have y8 : (xb ≤ q9 ∧ q9 < xb + 68) ∨ lim ≤ q9 := y9; omega))
  generalize H1 = H at hfr hS hR hX hC hO ⊢
  refine W.widen (k := ce7) (n := sn7) (by show (ce7) + 0 ≤ ce7; omega) (by show (sn7) + 0 ≤ sn7; omega) ?_
  refine lv_istore (lv' := [(5, .int (nI 0)), (0, .ref b), (1, .ref xb), (2, .ref r), (3, .ref ob), (4, .int (nI (4 * i9)))]) hx hb dL_law_613 hl (by decide) rfl (fun ls hl => ?_)
  refine lv_aload_n hx hb dL_law_615 rfl (lv_at hl 3 rfl) ?_
  refine lv_aload_n hx hb dL_law_616 rfl (lv_at hl 1 rfl) ?_
  refine lv_iload hx hb dL_law_617 (lv_at hl 5 rfl) ?_
  refine lv_iconst (v := nI 1) hx hb dL_law_619 (by decide) ?_
  refine mn_iadd hB dL_law_620 ?_
  refine va_sld hx hb hX hbl hbA hS (vp_in_nI (by omega) (by omega)) dL_law_621 ?_
  refine mh_top (y := .int (nI f)) (by rw [nI_clamp (by omega), a1]) ?_
  refine lv_aload_n hx hb dL_law_622 rfl (lv_at hl 1 rfl) ?_
  refine lv_iload hx hb dL_law_623 (lv_at hl 5 rfl) ?_
  refine lv_iconst (v := nI 2) hx hb dL_law_625 (by decide) ?_
  refine mn_iadd hB dL_law_626 ?_
  refine va_sld hx hb hX hbl hbA hS (vp_in_nI (by omega) (by omega)) dL_law_627 ?_
  refine mh_top (y := .int (nI c0)) (by rw [nI_clamp (by omega), a2]) ?_
  refine lv_aload_n hx hb dL_law_628 rfl (lv_at hl 1 rfl) ?_
  refine lv_iload hx hb dL_law_629 (lv_at hl 5 rfl) ?_
  refine lv_iconst (v := nI 3) hx hb dL_law_631 (by decide) ?_
  refine mn_iadd hB dL_law_632 ?_
  refine va_sld hx hb hX hbl hbA hS (vp_in_nI (by omega) (by omega)) dL_law_633 ?_
  refine mh_top (y := .int z) (by rw [nI_clamp (by omega), a3]) ?_
  refine lv_if_eq (tgt := 641) hx hb dL_law_634 (by decide) (fun h_634 => ?_) (fun h => absurd hz9 h)
  refine lv_iconst (v := nI 0) hx hb dL_law_641 (by decide) ?_
  refine mh_top (y := .int (bI false)) (rfl) ?_
  refine cl_L_133 (As := [.int (nI f), .int (nI c0), .int (bI false)]) (rest := []) hB (c_X11_count l g H r q zsp rm (nI n) sl sv tx (nI ln) zth zsg zbg zwd zhg zin zop zbe zwi zhi zbk zot zer zen zpo zpi zgr zsh zsn f c0 false hR (by first | assumption | omega) (hf) (hc)) hR.o rfl hl.1 (Nat.le_of_ble_eq_true rfl) dL_law_642 ⟨Nat.le_of_ble_eq_true rfl, Nat.le_of_ble_eq_true rfl⟩ ⟨by show (ce7) + 0 ≤ 622861; omega, by show (sn7) + 0 ≤ 7227521; omega⟩ hS (by have hz9 := hS.1; rintro q9 (h9 | h9) <;> first | exact h9.elim | (have h8 : r ≤ q9 ∧ q9 < r + 16 := h9; show xb ≤ q9; omega) | (have h8 : ((xb ≤ q9 ∧ q9 < xb + 68) ∨ lim ≤ q9) ∨ q9 = ob := h9; show xb ≤ q9; omega) | (have h8 : (xb ≤ q9 ∧ q9 < xb + 68) ∨ lim ≤ q9 := h9; show xb ≤ q9; omega) | (show xb ≤ q9; omega)) (fun v H1 locs hpo hfr hS => ?_)
  obtain ⟨rfl, hR⟩ := hpo
  have hC := hC.keptM hfr (fun a9 y9 => by first | exact y9.elim | (have y8 : r ≤ a9 ∧ a9 < r + 16 := y9; omega))
  have hO := Fr.keep hfr hO (fun y9 => by first | exact y9.elim | (have y8 : r ≤ ob ∧ ob < r + 16 := y9; omega) | (have y8 : (xb ≤ ob ∧ ob < xb + 68) ∨ lim ≤ ob := y9; omega))
  generalize H1 = H at hfr hS hX hC hO hR ⊢
  refine W.widen (k := ce7) (n := sn7) (by show (ce7) + 0 ≤ ce7; omega) (by show (sn7) + 0 ≤ sn7; omega) ?_
  refine mh_top (y := .int (nI (cntC q f c0 0 (szF q f)))) (by rw [if_neg (by decide)]) ?_
  refine lv_istore (lv' := [(6, .int (nI (cntC q f c0 0 (szF q f)))), (5, .int (nI 0)), (0, .ref b), (1, .ref xb), (2, .ref r), (3, .ref ob), (4, .int (nI (4 * i9)))]) hx hb dL_law_645 hl (by decide) rfl (fun ls hl => ?_)
  refine lv_aload_n hx hb dL_law_647 rfl (lv_at hl 4 rfl) ?_
  refine cl_L_102 (As := []) (rest := []) hB (c_X11_thrown l g H r q zsp rm (nI n) sl sv tx (nI ln) (nI 0) zsg zbg zwd zhg zin zop zbe zwi zhi zbk zot zer zen zpo zpi zgr zsh zsn hR) hR.o rfl hl.1 (Nat.le_of_ble_eq_true rfl) dL_law_648 ⟨Nat.le_of_ble_eq_true rfl, Nat.le_of_ble_eq_true rfl⟩ ⟨by show (ce7) + 0 ≤ 622861; omega, by show (sn7) + 0 ≤ 7227521; omega⟩ hS (by have hz9 := hS.1; rintro q9 (h9 | h9) <;> first | exact h9.elim | (have h8 : r ≤ q9 ∧ q9 < r + 16 := h9; show xb ≤ q9; omega) | (have h8 : ((xb ≤ q9 ∧ q9 < xb + 68) ∨ lim ≤ q9) ∨ q9 = ob := h9; show xb ≤ q9; omega) | (have h8 : (xb ≤ q9 ∧ q9 < xb + 68) ∨ lim ≤ q9 := h9; show xb ≤ q9; omega) | (show xb ≤ q9; omega)) (fun v H1 locs hpo hfr hS => ?_)
  obtain ⟨rfl, rfl⟩ := hpo
  refine W.widen (k := ce7) (n := sn7) (by show (ce7) + 0 ≤ ce7; omega) (by show (sn7) + 0 ≤ sn7; omega) ?_
  refine lv_iload hx hb dL_law_651 (lv_at hl 1 rfl) ?_
  refine lv_icmp_eq (tgt := 658) hx hb dL_law_653 (by decide) (fun h_653 => ?_) (fun h9 => absurd rfl h9)
  refine lv_iload hx hb dL_law_658 (lv_at hl 1 rfl) ?_
  refine mn_if_ne (tgt := 675) hB dL_law_660 (by decide) (by omega) (fun h => by exfalso; omega) (fun h_660 => ?_)
  refine lv_aload_n hx hb dL_law_663 rfl (lv_at hl 5 rfl) ?_
  refine lv_iconst (v := nI 0) hx hb dL_law_664 (by decide) ?_
  refine mn_lald hB hO (by omega) (by omega) dL_law_665 ?_
  refine mh_top (y := .long ((nI (cntC q f c0 0 (szF q f))).toInt64)) (rfl) ?_
  refine lv_iload hx hb dL_law_666 (lv_at hl 0 rfl) ?_
  refine lv_i2l (v := (nI (cntC q f c0 0 (szF q f))).toInt64) hx hb dL_law_668 rfl ?_
  refine W.lcmp hx hb dL_law_669 ?_
  refine ml_if_eq (tgt := 675) hB dL_law_670 (by decide) (fun h_670 => ?_) (fun h => absurd rfl h)
  refine lv_goto (tgt := 1803) hx hb dL_law_675 (by decide) ?_
  refine W.widen (k := ce7 + 30) (n := sn7 + 1100) (by omega) (by omega) ?_
  exact kk _ _ _ ⟨hC, ⟨_, _, _, _, _, _, _, _, _, _, _, _, _, _, _, _, _, _, _, _, hR⟩, ⟨_, hO⟩, hTx⟩ hS (lv_sub hl [2, 3, 4, 5, 6] rfl)

set_option maxRecDepth 100000 in
set_option maxHeartbeats 800000 in
theorem s_count_t1_1 {p : Program} {l : Launch} {e : Env} {s : State} {m : MethodId} {args : Array Value} {below : List Frame} {meth : Method} {c : Code} {H : Heap} {locs : List Loc} {ce7 sn7 : Nat} {Q : State → Prop} {g : GG} {b L xb r ob lim : Nat} {xs : Nat → Int32} {i9 : Nat} {ls : Array Slot} {q : Nat → Int32} {n : Nat} {rm sl sv tx : Nat → Int32} {ln : Nat} {zsp : Nat → Int32} {zth : Int32} {zsg : Nat → Int32} {zbg : Nat → Int32} {zwd : Nat → Int32} {zhg : Nat → Int32} {zin : Nat → Int32} {zop : Int32} {zbe : Int32} {zwi : Int32} {zhi : Int32} {zbk : Nat → Int32} {zot : Nat → Int32} {zer : Int32} {zen : Int32} {zpo : Nat → Int32} {zpi : Int32} {zgr : Int32} {zsh : Nat → Int32} {zsn : Int32} {o : Nat → Int64} (hfl : l.stackTraces = false) (hE : LE p s m meth c g b L xs xb r ob lim) (hi : 4 * i9 + 3 < L) (hC : CLS g xb lim q n rm sl sv tx ln H) (hR : ModAt g r q zsp rm (nI n) sl sv tx (nI ln) zth zsg zbg zwd zhg zin zop zbe zwi zhi zbk zot zer zen zpo zpi zgr zsh zsn H) (hO : at_ g H ob (eL g 1 o)) (hTx : TxT tx ln) (hS : va_S (fun q9 => xb ≤ q9) s.heap H locs) (hl : lv_has ls 7 [(0, .ref b), (1, .ref xb), (2, .ref r), (3, .ref ob), (4, .int (nI (4 * i9)))]) (hce7 : ce7 + 30 ≤ 622861) (hsn7 : sn7 + 1100 ≤ 7227521) (x : Int32) (y : Int32) (z : Int32) (a1 : xs (4 * i9 + 1) = x) (a2 : xs (4 * i9 + 2) = y) (a3 : xs (4 * i9 + 3) = z) (hx1 : isIx x 3 = false) (hz9 : ¬ z = 0) (kk : ∀ (H1 : Heap) (locs1 : List Loc) (ls1 : Array Slot), LI g xb r ob lim q n rm sl sv tx ln H1 → va_S (fun q9 => xb ≤ q9) s.heap H1 locs1 → lv_has ls1 7 [(0, .ref b), (1, .ref xb), (2, .ref r), (3, .ref ob), (4, .int (nI (4 * i9)))] → W p l e room_1 s m args below meth c H1 locs1 (ce7 + 30) (sn7 + 1100) Q (F0 m 1803 ls1 [])) : W p l e room_1 s m args below meth c H locs ce7 sn7 Q (F0 m 582 ls []) := by
  obtain ⟨hB, hZ9, hX, hbl, hL9, hxs, hr9, hob9, hlm9⟩ := hE
  have hx := hB.x
  have hb := hB.b
  have hbA : ¬ (fun q9 => xb ≤ q9) b := fun y9 => by have y8 : xb ≤ b := y9; omega
  have hW := hC.wf
  have hn14 := hC.n14
  have hl6c := hC.l60
  have hnm5 := hW.2.2.1
  refine lv_aload_n hx hb dL_law_582 rfl (lv_at hl 1 rfl) ?_
  refine lv_aload_n hx hb dL_law_583 rfl (lv_at hl 0 rfl) ?_
  refine lv_iload hx hb dL_law_584 (lv_at hl 4 rfl) ?_
  refine lv_iconst (v := nI 1) hx hb dL_law_586 (by decide) ?_
  refine mn_iadd hB dL_law_587 ?_
  refine va_sld hx hb hX hbl hbA hS (vp_in_nI (by omega) (by omega)) dL_law_588 ?_
  refine mh_top (y := .int x) (by rw [nI_clamp (by omega), a1]) ?_
  refine lv_aload_n hx hb dL_law_589 rfl (lv_at hl 0 rfl) ?_
  refine lv_iload hx hb dL_law_590 (lv_at hl 4 rfl) ?_
  refine lv_iconst (v := nI 2) hx hb dL_law_592 (by decide) ?_
  refine mn_iadd hB dL_law_593 ?_
  refine va_sld hx hb hX hbl hbA hS (vp_in_nI (by omega) (by omega)) dL_law_594 ?_
  refine mh_top (y := .int y) (by rw [nI_clamp (by omega), a2]) ?_
  refine lv_aload_n hx hb dL_law_595 rfl (lv_at hl 0 rfl) ?_
  refine lv_iload hx hb dL_law_596 (lv_at hl 4 rfl) ?_
  refine lv_iconst (v := nI 3) hx hb dL_law_598 (by decide) ?_
  refine mn_iadd hB dL_law_599 ?_
  refine va_sld hx hb hX hbl hbA hS (vp_in_nI (by omega) (by omega)) dL_law_600 ?_
  refine mh_top (y := .int z) (by rw [nI_clamp (by omega), a3]) ?_
  refine lv_if_eq (tgt := 608) hx hb dL_law_601 (by decide) (fun h => absurd h hz9) (fun h_601 => ?_)
  refine lv_iconst (v := nI 1) hx hb dL_law_604 (by decide) ?_
  refine lv_goto (tgt := 609) hx hb dL_law_605 (by decide) ?_
  refine lv_aload_n hx hb dL_law_609 rfl (lv_at hl 3 rfl) ?_
  refine cw_130 (As := [.ref xb, .int x, .int y, .int (nI 1), .ref ob]) (rest := []) hB (hZ9.at hS (fun _ h9 => h9)) (w_count_t1_0 l g H xb lim q n rm sl sv tx ln x y (nI 1) ob o (hC) (hO) (hx1) (⟨by omega, by omega⟩) (hfl)) rfl hl.1 (Nat.le_of_ble_eq_true rfl) dL_law_610 ⟨Nat.le_of_ble_eq_true rfl, Nat.le_of_ble_eq_true rfl⟩ ⟨by show (ce7) + 1 ≤ 622861; omega, by show (sn7) + 6 ≤ 7227521; omega⟩ hS (by have hz9 := hS.1; rintro q9 (h9 | h9) <;> first | exact h9.elim | (have h8 : r ≤ q9 ∧ q9 < r + 16 := h9; show xb ≤ q9; omega) | (have h8 : ((xb ≤ q9 ∧ q9 < xb + 68) ∨ lim ≤ q9) ∨ q9 = ob := h9; show xb ≤ q9; omega) | (have h8 : (xb ≤ q9 ∧ q9 < xb + 68) ∨ lim ≤ q9 := h9; show xb ≤ q9; omega) | (show xb ≤ q9; omega)) (fun v H1 locs hpo hfr hS => ?_)
  obtain ⟨rfl, hC, hO⟩ := hpo
  have hR := hR.keptF hfr (fun q9 h1 h2 y9 => by first | exact y9.elim | (have y8 : ((xb ≤ q9 ∧ q9 < xb + 68) ∨ lim ≤ q9) ∨ q9 = ob := y9; omega) | (have y8 : (xb ≤ q9 ∧ q9 < xb + 68) ∨ lim ≤ q9 := y9; omega))
  generalize H1 = H at hfr hS hR hX hC hO ⊢
  refine W.widen (k := ce7 + 1) (n := sn7 + 6) (by show (ce7) + 1 ≤ ce7 + 1; omega) (by show (sn7) + 6 ≤ sn7 + 6; omega) ?_
  refine lv_istore (lv' := [(5, .int (nI 1)), (0, .ref b), (1, .ref xb), (2, .ref r), (3, .ref ob), (4, .int (nI (4 * i9)))]) hx hb dL_law_613 hl (by decide) rfl (fun ls hl => ?_)
  refine lv_aload_n hx hb dL_law_615 rfl (lv_at hl 3 rfl) ?_
  refine lv_aload_n hx hb dL_law_616 rfl (lv_at hl 1 rfl) ?_
  refine lv_iload hx hb dL_law_617 (lv_at hl 5 rfl) ?_
  refine lv_iconst (v := nI 1) hx hb dL_law_619 (by decide) ?_
  refine mn_iadd hB dL_law_620 ?_
  refine va_sld hx hb hX hbl hbA hS (vp_in_nI (by omega) (by omega)) dL_law_621 ?_
  refine mh_top (y := .int x) (by rw [nI_clamp (by omega), a1]) ?_
  refine lv_aload_n hx hb dL_law_622 rfl (lv_at hl 1 rfl) ?_
  refine lv_iload hx hb dL_law_623 (lv_at hl 5 rfl) ?_
  refine lv_iconst (v := nI 2) hx hb dL_law_625 (by decide) ?_
  refine mn_iadd hB dL_law_626 ?_
  refine va_sld hx hb hX hbl hbA hS (vp_in_nI (by omega) (by omega)) dL_law_627 ?_
  refine mh_top (y := .int y) (by rw [nI_clamp (by omega), a2]) ?_
  refine lv_aload_n hx hb dL_law_628 rfl (lv_at hl 1 rfl) ?_
  refine lv_iload hx hb dL_law_629 (lv_at hl 5 rfl) ?_
  refine lv_iconst (v := nI 3) hx hb dL_law_631 (by decide) ?_
  refine mn_iadd hB dL_law_632 ?_
  refine va_sld hx hb hX hbl hbA hS (vp_in_nI (by omega) (by omega)) dL_law_633 ?_
  refine mh_top (y := .int z) (by rw [nI_clamp (by omega), a3]) ?_
  refine lv_if_eq (tgt := 641) hx hb dL_law_634 (by decide) (fun h => absurd h hz9) (fun h_634 => ?_)
  refine lv_iconst (v := nI 1) hx hb dL_law_637 (by decide) ?_
  refine mh_top (y := .int (bI true)) (rfl) ?_
  refine lv_goto (tgt := 642) hx hb dL_law_638 (by decide) ?_
  refine cl_L_133 (As := [.int x, .int y, .int (bI true)]) (rest := []) hB (c_X11_count_t1 l g H r q zsp rm (nI n) sl sv tx (nI ln) zth zsg zbg zwd zhg zin zop zbe zwi zhi zbk zot zer zen zpo zpi zgr zsh zsn x y true hR (Or.inl hx1)) hR.o rfl hl.1 (Nat.le_of_ble_eq_true rfl) dL_law_642 ⟨Nat.le_of_ble_eq_true rfl, Nat.le_of_ble_eq_true rfl⟩ ⟨by show (ce7 + 1) + 0 ≤ 622861; omega, by show (sn7 + 6) + 0 ≤ 7227521; omega⟩ hS (by have hz9 := hS.1; rintro q9 (h9 | h9) <;> first | exact h9.elim | (have h8 : r ≤ q9 ∧ q9 < r + 16 := h9; show xb ≤ q9; omega) | (have h8 : ((xb ≤ q9 ∧ q9 < xb + 68) ∨ lim ≤ q9) ∨ q9 = ob := h9; show xb ≤ q9; omega) | (have h8 : (xb ≤ q9 ∧ q9 < xb + 68) ∨ lim ≤ q9 := h9; show xb ≤ q9; omega) | (show xb ≤ q9; omega)) (fun v H1 locs hpo hfr hS => ?_)
  obtain ⟨rfl, hR⟩ := hpo
  have hC := hC.keptM hfr (fun a9 y9 => by first | exact y9.elim | (have y8 : r ≤ a9 ∧ a9 < r + 16 := y9; omega))
  have hO := Fr.keep hfr hO (fun y9 => by first | exact y9.elim | (have y8 : r ≤ ob ∧ ob < r + 16 := y9; omega) | (have y8 : (xb ≤ ob ∧ ob < xb + 68) ∨ lim ≤ ob := y9; omega))
  generalize H1 = H at hfr hS hX hC hO hR ⊢
  refine W.widen (k := ce7 + 1) (n := sn7 + 6) (by show (ce7 + 1) + 0 ≤ ce7 + 1; omega) (by show (sn7 + 6) + 0 ≤ sn7 + 6; omega) ?_
  refine lv_istore (lv' := [(6, .int (nI 0)), (5, .int (nI 1)), (0, .ref b), (1, .ref xb), (2, .ref r), (3, .ref ob), (4, .int (nI (4 * i9)))]) hx hb dL_law_645 hl (by decide) rfl (fun ls hl => ?_)
  refine lv_aload_n hx hb dL_law_647 rfl (lv_at hl 4 rfl) ?_
  refine cl_L_102 (As := []) (rest := []) hB (c_X11_thrown l g H r q zsp rm (nI n) sl sv tx (nI ln) (nI 1) zsg zbg zwd zhg zin zop zbe zwi zhi zbk zot zer zen zpo zpi zgr zsh zsn hR) hR.o rfl hl.1 (Nat.le_of_ble_eq_true rfl) dL_law_648 ⟨Nat.le_of_ble_eq_true rfl, Nat.le_of_ble_eq_true rfl⟩ ⟨by show (ce7 + 1) + 0 ≤ 622861; omega, by show (sn7 + 6) + 0 ≤ 7227521; omega⟩ hS (by have hz9 := hS.1; rintro q9 (h9 | h9) <;> first | exact h9.elim | (have h8 : r ≤ q9 ∧ q9 < r + 16 := h9; show xb ≤ q9; omega) | (have h8 : ((xb ≤ q9 ∧ q9 < xb + 68) ∨ lim ≤ q9) ∨ q9 = ob := h9; show xb ≤ q9; omega) | (have h8 : (xb ≤ q9 ∧ q9 < xb + 68) ∨ lim ≤ q9 := h9; show xb ≤ q9; omega) | (show xb ≤ q9; omega)) (fun v H1 locs hpo hfr hS => ?_)
  obtain ⟨rfl, rfl⟩ := hpo
  refine W.widen (k := ce7 + 1) (n := sn7 + 6) (by show (ce7 + 1) + 0 ≤ ce7 + 1; omega) (by show (sn7 + 6) + 0 ≤ sn7 + 6; omega) ?_
  refine lv_iload hx hb dL_law_651 (lv_at hl 1 rfl) ?_
  refine lv_icmp_eq (tgt := 658) hx hb dL_law_653 (by decide) (fun h_653 => ?_) (fun h9 => absurd rfl h9)
  refine lv_iload hx hb dL_law_658 (lv_at hl 1 rfl) ?_
  refine mn_if_ne (tgt := 675) hB dL_law_660 (by decide) (by omega) (fun h_660 => ?_) (fun h => by exfalso; omega)
  refine lv_goto (tgt := 1803) hx hb dL_law_675 (by decide) ?_
  refine W.widen (k := ce7 + 30) (n := sn7 + 1100) (by omega) (by omega) ?_
  exact kk _ _ _ ⟨hC, ⟨_, _, _, _, _, _, _, _, _, _, _, _, _, _, _, _, _, _, _, _, hR⟩, ⟨_, hO⟩, hTx⟩ hS (lv_sub hl [2, 3, 4, 5, 6] rfl)

set_option maxRecDepth 100000 in
set_option maxHeartbeats 800000 in
theorem s_count_t1b_1 {p : Program} {l : Launch} {e : Env} {s : State} {m : MethodId} {args : Array Value} {below : List Frame} {meth : Method} {c : Code} {H : Heap} {locs : List Loc} {ce7 sn7 : Nat} {Q : State → Prop} {g : GG} {b L xb r ob lim : Nat} {xs : Nat → Int32} {i9 : Nat} {ls : Array Slot} {q : Nat → Int32} {n : Nat} {rm sl sv tx : Nat → Int32} {ln : Nat} {zsp : Nat → Int32} {zth : Int32} {zsg : Nat → Int32} {zbg : Nat → Int32} {zwd : Nat → Int32} {zhg : Nat → Int32} {zin : Nat → Int32} {zop : Int32} {zbe : Int32} {zwi : Int32} {zhi : Int32} {zbk : Nat → Int32} {zot : Nat → Int32} {zer : Int32} {zen : Int32} {zpo : Nat → Int32} {zpi : Int32} {zgr : Int32} {zsh : Nat → Int32} {zsn : Int32} {o : Nat → Int64} (hfl : l.stackTraces = false) (hE : LE p s m meth c g b L xs xb r ob lim) (hi : 4 * i9 + 3 < L) (hC : CLS g xb lim q n rm sl sv tx ln H) (hR : ModAt g r q zsp rm (nI n) sl sv tx (nI ln) zth zsg zbg zwd zhg zin zop zbe zwi zhi zbk zot zer zen zpo zpi zgr zsh zsn H) (hO : at_ g H ob (eL g 1 o)) (hTx : TxT tx ln) (hS : va_S (fun q9 => xb ≤ q9) s.heap H locs) (hl : lv_has ls 7 [(0, .ref b), (1, .ref xb), (2, .ref r), (3, .ref ob), (4, .int (nI (4 * i9)))]) (hce7 : ce7 + 30 ≤ 622861) (hsn7 : sn7 + 1100 ≤ 7227521) (f : Nat) (y : Int32) (z : Int32) (a1 : xs (4 * i9 + 1) = nI f) (a2 : xs (4 * i9 + 2) = y) (a3 : xs (4 * i9 + 3) = z) (hf : f < 3) (hx1 : isIx y 6 = false) (hz9 : ¬ z = 0) (kk : ∀ (H1 : Heap) (locs1 : List Loc) (ls1 : Array Slot), LI g xb r ob lim q n rm sl sv tx ln H1 → va_S (fun q9 => xb ≤ q9) s.heap H1 locs1 → lv_has ls1 7 [(0, .ref b), (1, .ref xb), (2, .ref r), (3, .ref ob), (4, .int (nI (4 * i9)))] → W p l e room_1 s m args below meth c H1 locs1 (ce7 + 30) (sn7 + 1100) Q (F0 m 1803 ls1 [])) : W p l e room_1 s m args below meth c H locs ce7 sn7 Q (F0 m 582 ls []) := by
  obtain ⟨hB, hZ9, hX, hbl, hL9, hxs, hr9, hob9, hlm9⟩ := hE
  have hx := hB.x
  have hb := hB.b
  have hbA : ¬ (fun q9 => xb ≤ q9) b := fun y9 => by have y8 : xb ≤ b := y9; omega
  have hW := hC.wf
  have hn14 := hC.n14
  have hl6c := hC.l60
  have hnm5 := hW.2.2.1
  refine lv_aload_n hx hb dL_law_582 rfl (lv_at hl 1 rfl) ?_
  refine lv_aload_n hx hb dL_law_583 rfl (lv_at hl 0 rfl) ?_
  refine lv_iload hx hb dL_law_584 (lv_at hl 4 rfl) ?_
  refine lv_iconst (v := nI 1) hx hb dL_law_586 (by decide) ?_
  refine mn_iadd hB dL_law_587 ?_
  refine va_sld hx hb hX hbl hbA hS (vp_in_nI (by omega) (by omega)) dL_law_588 ?_
  refine mh_top (y := .int (nI f)) (by rw [nI_clamp (by omega), a1]) ?_
  refine lv_aload_n hx hb dL_law_589 rfl (lv_at hl 0 rfl) ?_
  refine lv_iload hx hb dL_law_590 (lv_at hl 4 rfl) ?_
  refine lv_iconst (v := nI 2) hx hb dL_law_592 (by decide) ?_
  refine mn_iadd hB dL_law_593 ?_
  refine va_sld hx hb hX hbl hbA hS (vp_in_nI (by omega) (by omega)) dL_law_594 ?_
  refine mh_top (y := .int y) (by rw [nI_clamp (by omega), a2]) ?_
  refine lv_aload_n hx hb dL_law_595 rfl (lv_at hl 0 rfl) ?_
  refine lv_iload hx hb dL_law_596 (lv_at hl 4 rfl) ?_
  refine lv_iconst (v := nI 3) hx hb dL_law_598 (by decide) ?_
  refine mn_iadd hB dL_law_599 ?_
  refine va_sld hx hb hX hbl hbA hS (vp_in_nI (by omega) (by omega)) dL_law_600 ?_
  refine mh_top (y := .int z) (by rw [nI_clamp (by omega), a3]) ?_
  refine lv_if_eq (tgt := 608) hx hb dL_law_601 (by decide) (fun h => absurd h hz9) (fun h_601 => ?_)
  refine lv_iconst (v := nI 1) hx hb dL_law_604 (by decide) ?_
  refine lv_goto (tgt := 609) hx hb dL_law_605 (by decide) ?_
  refine lv_aload_n hx hb dL_law_609 rfl (lv_at hl 3 rfl) ?_
  refine cw_130 (As := [.ref xb, .int (nI f), .int y, .int (nI 1), .ref ob]) (rest := []) hB (hZ9.at hS (fun _ h9 => h9)) (w_count_t1b_0 l g H xb lim q n rm sl sv tx ln f y (nI 1) ob o (hC) (hO) (hf) (hx1) (⟨by omega, by omega⟩) (hfl)) rfl hl.1 (Nat.le_of_ble_eq_true rfl) dL_law_610 ⟨Nat.le_of_ble_eq_true rfl, Nat.le_of_ble_eq_true rfl⟩ ⟨by show (ce7) + 1 ≤ 622861; omega, by show (sn7) + 6 ≤ 7227521; omega⟩ hS (by have hz9 := hS.1; rintro q9 (h9 | h9) <;> first | exact h9.elim | (have h8 : r ≤ q9 ∧ q9 < r + 16 := h9; show xb ≤ q9; omega) | (have h8 : ((xb ≤ q9 ∧ q9 < xb + 68) ∨ lim ≤ q9) ∨ q9 = ob := h9; show xb ≤ q9; omega) | (have h8 : (xb ≤ q9 ∧ q9 < xb + 68) ∨ lim ≤ q9 := h9; show xb ≤ q9; omega) | (show xb ≤ q9; omega)) (fun v H1 locs hpo hfr hS => ?_)
  obtain ⟨rfl, hC, hO⟩ := hpo
  have hR := hR.keptF hfr (fun q9 h1 h2 y9 => by first | exact y9.elim | (have y8 : ((xb ≤ q9 ∧ q9 < xb + 68) ∨ lim ≤ q9) ∨ q9 = ob := y9; omega) | (have y8 : (xb ≤ q9 ∧ q9 < xb + 68) ∨ lim ≤ q9 := y9; omega))
  generalize H1 = H at hfr hS hR hX hC hO ⊢
  refine W.widen (k := ce7 + 1) (n := sn7 + 6) (by show (ce7) + 1 ≤ ce7 + 1; omega) (by show (sn7) + 6 ≤ sn7 + 6; omega) ?_
  refine lv_istore (lv' := [(5, .int (nI 1)), (0, .ref b), (1, .ref xb), (2, .ref r), (3, .ref ob), (4, .int (nI (4 * i9)))]) hx hb dL_law_613 hl (by decide) rfl (fun ls hl => ?_)
  refine lv_aload_n hx hb dL_law_615 rfl (lv_at hl 3 rfl) ?_
  refine lv_aload_n hx hb dL_law_616 rfl (lv_at hl 1 rfl) ?_
  refine lv_iload hx hb dL_law_617 (lv_at hl 5 rfl) ?_
  refine lv_iconst (v := nI 1) hx hb dL_law_619 (by decide) ?_
  refine mn_iadd hB dL_law_620 ?_
  refine va_sld hx hb hX hbl hbA hS (vp_in_nI (by omega) (by omega)) dL_law_621 ?_
  refine mh_top (y := .int (nI f)) (by rw [nI_clamp (by omega), a1]) ?_
  refine lv_aload_n hx hb dL_law_622 rfl (lv_at hl 1 rfl) ?_
  refine lv_iload hx hb dL_law_623 (lv_at hl 5 rfl) ?_
  refine lv_iconst (v := nI 2) hx hb dL_law_625 (by decide) ?_
  refine mn_iadd hB dL_law_626 ?_
  refine va_sld hx hb hX hbl hbA hS (vp_in_nI (by omega) (by omega)) dL_law_627 ?_
  refine mh_top (y := .int y) (by rw [nI_clamp (by omega), a2]) ?_
  refine lv_aload_n hx hb dL_law_628 rfl (lv_at hl 1 rfl) ?_
  refine lv_iload hx hb dL_law_629 (lv_at hl 5 rfl) ?_
  refine lv_iconst (v := nI 3) hx hb dL_law_631 (by decide) ?_
  refine mn_iadd hB dL_law_632 ?_
  refine va_sld hx hb hX hbl hbA hS (vp_in_nI (by omega) (by omega)) dL_law_633 ?_
  refine mh_top (y := .int z) (by rw [nI_clamp (by omega), a3]) ?_
  refine lv_if_eq (tgt := 641) hx hb dL_law_634 (by decide) (fun h => absurd h hz9) (fun h_634 => ?_)
  refine lv_iconst (v := nI 1) hx hb dL_law_637 (by decide) ?_
  refine mh_top (y := .int (bI true)) (rfl) ?_
  refine lv_goto (tgt := 642) hx hb dL_law_638 (by decide) ?_
  refine cl_L_133 (As := [.int (nI f), .int y, .int (bI true)]) (rest := []) hB (c_X11_count_t1 l g H r q zsp rm (nI n) sl sv tx (nI ln) zth zsg zbg zwd zhg zin zop zbe zwi zhi zbk zot zer zen zpo zpi zgr zsh zsn (nI f) y true hR (Or.inr hx1)) hR.o rfl hl.1 (Nat.le_of_ble_eq_true rfl) dL_law_642 ⟨Nat.le_of_ble_eq_true rfl, Nat.le_of_ble_eq_true rfl⟩ ⟨by show (ce7 + 1) + 0 ≤ 622861; omega, by show (sn7 + 6) + 0 ≤ 7227521; omega⟩ hS (by have hz9 := hS.1; rintro q9 (h9 | h9) <;> first | exact h9.elim | (have h8 : r ≤ q9 ∧ q9 < r + 16 := h9; show xb ≤ q9; omega) | (have h8 : ((xb ≤ q9 ∧ q9 < xb + 68) ∨ lim ≤ q9) ∨ q9 = ob := h9; show xb ≤ q9; omega) | (have h8 : (xb ≤ q9 ∧ q9 < xb + 68) ∨ lim ≤ q9 := h9; show xb ≤ q9; omega) | (show xb ≤ q9; omega)) (fun v H1 locs hpo hfr hS => ?_)
  obtain ⟨rfl, hR⟩ := hpo
  have hC := hC.keptM hfr (fun a9 y9 => by first | exact y9.elim | (have y8 : r ≤ a9 ∧ a9 < r + 16 := y9; omega))
  have hO := Fr.keep hfr hO (fun y9 => by first | exact y9.elim | (have y8 : r ≤ ob ∧ ob < r + 16 := y9; omega) | (have y8 : (xb ≤ ob ∧ ob < xb + 68) ∨ lim ≤ ob := y9; omega))
  generalize H1 = H at hfr hS hX hC hO hR ⊢
  refine W.widen (k := ce7 + 1) (n := sn7 + 6) (by show (ce7 + 1) + 0 ≤ ce7 + 1; omega) (by show (sn7 + 6) + 0 ≤ sn7 + 6; omega) ?_
  refine lv_istore (lv' := [(6, .int (nI 0)), (5, .int (nI 1)), (0, .ref b), (1, .ref xb), (2, .ref r), (3, .ref ob), (4, .int (nI (4 * i9)))]) hx hb dL_law_645 hl (by decide) rfl (fun ls hl => ?_)
  refine lv_aload_n hx hb dL_law_647 rfl (lv_at hl 4 rfl) ?_
  refine cl_L_102 (As := []) (rest := []) hB (c_X11_thrown l g H r q zsp rm (nI n) sl sv tx (nI ln) (nI 1) zsg zbg zwd zhg zin zop zbe zwi zhi zbk zot zer zen zpo zpi zgr zsh zsn hR) hR.o rfl hl.1 (Nat.le_of_ble_eq_true rfl) dL_law_648 ⟨Nat.le_of_ble_eq_true rfl, Nat.le_of_ble_eq_true rfl⟩ ⟨by show (ce7 + 1) + 0 ≤ 622861; omega, by show (sn7 + 6) + 0 ≤ 7227521; omega⟩ hS (by have hz9 := hS.1; rintro q9 (h9 | h9) <;> first | exact h9.elim | (have h8 : r ≤ q9 ∧ q9 < r + 16 := h9; show xb ≤ q9; omega) | (have h8 : ((xb ≤ q9 ∧ q9 < xb + 68) ∨ lim ≤ q9) ∨ q9 = ob := h9; show xb ≤ q9; omega) | (have h8 : (xb ≤ q9 ∧ q9 < xb + 68) ∨ lim ≤ q9 := h9; show xb ≤ q9; omega) | (show xb ≤ q9; omega)) (fun v H1 locs hpo hfr hS => ?_)
  obtain ⟨rfl, rfl⟩ := hpo
  refine W.widen (k := ce7 + 1) (n := sn7 + 6) (by show (ce7 + 1) + 0 ≤ ce7 + 1; omega) (by show (sn7 + 6) + 0 ≤ sn7 + 6; omega) ?_
  refine lv_iload hx hb dL_law_651 (lv_at hl 1 rfl) ?_
  refine lv_icmp_eq (tgt := 658) hx hb dL_law_653 (by decide) (fun h_653 => ?_) (fun h9 => absurd rfl h9)
  refine lv_iload hx hb dL_law_658 (lv_at hl 1 rfl) ?_
  refine mn_if_ne (tgt := 675) hB dL_law_660 (by decide) (by omega) (fun h_660 => ?_) (fun h => by exfalso; omega)
  refine lv_goto (tgt := 1803) hx hb dL_law_675 (by decide) ?_
  refine W.widen (k := ce7 + 30) (n := sn7 + 1100) (by omega) (by omega) ?_
  exact kk _ _ _ ⟨hC, ⟨_, _, _, _, _, _, _, _, _, _, _, _, _, _, _, _, _, _, _, _, hR⟩, ⟨_, hO⟩, hTx⟩ hS (lv_sub hl [2, 3, 4, 5, 6] rfl)

set_option maxRecDepth 100000 in
set_option maxHeartbeats 800000 in
theorem s_count_z1 {p : Program} {l : Launch} {e : Env} {s : State} {m : MethodId} {args : Array Value} {below : List Frame} {meth : Method} {c : Code} {H : Heap} {locs : List Loc} {ce7 sn7 : Nat} {Q : State → Prop} {g : GG} {b L xb r ob lim : Nat} {xs : Nat → Int32} {i9 : Nat} {ls : Array Slot} {q : Nat → Int32} {n : Nat} {rm sl sv tx : Nat → Int32} {ln : Nat} {zsp : Nat → Int32} {zth : Int32} {zsg : Nat → Int32} {zbg : Nat → Int32} {zwd : Nat → Int32} {zhg : Nat → Int32} {zin : Nat → Int32} {zop : Int32} {zbe : Int32} {zwi : Int32} {zhi : Int32} {zbk : Nat → Int32} {zot : Nat → Int32} {zer : Int32} {zen : Int32} {zpo : Nat → Int32} {zpi : Int32} {zgr : Int32} {zsh : Nat → Int32} {zsn : Int32} {o : Nat → Int64} (hfl : l.stackTraces = false) (hE : LE p s m meth c g b L xs xb r ob lim) (hi : 4 * i9 + 3 < L) (hC : CLS g xb lim q n rm sl sv tx ln H) (hR : ModAt g r q zsp rm (nI n) sl sv tx (nI ln) zth zsg zbg zwd zhg zin zop zbe zwi zhi zbk zot zer zen zpo zpi zgr zsh zsn H) (hO : at_ g H ob (eL g 1 o)) (hTx : TxT tx ln) (hS : va_S (fun q9 => xb ≤ q9) s.heap H locs) (hl : lv_has ls 7 [(0, .ref b), (1, .ref xb), (2, .ref r), (3, .ref ob), (4, .int (nI (4 * i9)))]) (hce7 : ce7 + 30 ≤ 622861) (hsn7 : sn7 + 1100 ≤ 7227521) (f : Nat) (c0 : Nat) (z : Int32) (a1 : xs (4 * i9 + 1) = nI f) (a2 : xs (4 * i9 + 2) = nI c0) (a3 : xs (4 * i9 + 3) = z) (hf : f < 3) (hc : c0 < 6) (hz9 : ¬ z = 0) (kk : ∀ (H1 : Heap) (locs1 : List Loc) (ls1 : Array Slot), LI g xb r ob lim q n rm sl sv tx ln H1 → va_S (fun q9 => xb ≤ q9) s.heap H1 locs1 → lv_has ls1 7 [(0, .ref b), (1, .ref xb), (2, .ref r), (3, .ref ob), (4, .int (nI (4 * i9)))] → W p l e room_1 s m args below meth c H1 locs1 (ce7 + 30) (sn7 + 1100) Q (F0 m 1803 ls1 [])) : W p l e room_1 s m args below meth c H locs ce7 sn7 Q (F0 m 582 ls []) := by
  obtain ⟨hB, hZ9, hX, hbl, hL9, hxs, hr9, hob9, hlm9⟩ := hE
  have hx := hB.x
  have hb := hB.b
  have hbA : ¬ (fun q9 => xb ≤ q9) b := fun y9 => by have y8 : xb ≤ b := y9; omega
  have hW := hC.wf
  have hn14 := hC.n14
  have hl6c := hC.l60
  have hnm5 := hW.2.2.1
  refine lv_aload_n hx hb dL_law_582 rfl (lv_at hl 1 rfl) ?_
  refine lv_aload_n hx hb dL_law_583 rfl (lv_at hl 0 rfl) ?_
  refine lv_iload hx hb dL_law_584 (lv_at hl 4 rfl) ?_
  refine lv_iconst (v := nI 1) hx hb dL_law_586 (by decide) ?_
  refine mn_iadd hB dL_law_587 ?_
  refine va_sld hx hb hX hbl hbA hS (vp_in_nI (by omega) (by omega)) dL_law_588 ?_
  refine mh_top (y := .int (nI f)) (by rw [nI_clamp (by omega), a1]) ?_
  refine lv_aload_n hx hb dL_law_589 rfl (lv_at hl 0 rfl) ?_
  refine lv_iload hx hb dL_law_590 (lv_at hl 4 rfl) ?_
  refine lv_iconst (v := nI 2) hx hb dL_law_592 (by decide) ?_
  refine mn_iadd hB dL_law_593 ?_
  refine va_sld hx hb hX hbl hbA hS (vp_in_nI (by omega) (by omega)) dL_law_594 ?_
  refine mh_top (y := .int (nI c0)) (by rw [nI_clamp (by omega), a2]) ?_
  refine lv_aload_n hx hb dL_law_595 rfl (lv_at hl 0 rfl) ?_
  refine lv_iload hx hb dL_law_596 (lv_at hl 4 rfl) ?_
  refine lv_iconst (v := nI 3) hx hb dL_law_598 (by decide) ?_
  refine mn_iadd hB dL_law_599 ?_
  refine va_sld hx hb hX hbl hbA hS (vp_in_nI (by omega) (by omega)) dL_law_600 ?_
  refine mh_top (y := .int z) (by rw [nI_clamp (by omega), a3]) ?_
  refine lv_if_eq (tgt := 608) hx hb dL_law_601 (by decide) (fun h => absurd h hz9) (fun h_601 => ?_)
  refine lv_iconst (v := nI 1) hx hb dL_law_604 (by decide) ?_
  refine lv_goto (tgt := 609) hx hb dL_law_605 (by decide) ?_
  refine lv_aload_n hx hb dL_law_609 rfl (lv_at hl 3 rfl) ?_
  refine cw_130 (As := [.ref xb, .int (nI f), .int (nI c0), .int (nI 1), .ref ob]) (rest := []) hB (hZ9.at hS (fun _ h9 => h9)) (w_count_z1 l g H xb lim q n rm sl sv tx ln f c0 ob o (hC) (hO) (hf) (hc) (⟨by omega, by omega⟩) (hfl)) rfl hl.1 (Nat.le_of_ble_eq_true rfl) dL_law_610 ⟨Nat.le_of_ble_eq_true rfl, Nat.le_of_ble_eq_true rfl⟩ ⟨by show (ce7) + 0 ≤ 622861; omega, by show (sn7) + 0 ≤ 7227521; omega⟩ hS (by have hz9 := hS.1; rintro q9 (h9 | h9) <;> first | exact h9.elim | (have h8 : r ≤ q9 ∧ q9 < r + 16 := h9; show xb ≤ q9; omega) | (have h8 : ((xb ≤ q9 ∧ q9 < xb + 68) ∨ lim ≤ q9) ∨ q9 = ob := h9; show xb ≤ q9; omega) | (have h8 : (xb ≤ q9 ∧ q9 < xb + 68) ∨ lim ≤ q9 := h9; show xb ≤ q9; omega) | (show xb ≤ q9; omega)) (fun v H1 locs hpo hfr hS => ?_)
  obtain ⟨rfl, hC, hO⟩ := hpo
  have hR := hR.keptF hfr (fun q9 h1 h2 y9 => by first | exact y9.elim | (have y8 : ((xb ≤ q9 ∧ q9 < xb + 68) ∨ lim ≤ q9) ∨ q9 = ob := y9; omega) | (have y8 : (xb ≤ q9 ∧ q9 < xb + 68) ∨ lim ≤ q9 := y9; omega))
  generalize H1 = H at hfr hS hR hX hC hO ⊢
  refine W.widen (k := ce7) (n := sn7) (by show (ce7) + 0 ≤ ce7; omega) (by show (sn7) + 0 ≤ sn7; omega) ?_
  refine lv_istore (lv' := [(5, .int (nI 0)), (0, .ref b), (1, .ref xb), (2, .ref r), (3, .ref ob), (4, .int (nI (4 * i9)))]) hx hb dL_law_613 hl (by decide) rfl (fun ls hl => ?_)
  refine lv_aload_n hx hb dL_law_615 rfl (lv_at hl 3 rfl) ?_
  refine lv_aload_n hx hb dL_law_616 rfl (lv_at hl 1 rfl) ?_
  refine lv_iload hx hb dL_law_617 (lv_at hl 5 rfl) ?_
  refine lv_iconst (v := nI 1) hx hb dL_law_619 (by decide) ?_
  refine mn_iadd hB dL_law_620 ?_
  refine va_sld hx hb hX hbl hbA hS (vp_in_nI (by omega) (by omega)) dL_law_621 ?_
  refine mh_top (y := .int (nI f)) (by rw [nI_clamp (by omega), a1]) ?_
  refine lv_aload_n hx hb dL_law_622 rfl (lv_at hl 1 rfl) ?_
  refine lv_iload hx hb dL_law_623 (lv_at hl 5 rfl) ?_
  refine lv_iconst (v := nI 2) hx hb dL_law_625 (by decide) ?_
  refine mn_iadd hB dL_law_626 ?_
  refine va_sld hx hb hX hbl hbA hS (vp_in_nI (by omega) (by omega)) dL_law_627 ?_
  refine mh_top (y := .int (nI c0)) (by rw [nI_clamp (by omega), a2]) ?_
  refine lv_aload_n hx hb dL_law_628 rfl (lv_at hl 1 rfl) ?_
  refine lv_iload hx hb dL_law_629 (lv_at hl 5 rfl) ?_
  refine lv_iconst (v := nI 3) hx hb dL_law_631 (by decide) ?_
  refine mn_iadd hB dL_law_632 ?_
  refine va_sld hx hb hX hbl hbA hS (vp_in_nI (by omega) (by omega)) dL_law_633 ?_
  refine mh_top (y := .int z) (by rw [nI_clamp (by omega), a3]) ?_
  refine lv_if_eq (tgt := 641) hx hb dL_law_634 (by decide) (fun h => absurd h hz9) (fun h_634 => ?_)
  refine lv_iconst (v := nI 1) hx hb dL_law_637 (by decide) ?_
  refine mh_top (y := .int (bI true)) (rfl) ?_
  refine lv_goto (tgt := 642) hx hb dL_law_638 (by decide) ?_
  refine cl_L_133 (As := [.int (nI f), .int (nI c0), .int (bI true)]) (rest := []) hB (c_X11_count l g H r q zsp rm (nI n) sl sv tx (nI ln) zth zsg zbg zwd zhg zin zop zbe zwi zhi zbk zot zer zen zpo zpi zgr zsh zsn f c0 true hR (by first | assumption | omega) (hf) (hc)) hR.o rfl hl.1 (Nat.le_of_ble_eq_true rfl) dL_law_642 ⟨Nat.le_of_ble_eq_true rfl, Nat.le_of_ble_eq_true rfl⟩ ⟨by show (ce7) + 0 ≤ 622861; omega, by show (sn7) + 0 ≤ 7227521; omega⟩ hS (by have hz9 := hS.1; rintro q9 (h9 | h9) <;> first | exact h9.elim | (have h8 : r ≤ q9 ∧ q9 < r + 16 := h9; show xb ≤ q9; omega) | (have h8 : ((xb ≤ q9 ∧ q9 < xb + 68) ∨ lim ≤ q9) ∨ q9 = ob := h9; show xb ≤ q9; omega) | (have h8 : (xb ≤ q9 ∧ q9 < xb + 68) ∨ lim ≤ q9 := h9; show xb ≤ q9; omega) | (show xb ≤ q9; omega)) (fun v H1 locs hpo hfr hS => ?_)
  obtain ⟨rfl, hR⟩ := hpo
  have hC := hC.keptM hfr (fun a9 y9 => by first | exact y9.elim | (have y8 : r ≤ a9 ∧ a9 < r + 16 := y9; omega))
  have hO := Fr.keep hfr hO (fun y9 => by first | exact y9.elim | (have y8 : r ≤ ob ∧ ob < r + 16 := y9; omega) | (have y8 : (xb ≤ ob ∧ ob < xb + 68) ∨ lim ≤ ob := y9; omega))
  generalize H1 = H at hfr hS hX hC hO hR ⊢
  refine W.widen (k := ce7) (n := sn7) (by show (ce7) + 0 ≤ ce7; omega) (by show (sn7) + 0 ≤ sn7; omega) ?_
  refine mh_top (y := .int (nI (cntC q f c0 0 (swF q f)))) (by rw [if_pos rfl]) ?_
  refine lv_istore (lv' := [(6, .int (nI (cntC q f c0 0 (swF q f)))), (5, .int (nI 0)), (0, .ref b), (1, .ref xb), (2, .ref r), (3, .ref ob), (4, .int (nI (4 * i9)))]) hx hb dL_law_645 hl (by decide) rfl (fun ls hl => ?_)
  refine lv_aload_n hx hb dL_law_647 rfl (lv_at hl 4 rfl) ?_
  refine cl_L_102 (As := []) (rest := []) hB (c_X11_thrown l g H r q zsp rm (nI n) sl sv tx (nI ln) (nI 0) zsg zbg zwd zhg zin zop zbe zwi zhi zbk zot zer zen zpo zpi zgr zsh zsn hR) hR.o rfl hl.1 (Nat.le_of_ble_eq_true rfl) dL_law_648 ⟨Nat.le_of_ble_eq_true rfl, Nat.le_of_ble_eq_true rfl⟩ ⟨by show (ce7) + 0 ≤ 622861; omega, by show (sn7) + 0 ≤ 7227521; omega⟩ hS (by have hz9 := hS.1; rintro q9 (h9 | h9) <;> first | exact h9.elim | (have h8 : r ≤ q9 ∧ q9 < r + 16 := h9; show xb ≤ q9; omega) | (have h8 : ((xb ≤ q9 ∧ q9 < xb + 68) ∨ lim ≤ q9) ∨ q9 = ob := h9; show xb ≤ q9; omega) | (have h8 : (xb ≤ q9 ∧ q9 < xb + 68) ∨ lim ≤ q9 := h9; show xb ≤ q9; omega) | (show xb ≤ q9; omega)) (fun v H1 locs hpo hfr hS => ?_)
  obtain ⟨rfl, rfl⟩ := hpo
  refine W.widen (k := ce7) (n := sn7) (by show (ce7) + 0 ≤ ce7; omega) (by show (sn7) + 0 ≤ sn7; omega) ?_
  refine lv_iload hx hb dL_law_651 (lv_at hl 1 rfl) ?_
  refine lv_icmp_eq (tgt := 658) hx hb dL_law_653 (by decide) (fun h_653 => ?_) (fun h9 => absurd rfl h9)
  refine lv_iload hx hb dL_law_658 (lv_at hl 1 rfl) ?_
  refine mn_if_ne (tgt := 675) hB dL_law_660 (by decide) (by omega) (fun h => by exfalso; omega) (fun h_660 => ?_)
  refine lv_aload_n hx hb dL_law_663 rfl (lv_at hl 5 rfl) ?_
  refine lv_iconst (v := nI 0) hx hb dL_law_664 (by decide) ?_
  refine mn_lald hB hO (by omega) (by omega) dL_law_665 ?_
  refine mh_top (y := .long ((nI (cntC q f c0 0 (swF q f))).toInt64)) (rfl) ?_
  refine lv_iload hx hb dL_law_666 (lv_at hl 0 rfl) ?_
  refine lv_i2l (v := (nI (cntC q f c0 0 (swF q f))).toInt64) hx hb dL_law_668 rfl ?_
  refine W.lcmp hx hb dL_law_669 ?_
  refine ml_if_eq (tgt := 675) hB dL_law_670 (by decide) (fun h_670 => ?_) (fun h => absurd rfl h)
  refine lv_goto (tgt := 1803) hx hb dL_law_675 (by decide) ?_
  refine W.widen (k := ce7 + 30) (n := sn7 + 1100) (by omega) (by omega) ?_
  exact kk _ _ _ ⟨hC, ⟨_, _, _, _, _, _, _, _, _, _, _, _, _, _, _, _, _, _, _, _, hR⟩, ⟨_, hO⟩, hTx⟩ hS (lv_sub hl [2, 3, 4, 5, 6] rfl)

set_option maxRecDepth 100000 in
set_option maxHeartbeats 800000 in
theorem s_same_t1 {p : Program} {l : Launch} {e : Env} {s : State} {m : MethodId} {args : Array Value} {below : List Frame} {meth : Method} {c : Code} {H : Heap} {locs : List Loc} {ce7 sn7 : Nat} {Q : State → Prop} {g : GG} {b L xb r ob lim : Nat} {xs : Nat → Int32} {i9 : Nat} {ls : Array Slot} {q : Nat → Int32} {n : Nat} {rm sl sv tx : Nat → Int32} {ln : Nat} {zsp : Nat → Int32} {zth : Int32} {zsg : Nat → Int32} {zbg : Nat → Int32} {zwd : Nat → Int32} {zhg : Nat → Int32} {zin : Nat → Int32} {zop : Int32} {zbe : Int32} {zwi : Int32} {zhi : Int32} {zbk : Nat → Int32} {zot : Nat → Int32} {zer : Int32} {zen : Int32} {zpo : Nat → Int32} {zpi : Int32} {zgr : Int32} {zsh : Nat → Int32} {zsn : Int32} {o : Nat → Int64} (hfl : l.stackTraces = false) (hE : LE p s m meth c g b L xs xb r ob lim) (hi : 4 * i9 + 3 < L) (hC : CLS g xb lim q n rm sl sv tx ln H) (hR : ModAt g r q zsp rm (nI n) sl sv tx (nI ln) zth zsg zbg zwd zhg zin zop zbe zwi zhi zbk zot zer zen zpo zpi zgr zsh zsn H) (hO : at_ g H ob (eL g 1 o)) (hTx : TxT tx ln) (hS : va_S (fun q9 => xb ≤ q9) s.heap H locs) (hl : lv_has ls 7 [(0, .ref b), (1, .ref xb), (2, .ref r), (3, .ref ob), (4, .int (nI (4 * i9)))]) (hce7 : ce7 + 30 ≤ 622861) (hsn7 : sn7 + 1100 ≤ 7227521) (x : Int32) (y : Int32) (a1 : xs (4 * i9 + 1) = x) (a2 : xs (4 * i9 + 2) = y) (hx1 : isIx x 3 = false) (kk : ∀ (H1 : Heap) (locs1 : List Loc) (ls1 : Array Slot), LI g xb r ob lim q n rm sl sv tx ln H1 → va_S (fun q9 => xb ≤ q9) s.heap H1 locs1 → lv_has ls1 7 [(0, .ref b), (1, .ref xb), (2, .ref r), (3, .ref ob), (4, .int (nI (4 * i9)))] → W p l e room_1 s m args below meth c H1 locs1 (ce7 + 30) (sn7 + 1100) Q (F0 m 1803 ls1 [])) : W p l e room_1 s m args below meth c H locs ce7 sn7 Q (F0 m 678 ls []) := by
  obtain ⟨hB, hZ9, hX, hbl, hL9, hxs, hr9, hob9, hlm9⟩ := hE
  have hx := hB.x
  have hb := hB.b
  have hbA : ¬ (fun q9 => xb ≤ q9) b := fun y9 => by have y8 : xb ≤ b := y9; omega
  have hW := hC.wf
  have hn14 := hC.n14
  have hl6c := hC.l60
  have hnm5 := hW.2.2.1
  refine lv_aload_n hx hb dL_law_678 rfl (lv_at hl 1 rfl) ?_
  refine lv_aload_n hx hb dL_law_679 rfl (lv_at hl 0 rfl) ?_
  refine lv_iload hx hb dL_law_680 (lv_at hl 4 rfl) ?_
  refine lv_iconst (v := nI 1) hx hb dL_law_682 (by decide) ?_
  refine mn_iadd hB dL_law_683 ?_
  refine va_sld hx hb hX hbl hbA hS (vp_in_nI (by omega) (by omega)) dL_law_684 ?_
  refine mh_top (y := .int x) (by rw [nI_clamp (by omega), a1]) ?_
  refine lv_aload_n hx hb dL_law_685 rfl (lv_at hl 0 rfl) ?_
  refine lv_iload hx hb dL_law_686 (lv_at hl 4 rfl) ?_
  refine lv_iconst (v := nI 2) hx hb dL_law_688 (by decide) ?_
  refine mn_iadd hB dL_law_689 ?_
  refine va_sld hx hb hX hbl hbA hS (vp_in_nI (by omega) (by omega)) dL_law_690 ?_
  refine mh_top (y := .int y) (by rw [nI_clamp (by omega), a2]) ?_
  refine lv_aload_n hx hb dL_law_691 rfl (lv_at hl 3 rfl) ?_
  refine cw_134 (As := [.ref xb, .int x, .int y, .ref ob]) (rest := []) hB (hZ9.at hS (fun _ h9 => h9)) (w_same_t1 l g H xb lim q n rm sl sv tx ln x y ob o (hC) (hO) (hx1) (⟨by omega, by omega⟩) (hfl)) rfl hl.1 (Nat.le_of_ble_eq_true rfl) dL_law_692 ⟨Nat.le_of_ble_eq_true rfl, Nat.le_of_ble_eq_true rfl⟩ ⟨by show (ce7) + 1 ≤ 622861; omega, by show (sn7) + 6 ≤ 7227521; omega⟩ hS (by have hz9 := hS.1; rintro q9 (h9 | h9) <;> first | exact h9.elim | (have h8 : r ≤ q9 ∧ q9 < r + 16 := h9; show xb ≤ q9; omega) | (have h8 : ((xb ≤ q9 ∧ q9 < xb + 68) ∨ lim ≤ q9) ∨ q9 = ob := h9; show xb ≤ q9; omega) | (have h8 : (xb ≤ q9 ∧ q9 < xb + 68) ∨ lim ≤ q9 := h9; show xb ≤ q9; omega) | (show xb ≤ q9; omega)) (fun v H1 locs hpo hfr hS => ?_)
  obtain ⟨rfl, hC, hO⟩ := hpo
  have hR := hR.keptF hfr (fun q9 h1 h2 y9 => by first | exact y9.elim | (have y8 : ((xb ≤ q9 ∧ q9 < xb + 68) ∨ lim ≤ q9) ∨ q9 = ob := y9; omega) | (have y8 : (xb ≤ q9 ∧ q9 < xb + 68) ∨ lim ≤ q9 := y9; omega))
  generalize H1 = H at hfr hS hR hX hC hO ⊢
  refine W.widen (k := ce7 + 1) (n := sn7 + 6) (by show (ce7) + 1 ≤ ce7 + 1; omega) (by show (sn7) + 6 ≤ sn7 + 6; omega) ?_
  refine lv_istore (lv' := [(5, .int (nI 1)), (0, .ref b), (1, .ref xb), (2, .ref r), (3, .ref ob), (4, .int (nI (4 * i9)))]) hx hb dL_law_695 hl (by decide) rfl (fun ls hl => ?_)
  refine lv_aload_n hx hb dL_law_697 rfl (lv_at hl 3 rfl) ?_
  refine lv_aload_n hx hb dL_law_698 rfl (lv_at hl 1 rfl) ?_
  refine lv_iload hx hb dL_law_699 (lv_at hl 5 rfl) ?_
  refine lv_iconst (v := nI 1) hx hb dL_law_701 (by decide) ?_
  refine mn_iadd hB dL_law_702 ?_
  refine va_sld hx hb hX hbl hbA hS (vp_in_nI (by omega) (by omega)) dL_law_703 ?_
  refine mh_top (y := .int x) (by rw [nI_clamp (by omega), a1]) ?_
  refine lv_aload_n hx hb dL_law_704 rfl (lv_at hl 1 rfl) ?_
  refine lv_iload hx hb dL_law_705 (lv_at hl 5 rfl) ?_
  refine lv_iconst (v := nI 2) hx hb dL_law_707 (by decide) ?_
  refine mn_iadd hB dL_law_708 ?_
  refine va_sld hx hb hX hbl hbA hS (vp_in_nI (by omega) (by omega)) dL_law_709 ?_
  refine mh_top (y := .int y) (by rw [nI_clamp (by omega), a2]) ?_
  refine cl_L_136 (As := [.int x, .int y]) (rest := []) hB (c_X11_same_t1 l g H r q zsp rm (nI n) sl sv tx (nI ln) zth zsg zbg zwd zhg zin zop zbe zwi zhi zbk zot zer zen zpo zpi zgr zsh zsn x y hR (hx1)) hR.o rfl hl.1 (Nat.le_of_ble_eq_true rfl) dL_law_710 ⟨Nat.le_of_ble_eq_true rfl, Nat.le_of_ble_eq_true rfl⟩ ⟨by show (ce7 + 1) + 0 ≤ 622861; omega, by show (sn7 + 6) + 0 ≤ 7227521; omega⟩ hS (by have hz9 := hS.1; rintro q9 (h9 | h9) <;> first | exact h9.elim | (have h8 : r ≤ q9 ∧ q9 < r + 16 := h9; show xb ≤ q9; omega) | (have h8 : ((xb ≤ q9 ∧ q9 < xb + 68) ∨ lim ≤ q9) ∨ q9 = ob := h9; show xb ≤ q9; omega) | (have h8 : (xb ≤ q9 ∧ q9 < xb + 68) ∨ lim ≤ q9 := h9; show xb ≤ q9; omega) | (show xb ≤ q9; omega)) (fun v H1 locs hpo hfr hS => ?_)
  obtain ⟨rfl, hR⟩ := hpo
  have hC := hC.keptM hfr (fun a9 y9 => by first | exact y9.elim | (have y8 : r ≤ a9 ∧ a9 < r + 16 := y9; omega))
  have hO := Fr.keep hfr hO (fun y9 => by first | exact y9.elim | (have y8 : r ≤ ob ∧ ob < r + 16 := y9; omega) | (have y8 : (xb ≤ ob ∧ ob < xb + 68) ∨ lim ≤ ob := y9; omega))
  generalize H1 = H at hfr hS hX hC hO hR ⊢
  refine W.widen (k := ce7 + 1) (n := sn7 + 6) (by show (ce7 + 1) + 0 ≤ ce7 + 1; omega) (by show (sn7 + 6) + 0 ≤ sn7 + 6; omega) ?_
  refine lv_istore (lv' := [(6, .int (bI false)), (5, .int (nI 1)), (0, .ref b), (1, .ref xb), (2, .ref r), (3, .ref ob), (4, .int (nI (4 * i9)))]) hx hb dL_law_713 hl (by decide) rfl (fun ls hl => ?_)
  refine lv_aload_n hx hb dL_law_715 rfl (lv_at hl 4 rfl) ?_
  refine cl_L_102 (As := []) (rest := []) hB (c_X11_thrown l g H r q zsp rm (nI n) sl sv tx (nI ln) (nI 1) zsg zbg zwd zhg zin zop zbe zwi zhi zbk zot zer zen zpo zpi zgr zsh zsn hR) hR.o rfl hl.1 (Nat.le_of_ble_eq_true rfl) dL_law_716 ⟨Nat.le_of_ble_eq_true rfl, Nat.le_of_ble_eq_true rfl⟩ ⟨by show (ce7 + 1) + 0 ≤ 622861; omega, by show (sn7 + 6) + 0 ≤ 7227521; omega⟩ hS (by have hz9 := hS.1; rintro q9 (h9 | h9) <;> first | exact h9.elim | (have h8 : r ≤ q9 ∧ q9 < r + 16 := h9; show xb ≤ q9; omega) | (have h8 : ((xb ≤ q9 ∧ q9 < xb + 68) ∨ lim ≤ q9) ∨ q9 = ob := h9; show xb ≤ q9; omega) | (have h8 : (xb ≤ q9 ∧ q9 < xb + 68) ∨ lim ≤ q9 := h9; show xb ≤ q9; omega) | (show xb ≤ q9; omega)) (fun v H1 locs hpo hfr hS => ?_)
  obtain ⟨rfl, rfl⟩ := hpo
  refine W.widen (k := ce7 + 1) (n := sn7 + 6) (by show (ce7 + 1) + 0 ≤ ce7 + 1; omega) (by show (sn7 + 6) + 0 ≤ sn7 + 6; omega) ?_
  refine lv_iload hx hb dL_law_719 (lv_at hl 1 rfl) ?_
  refine lv_icmp_eq (tgt := 726) hx hb dL_law_721 (by decide) (fun h_721 => ?_) (fun h9 => absurd rfl h9)
  refine lv_iload hx hb dL_law_726 (lv_at hl 1 rfl) ?_
  refine mn_if_ne (tgt := 750) hB dL_law_728 (by decide) (by omega) (fun h_728 => ?_) (fun h => by exfalso; omega)
  refine lv_goto (tgt := 1803) hx hb dL_law_750 (by decide) ?_
  refine W.widen (k := ce7 + 30) (n := sn7 + 1100) (by omega) (by omega) ?_
  exact kk _ _ _ ⟨hC, ⟨_, _, _, _, _, _, _, _, _, _, _, _, _, _, _, _, _, _, _, _, hR⟩, ⟨_, hO⟩, hTx⟩ hS (lv_sub hl [2, 3, 4, 5, 6] rfl)

set_option maxRecDepth 100000 in
set_option maxHeartbeats 800000 in
theorem s_same_t2 {p : Program} {l : Launch} {e : Env} {s : State} {m : MethodId} {args : Array Value} {below : List Frame} {meth : Method} {c : Code} {H : Heap} {locs : List Loc} {ce7 sn7 : Nat} {Q : State → Prop} {g : GG} {b L xb r ob lim : Nat} {xs : Nat → Int32} {i9 : Nat} {ls : Array Slot} {q : Nat → Int32} {n : Nat} {rm sl sv tx : Nat → Int32} {ln : Nat} {zsp : Nat → Int32} {zth : Int32} {zsg : Nat → Int32} {zbg : Nat → Int32} {zwd : Nat → Int32} {zhg : Nat → Int32} {zin : Nat → Int32} {zop : Int32} {zbe : Int32} {zwi : Int32} {zhi : Int32} {zbk : Nat → Int32} {zot : Nat → Int32} {zer : Int32} {zen : Int32} {zpo : Nat → Int32} {zpi : Int32} {zgr : Int32} {zsh : Nat → Int32} {zsn : Int32} {o : Nat → Int64} (hfl : l.stackTraces = false) (hE : LE p s m meth c g b L xs xb r ob lim) (hi : 4 * i9 + 3 < L) (hC : CLS g xb lim q n rm sl sv tx ln H) (hR : ModAt g r q zsp rm (nI n) sl sv tx (nI ln) zth zsg zbg zwd zhg zin zop zbe zwi zhi zbk zot zer zen zpo zpi zgr zsh zsn H) (hO : at_ g H ob (eL g 1 o)) (hTx : TxT tx ln) (hS : va_S (fun q9 => xb ≤ q9) s.heap H locs) (hl : lv_has ls 7 [(0, .ref b), (1, .ref xb), (2, .ref r), (3, .ref ob), (4, .int (nI (4 * i9)))]) (hce7 : ce7 + 30 ≤ 622861) (hsn7 : sn7 + 1100 ≤ 7227521) (f : Nat) (y : Int32) (a1 : xs (4 * i9 + 1) = nI f) (a2 : xs (4 * i9 + 2) = y) (hf : f < 3) (hx1 : isIx y 3 = false) (kk : ∀ (H1 : Heap) (locs1 : List Loc) (ls1 : Array Slot), LI g xb r ob lim q n rm sl sv tx ln H1 → va_S (fun q9 => xb ≤ q9) s.heap H1 locs1 → lv_has ls1 7 [(0, .ref b), (1, .ref xb), (2, .ref r), (3, .ref ob), (4, .int (nI (4 * i9)))] → W p l e room_1 s m args below meth c H1 locs1 (ce7 + 30) (sn7 + 1100) Q (F0 m 1803 ls1 [])) : W p l e room_1 s m args below meth c H locs ce7 sn7 Q (F0 m 678 ls []) := by
  obtain ⟨hB, hZ9, hX, hbl, hL9, hxs, hr9, hob9, hlm9⟩ := hE
  have hx := hB.x
  have hb := hB.b
  have hbA : ¬ (fun q9 => xb ≤ q9) b := fun y9 => by have y8 : xb ≤ b := y9; omega
  have hW := hC.wf
  have hn14 := hC.n14
  have hl6c := hC.l60
  have hnm5 := hW.2.2.1
  refine lv_aload_n hx hb dL_law_678 rfl (lv_at hl 1 rfl) ?_
  refine lv_aload_n hx hb dL_law_679 rfl (lv_at hl 0 rfl) ?_
  refine lv_iload hx hb dL_law_680 (lv_at hl 4 rfl) ?_
  refine lv_iconst (v := nI 1) hx hb dL_law_682 (by decide) ?_
  refine mn_iadd hB dL_law_683 ?_
  refine va_sld hx hb hX hbl hbA hS (vp_in_nI (by omega) (by omega)) dL_law_684 ?_
  refine mh_top (y := .int (nI f)) (by rw [nI_clamp (by omega), a1]) ?_
  refine lv_aload_n hx hb dL_law_685 rfl (lv_at hl 0 rfl) ?_
  refine lv_iload hx hb dL_law_686 (lv_at hl 4 rfl) ?_
  refine lv_iconst (v := nI 2) hx hb dL_law_688 (by decide) ?_
  refine mn_iadd hB dL_law_689 ?_
  refine va_sld hx hb hX hbl hbA hS (vp_in_nI (by omega) (by omega)) dL_law_690 ?_
  refine mh_top (y := .int y) (by rw [nI_clamp (by omega), a2]) ?_
  refine lv_aload_n hx hb dL_law_691 rfl (lv_at hl 3 rfl) ?_
  refine cw_134 (As := [.ref xb, .int (nI f), .int y, .ref ob]) (rest := []) hB (hZ9.at hS (fun _ h9 => h9)) (w_same_t2 l g H xb lim q n rm sl sv tx ln f y ob o (hC) (hO) (hf) (hx1) (⟨by omega, by omega⟩) (hfl)) rfl hl.1 (Nat.le_of_ble_eq_true rfl) dL_law_692 ⟨Nat.le_of_ble_eq_true rfl, Nat.le_of_ble_eq_true rfl⟩ ⟨by show (ce7) + 1 ≤ 622861; omega, by show (sn7) + 6 ≤ 7227521; omega⟩ hS (by have hz9 := hS.1; rintro q9 (h9 | h9) <;> first | exact h9.elim | (have h8 : r ≤ q9 ∧ q9 < r + 16 := h9; show xb ≤ q9; omega) | (have h8 : ((xb ≤ q9 ∧ q9 < xb + 68) ∨ lim ≤ q9) ∨ q9 = ob := h9; show xb ≤ q9; omega) | (have h8 : (xb ≤ q9 ∧ q9 < xb + 68) ∨ lim ≤ q9 := h9; show xb ≤ q9; omega) | (show xb ≤ q9; omega)) (fun v H1 locs hpo hfr hS => ?_)
  obtain ⟨rfl, hC, hO⟩ := hpo
  have hR := hR.keptF hfr (fun q9 h1 h2 y9 => by first | exact y9.elim | (have y8 : ((xb ≤ q9 ∧ q9 < xb + 68) ∨ lim ≤ q9) ∨ q9 = ob := y9; omega) | (have y8 : (xb ≤ q9 ∧ q9 < xb + 68) ∨ lim ≤ q9 := y9; omega))
  generalize H1 = H at hfr hS hR hX hC hO ⊢
  refine W.widen (k := ce7 + 1) (n := sn7 + 6) (by show (ce7) + 1 ≤ ce7 + 1; omega) (by show (sn7) + 6 ≤ sn7 + 6; omega) ?_
  refine lv_istore (lv' := [(5, .int (nI 2)), (0, .ref b), (1, .ref xb), (2, .ref r), (3, .ref ob), (4, .int (nI (4 * i9)))]) hx hb dL_law_695 hl (by decide) rfl (fun ls hl => ?_)
  refine lv_aload_n hx hb dL_law_697 rfl (lv_at hl 3 rfl) ?_
  refine lv_aload_n hx hb dL_law_698 rfl (lv_at hl 1 rfl) ?_
  refine lv_iload hx hb dL_law_699 (lv_at hl 5 rfl) ?_
  refine lv_iconst (v := nI 1) hx hb dL_law_701 (by decide) ?_
  refine mn_iadd hB dL_law_702 ?_
  refine va_sld hx hb hX hbl hbA hS (vp_in_nI (by omega) (by omega)) dL_law_703 ?_
  refine mh_top (y := .int (nI f)) (by rw [nI_clamp (by omega), a1]) ?_
  refine lv_aload_n hx hb dL_law_704 rfl (lv_at hl 1 rfl) ?_
  refine lv_iload hx hb dL_law_705 (lv_at hl 5 rfl) ?_
  refine lv_iconst (v := nI 2) hx hb dL_law_707 (by decide) ?_
  refine mn_iadd hB dL_law_708 ?_
  refine va_sld hx hb hX hbl hbA hS (vp_in_nI (by omega) (by omega)) dL_law_709 ?_
  refine mh_top (y := .int y) (by rw [nI_clamp (by omega), a2]) ?_
  refine cl_L_136 (As := [.int (nI f), .int y]) (rest := []) hB (c_X11_same_t2 l g H r q zsp rm (nI n) sl sv tx (nI ln) zth zsg zbg zwd zhg zin zop zbe zwi zhi zbk zot zer zen zpo zpi zgr zsh zsn f y hR (hf) (hx1)) hR.o rfl hl.1 (Nat.le_of_ble_eq_true rfl) dL_law_710 ⟨Nat.le_of_ble_eq_true rfl, Nat.le_of_ble_eq_true rfl⟩ ⟨by show (ce7 + 1) + 0 ≤ 622861; omega, by show (sn7 + 6) + 0 ≤ 7227521; omega⟩ hS (by have hz9 := hS.1; rintro q9 (h9 | h9) <;> first | exact h9.elim | (have h8 : r ≤ q9 ∧ q9 < r + 16 := h9; show xb ≤ q9; omega) | (have h8 : ((xb ≤ q9 ∧ q9 < xb + 68) ∨ lim ≤ q9) ∨ q9 = ob := h9; show xb ≤ q9; omega) | (have h8 : (xb ≤ q9 ∧ q9 < xb + 68) ∨ lim ≤ q9 := h9; show xb ≤ q9; omega) | (show xb ≤ q9; omega)) (fun v H1 locs hpo hfr hS => ?_)
  obtain ⟨rfl, hR⟩ := hpo
  have hC := hC.keptM hfr (fun a9 y9 => by first | exact y9.elim | (have y8 : r ≤ a9 ∧ a9 < r + 16 := y9; omega))
  have hO := Fr.keep hfr hO (fun y9 => by first | exact y9.elim | (have y8 : r ≤ ob ∧ ob < r + 16 := y9; omega) | (have y8 : (xb ≤ ob ∧ ob < xb + 68) ∨ lim ≤ ob := y9; omega))
  generalize H1 = H at hfr hS hX hC hO hR ⊢
  refine W.widen (k := ce7 + 1) (n := sn7 + 6) (by show (ce7 + 1) + 0 ≤ ce7 + 1; omega) (by show (sn7 + 6) + 0 ≤ sn7 + 6; omega) ?_
  refine lv_istore (lv' := [(6, .int (bI false)), (5, .int (nI 2)), (0, .ref b), (1, .ref xb), (2, .ref r), (3, .ref ob), (4, .int (nI (4 * i9)))]) hx hb dL_law_713 hl (by decide) rfl (fun ls hl => ?_)
  refine lv_aload_n hx hb dL_law_715 rfl (lv_at hl 4 rfl) ?_
  refine cl_L_102 (As := []) (rest := []) hB (c_X11_thrown l g H r q zsp rm (nI n) sl sv tx (nI ln) (nI 2) zsg zbg zwd zhg zin zop zbe zwi zhi zbk zot zer zen zpo zpi zgr zsh zsn hR) hR.o rfl hl.1 (Nat.le_of_ble_eq_true rfl) dL_law_716 ⟨Nat.le_of_ble_eq_true rfl, Nat.le_of_ble_eq_true rfl⟩ ⟨by show (ce7 + 1) + 0 ≤ 622861; omega, by show (sn7 + 6) + 0 ≤ 7227521; omega⟩ hS (by have hz9 := hS.1; rintro q9 (h9 | h9) <;> first | exact h9.elim | (have h8 : r ≤ q9 ∧ q9 < r + 16 := h9; show xb ≤ q9; omega) | (have h8 : ((xb ≤ q9 ∧ q9 < xb + 68) ∨ lim ≤ q9) ∨ q9 = ob := h9; show xb ≤ q9; omega) | (have h8 : (xb ≤ q9 ∧ q9 < xb + 68) ∨ lim ≤ q9 := h9; show xb ≤ q9; omega) | (show xb ≤ q9; omega)) (fun v H1 locs hpo hfr hS => ?_)
  obtain ⟨rfl, rfl⟩ := hpo
  refine W.widen (k := ce7 + 1) (n := sn7 + 6) (by show (ce7 + 1) + 0 ≤ ce7 + 1; omega) (by show (sn7 + 6) + 0 ≤ sn7 + 6; omega) ?_
  refine lv_iload hx hb dL_law_719 (lv_at hl 1 rfl) ?_
  refine lv_icmp_eq (tgt := 726) hx hb dL_law_721 (by decide) (fun h_721 => ?_) (fun h9 => absurd rfl h9)
  refine lv_iload hx hb dL_law_726 (lv_at hl 1 rfl) ?_
  refine mn_if_ne (tgt := 750) hB dL_law_728 (by decide) (by omega) (fun h_728 => ?_) (fun h => by exfalso; omega)
  refine lv_goto (tgt := 1803) hx hb dL_law_750 (by decide) ?_
  refine W.widen (k := ce7 + 30) (n := sn7 + 1100) (by omega) (by omega) ?_
  exact kk _ _ _ ⟨hC, ⟨_, _, _, _, _, _, _, _, _, _, _, _, _, _, _, _, _, _, _, _, hR⟩, ⟨_, hO⟩, hTx⟩ hS (lv_sub hl [2, 3, 4, 5, 6] rfl)

set_option maxRecDepth 100000 in
set_option maxHeartbeats 800000 in
theorem s_same_w0 {p : Program} {l : Launch} {e : Env} {s : State} {m : MethodId} {args : Array Value} {below : List Frame} {meth : Method} {c : Code} {H : Heap} {locs : List Loc} {ce7 sn7 : Nat} {Q : State → Prop} {g : GG} {b L xb r ob lim : Nat} {xs : Nat → Int32} {i9 : Nat} {ls : Array Slot} {q : Nat → Int32} {n : Nat} {rm sl sv tx : Nat → Int32} {ln : Nat} {zsp : Nat → Int32} {zth : Int32} {zsg : Nat → Int32} {zbg : Nat → Int32} {zwd : Nat → Int32} {zhg : Nat → Int32} {zin : Nat → Int32} {zop : Int32} {zbe : Int32} {zwi : Int32} {zhi : Int32} {zbk : Nat → Int32} {zot : Nat → Int32} {zer : Int32} {zen : Int32} {zpo : Nat → Int32} {zpi : Int32} {zgr : Int32} {zsh : Nat → Int32} {zsn : Int32} {o : Nat → Int64} (hfl : l.stackTraces = false) (hE : LE p s m meth c g b L xs xb r ob lim) (hi : 4 * i9 + 3 < L) (hC : CLS g xb lim q n rm sl sv tx ln H) (hR : ModAt g r q zsp rm (nI n) sl sv tx (nI ln) zth zsg zbg zwd zhg zin zop zbe zwi zhi zbk zot zer zen zpo zpi zgr zsh zsn H) (hO : at_ g H ob (eL g 1 o)) (hTx : TxT tx ln) (hS : va_S (fun q9 => xb ≤ q9) s.heap H locs) (hl : lv_has ls 7 [(0, .ref b), (1, .ref xb), (2, .ref r), (3, .ref ob), (4, .int (nI (4 * i9)))]) (hce7 : ce7 + 30 ≤ 622861) (hsn7 : sn7 + 1100 ≤ 7227521) (f : Nat) (a1 : xs (4 * i9 + 1) = nI f) (a2 : xs (4 * i9 + 2) = nI 0) (hf : f < 3) (hs0 : 0 < szF q f) (kk : ∀ (H1 : Heap) (locs1 : List Loc) (ls1 : Array Slot), LI g xb r ob lim q n rm sl sv tx ln H1 → va_S (fun q9 => xb ≤ q9) s.heap H1 locs1 → lv_has ls1 7 [(0, .ref b), (1, .ref xb), (2, .ref r), (3, .ref ob), (4, .int (nI (4 * i9)))] → W p l e room_1 s m args below meth c H1 locs1 (ce7 + 30) (sn7 + 1100) Q (F0 m 1803 ls1 [])) : W p l e room_1 s m args below meth c H locs ce7 sn7 Q (F0 m 678 ls []) := by
  obtain ⟨hB, hZ9, hX, hbl, hL9, hxs, hr9, hob9, hlm9⟩ := hE
  have hx := hB.x
  have hb := hB.b
  have hbA : ¬ (fun q9 => xb ≤ q9) b := fun y9 => by have y8 : xb ≤ b := y9; omega
  have hW := hC.wf
  have hn14 := hC.n14
  have hl6c := hC.l60
  have hnm5 := hW.2.2.1
  refine lv_aload_n hx hb dL_law_678 rfl (lv_at hl 1 rfl) ?_
  refine lv_aload_n hx hb dL_law_679 rfl (lv_at hl 0 rfl) ?_
  refine lv_iload hx hb dL_law_680 (lv_at hl 4 rfl) ?_
  refine lv_iconst (v := nI 1) hx hb dL_law_682 (by decide) ?_
  refine mn_iadd hB dL_law_683 ?_
  refine va_sld hx hb hX hbl hbA hS (vp_in_nI (by omega) (by omega)) dL_law_684 ?_
  refine mh_top (y := .int (nI f)) (by rw [nI_clamp (by omega), a1]) ?_
  refine lv_aload_n hx hb dL_law_685 rfl (lv_at hl 0 rfl) ?_
  refine lv_iload hx hb dL_law_686 (lv_at hl 4 rfl) ?_
  refine lv_iconst (v := nI 2) hx hb dL_law_688 (by decide) ?_
  refine mn_iadd hB dL_law_689 ?_
  refine va_sld hx hb hX hbl hbA hS (vp_in_nI (by omega) (by omega)) dL_law_690 ?_
  refine mh_top (y := .int (nI 0)) (by rw [nI_clamp (by omega), a2]) ?_
  refine lv_aload_n hx hb dL_law_691 rfl (lv_at hl 3 rfl) ?_
  refine cw_134 (As := [.ref xb, .int (nI f), .int (nI 0), .ref ob]) (rest := []) hB (hZ9.at hS (fun _ h9 => h9)) (w_same_w0 l g H xb lim q n rm sl sv tx ln f ob o (hC) (hO) (hf) (hs0) (⟨by omega, by omega⟩) (hfl)) rfl hl.1 (Nat.le_of_ble_eq_true rfl) dL_law_692 ⟨Nat.le_of_ble_eq_true rfl, Nat.le_of_ble_eq_true rfl⟩ ⟨by show (ce7) + 0 ≤ 622861; omega, by show (sn7) + 0 ≤ 7227521; omega⟩ hS (by have hz9 := hS.1; rintro q9 (h9 | h9) <;> first | exact h9.elim | (have h8 : r ≤ q9 ∧ q9 < r + 16 := h9; show xb ≤ q9; omega) | (have h8 : ((xb ≤ q9 ∧ q9 < xb + 68) ∨ lim ≤ q9) ∨ q9 = ob := h9; show xb ≤ q9; omega) | (have h8 : (xb ≤ q9 ∧ q9 < xb + 68) ∨ lim ≤ q9 := h9; show xb ≤ q9; omega) | (show xb ≤ q9; omega)) (fun v H1 locs hpo hfr hS => ?_)
  obtain ⟨rfl, hC, hO⟩ := hpo
  have hR := hR.keptF hfr (fun q9 h1 h2 y9 => by first | exact y9.elim | (have y8 : ((xb ≤ q9 ∧ q9 < xb + 68) ∨ lim ≤ q9) ∨ q9 = ob := y9; omega) | (have y8 : (xb ≤ q9 ∧ q9 < xb + 68) ∨ lim ≤ q9 := y9; omega))
  generalize H1 = H at hfr hS hR hX hC hO ⊢
  refine W.widen (k := ce7) (n := sn7) (by show (ce7) + 0 ≤ ce7; omega) (by show (sn7) + 0 ≤ sn7; omega) ?_
  refine lv_istore (lv' := [(5, .int (nI 0)), (0, .ref b), (1, .ref xb), (2, .ref r), (3, .ref ob), (4, .int (nI (4 * i9)))]) hx hb dL_law_695 hl (by decide) rfl (fun ls hl => ?_)
  refine lv_aload_n hx hb dL_law_697 rfl (lv_at hl 3 rfl) ?_
  refine lv_aload_n hx hb dL_law_698 rfl (lv_at hl 1 rfl) ?_
  refine lv_iload hx hb dL_law_699 (lv_at hl 5 rfl) ?_
  refine lv_iconst (v := nI 1) hx hb dL_law_701 (by decide) ?_
  refine mn_iadd hB dL_law_702 ?_
  refine va_sld hx hb hX hbl hbA hS (vp_in_nI (by omega) (by omega)) dL_law_703 ?_
  refine mh_top (y := .int (nI f)) (by rw [nI_clamp (by omega), a1]) ?_
  refine lv_aload_n hx hb dL_law_704 rfl (lv_at hl 1 rfl) ?_
  refine lv_iload hx hb dL_law_705 (lv_at hl 5 rfl) ?_
  refine lv_iconst (v := nI 2) hx hb dL_law_707 (by decide) ?_
  refine mn_iadd hB dL_law_708 ?_
  refine va_sld hx hb hX hbl hbA hS (vp_in_nI (by omega) (by omega)) dL_law_709 ?_
  refine mh_top (y := .int (nI 0)) (by rw [nI_clamp (by omega), a2]) ?_
  refine cl_L_136 (As := [.int (nI f), .int (nI 0)]) (rest := []) hB (c_X11_same l g H r q zsp rm (nI n) sl sv tx (nI ln) zth zsg zbg zwd zhg zin zop zbe zwi zhi zbk zot zer zen zpo zpi zgr zsh zsn f 0 hR (by first | assumption | omega) (hf) (by omega) (hs0)) hR.o rfl hl.1 (Nat.le_of_ble_eq_true rfl) dL_law_710 ⟨Nat.le_of_ble_eq_true rfl, Nat.le_of_ble_eq_true rfl⟩ ⟨by show (ce7) + 0 ≤ 622861; omega, by show (sn7) + 0 ≤ 7227521; omega⟩ hS (by have hz9 := hS.1; rintro q9 (h9 | h9) <;> first | exact h9.elim | (have h8 : r ≤ q9 ∧ q9 < r + 16 := h9; show xb ≤ q9; omega) | (have h8 : ((xb ≤ q9 ∧ q9 < xb + 68) ∨ lim ≤ q9) ∨ q9 = ob := h9; show xb ≤ q9; omega) | (have h8 : (xb ≤ q9 ∧ q9 < xb + 68) ∨ lim ≤ q9 := h9; show xb ≤ q9; omega) | (show xb ≤ q9; omega)) (fun v H1 locs hpo hfr hS => ?_)
  obtain ⟨rfl, wi2_1, hi2_2, bk2_3, ot2_4, hR⟩ := hpo
  have hC := hC.keptM hfr (fun a9 y9 => by first | exact y9.elim | (have y8 : r ≤ a9 ∧ a9 < r + 16 := y9; omega))
  have hO := Fr.keep hfr hO (fun y9 => by first | exact y9.elim | (have y8 : r ≤ ob ∧ ob < r + 16 := y9; omega) | (have y8 : (xb ≤ ob ∧ ob < xb + 68) ∨ lim ≤ ob := y9; omega))
  generalize H1 = H at hfr hS hX hC hO hR ⊢
  refine W.widen (k := ce7) (n := sn7) (by show (ce7) + 0 ≤ ce7; omega) (by show (sn7) + 0 ≤ sn7; omega) ?_
  refine lv_istore (lv' := [(6, .int (bI (samB q f 0))), (5, .int (nI 0)), (0, .ref b), (1, .ref xb), (2, .ref r), (3, .ref ob), (4, .int (nI (4 * i9)))]) hx hb dL_law_713 hl (by decide) rfl (fun ls hl => ?_)
  refine lv_aload_n hx hb dL_law_715 rfl (lv_at hl 4 rfl) ?_
  refine cl_L_102 (As := []) (rest := []) hB (c_X11_thrown l g H r q zsp rm (nI n) sl sv tx (nI ln) (nI 0) zsg zbg zwd zhg zin zop zbe wi2_1 hi2_2 bk2_3 ot2_4 zer zen zpo zpi zgr zsh zsn hR) hR.o rfl hl.1 (Nat.le_of_ble_eq_true rfl) dL_law_716 ⟨Nat.le_of_ble_eq_true rfl, Nat.le_of_ble_eq_true rfl⟩ ⟨by show (ce7) + 0 ≤ 622861; omega, by show (sn7) + 0 ≤ 7227521; omega⟩ hS (by have hz9 := hS.1; rintro q9 (h9 | h9) <;> first | exact h9.elim | (have h8 : r ≤ q9 ∧ q9 < r + 16 := h9; show xb ≤ q9; omega) | (have h8 : ((xb ≤ q9 ∧ q9 < xb + 68) ∨ lim ≤ q9) ∨ q9 = ob := h9; show xb ≤ q9; omega) | (have h8 : (xb ≤ q9 ∧ q9 < xb + 68) ∨ lim ≤ q9 := h9; show xb ≤ q9; omega) | (show xb ≤ q9; omega)) (fun v H1 locs hpo hfr hS => ?_)
  obtain ⟨rfl, rfl⟩ := hpo
  refine W.widen (k := ce7) (n := sn7) (by show (ce7) + 0 ≤ ce7; omega) (by show (sn7) + 0 ≤ sn7; omega) ?_
  refine lv_iload hx hb dL_law_719 (lv_at hl 1 rfl) ?_
  refine lv_icmp_eq (tgt := 726) hx hb dL_law_721 (by decide) (fun h_721 => ?_) (fun h9 => absurd rfl h9)
  refine lv_iload hx hb dL_law_726 (lv_at hl 1 rfl) ?_
  refine mn_if_ne (tgt := 750) hB dL_law_728 (by decide) (by omega) (fun h => by exfalso; omega) (fun h_728 => ?_)
  refine lv_aload_n hx hb dL_law_731 rfl (lv_at hl 5 rfl) ?_
  refine lv_iconst (v := nI 0) hx hb dL_law_732 (by decide) ?_
  refine mn_lald hB hO (by omega) (by omega) dL_law_733 ?_
  refine mh_top (y := .long (b64 (samB q f 0))) (rfl) ?_
  refine lv_iload hx hb dL_law_734 (lv_at hl 0 rfl) ?_
  refine mb_if_eq (tgt := 743) hB dL_law_736 (by decide) (fun h_736 => ?_) (fun h_736 => ?_)
  · skip
    refine lv_lconst (v := 0) hx hb dL_law_743 (by decide) ?_
    refine mh_top (y := .long (b64 (samB q f 0))) (by rw [show b64 (samB q f 0) = 0 from by rw [h_736]; rfl]) ?_
    refine W.lcmp hx hb dL_law_744 ?_
    refine ml_if_eq (tgt := 750) hB dL_law_745 (by decide) (fun h_745 => ?_) (fun h => absurd rfl h)
    refine lv_goto (tgt := 1803) hx hb dL_law_750 (by decide) ?_
    refine W.widen (k := ce7 + 30) (n := sn7 + 1100) (by omega) (by omega) ?_
    exact kk _ _ _ ⟨hC, ⟨_, _, _, _, _, _, _, _, _, _, _, _, _, _, _, _, _, _, _, _, hR⟩, ⟨_, hO⟩, hTx⟩ hS (lv_sub hl [2, 3, 4, 5, 6] rfl)
  · skip
    refine lv_lconst (v := 1) hx hb dL_law_739 (by decide) ?_
    refine mh_top (y := .long (b64 (samB q f 0))) (by rw [show b64 (samB q f 0) = 1 from by rw [h_736]; rfl]) ?_
    refine lv_goto (tgt := 744) hx hb dL_law_740 (by decide) ?_
    refine W.lcmp hx hb dL_law_744 ?_
    refine ml_if_eq (tgt := 750) hB dL_law_745 (by decide) (fun h_745 => ?_) (fun h => absurd rfl h)
    refine lv_goto (tgt := 1803) hx hb dL_law_750 (by decide) ?_
    refine W.widen (k := ce7 + 30) (n := sn7 + 1100) (by omega) (by omega) ?_
    exact kk _ _ _ ⟨hC, ⟨_, _, _, _, _, _, _, _, _, _, _, _, _, _, _, _, _, _, _, _, hR⟩, ⟨_, hO⟩, hTx⟩ hS (lv_sub hl [2, 3, 4, 5, 6] rfl)

set_option maxRecDepth 100000 in
set_option maxHeartbeats 800000 in
theorem s_same_w1 {p : Program} {l : Launch} {e : Env} {s : State} {m : MethodId} {args : Array Value} {below : List Frame} {meth : Method} {c : Code} {H : Heap} {locs : List Loc} {ce7 sn7 : Nat} {Q : State → Prop} {g : GG} {b L xb r ob lim : Nat} {xs : Nat → Int32} {i9 : Nat} {ls : Array Slot} {q : Nat → Int32} {n : Nat} {rm sl sv tx : Nat → Int32} {ln : Nat} {zsp : Nat → Int32} {zth : Int32} {zsg : Nat → Int32} {zbg : Nat → Int32} {zwd : Nat → Int32} {zhg : Nat → Int32} {zin : Nat → Int32} {zop : Int32} {zbe : Int32} {zwi : Int32} {zhi : Int32} {zbk : Nat → Int32} {zot : Nat → Int32} {zer : Int32} {zen : Int32} {zpo : Nat → Int32} {zpi : Int32} {zgr : Int32} {zsh : Nat → Int32} {zsn : Int32} {o : Nat → Int64} (hfl : l.stackTraces = false) (hE : LE p s m meth c g b L xs xb r ob lim) (hi : 4 * i9 + 3 < L) (hC : CLS g xb lim q n rm sl sv tx ln H) (hR : ModAt g r q zsp rm (nI n) sl sv tx (nI ln) zth zsg zbg zwd zhg zin zop zbe zwi zhi zbk zot zer zen zpo zpi zgr zsh zsn H) (hO : at_ g H ob (eL g 1 o)) (hTx : TxT tx ln) (hS : va_S (fun q9 => xb ≤ q9) s.heap H locs) (hl : lv_has ls 7 [(0, .ref b), (1, .ref xb), (2, .ref r), (3, .ref ob), (4, .int (nI (4 * i9)))]) (hce7 : ce7 + 30 ≤ 622861) (hsn7 : sn7 + 1100 ≤ 7227521) (f : Nat) (a1 : xs (4 * i9 + 1) = nI f) (a2 : xs (4 * i9 + 2) = nI 1) (hf : f < 3) (hs0 : 0 < szF q f) (kk : ∀ (H1 : Heap) (locs1 : List Loc) (ls1 : Array Slot), LI g xb r ob lim q n rm sl sv tx ln H1 → va_S (fun q9 => xb ≤ q9) s.heap H1 locs1 → lv_has ls1 7 [(0, .ref b), (1, .ref xb), (2, .ref r), (3, .ref ob), (4, .int (nI (4 * i9)))] → W p l e room_1 s m args below meth c H1 locs1 (ce7 + 30) (sn7 + 1100) Q (F0 m 1803 ls1 [])) : W p l e room_1 s m args below meth c H locs ce7 sn7 Q (F0 m 678 ls []) := by
  obtain ⟨hB, hZ9, hX, hbl, hL9, hxs, hr9, hob9, hlm9⟩ := hE
  have hx := hB.x
  have hb := hB.b
  have hbA : ¬ (fun q9 => xb ≤ q9) b := fun y9 => by have y8 : xb ≤ b := y9; omega
  have hW := hC.wf
  have hn14 := hC.n14
  have hl6c := hC.l60
  have hnm5 := hW.2.2.1
  refine lv_aload_n hx hb dL_law_678 rfl (lv_at hl 1 rfl) ?_
  refine lv_aload_n hx hb dL_law_679 rfl (lv_at hl 0 rfl) ?_
  refine lv_iload hx hb dL_law_680 (lv_at hl 4 rfl) ?_
  refine lv_iconst (v := nI 1) hx hb dL_law_682 (by decide) ?_
  refine mn_iadd hB dL_law_683 ?_
  refine va_sld hx hb hX hbl hbA hS (vp_in_nI (by omega) (by omega)) dL_law_684 ?_
  refine mh_top (y := .int (nI f)) (by rw [nI_clamp (by omega), a1]) ?_
  refine lv_aload_n hx hb dL_law_685 rfl (lv_at hl 0 rfl) ?_
  refine lv_iload hx hb dL_law_686 (lv_at hl 4 rfl) ?_
  refine lv_iconst (v := nI 2) hx hb dL_law_688 (by decide) ?_
  refine mn_iadd hB dL_law_689 ?_
  refine va_sld hx hb hX hbl hbA hS (vp_in_nI (by omega) (by omega)) dL_law_690 ?_
  refine mh_top (y := .int (nI 1)) (by rw [nI_clamp (by omega), a2]) ?_
  refine lv_aload_n hx hb dL_law_691 rfl (lv_at hl 3 rfl) ?_
  refine cw_134 (As := [.ref xb, .int (nI f), .int (nI 1), .ref ob]) (rest := []) hB (hZ9.at hS (fun _ h9 => h9)) (w_same_w1 l g H xb lim q n rm sl sv tx ln f ob o (hC) (hO) (hf) (hs0) (⟨by omega, by omega⟩) (hfl)) rfl hl.1 (Nat.le_of_ble_eq_true rfl) dL_law_692 ⟨Nat.le_of_ble_eq_true rfl, Nat.le_of_ble_eq_true rfl⟩ ⟨by show (ce7) + 0 ≤ 622861; omega, by show (sn7) + 0 ≤ 7227521; omega⟩ hS (by have hz9 := hS.1; rintro q9 (h9 | h9) <;> first | exact h9.elim | (have h8 : r ≤ q9 ∧ q9 < r + 16 := h9; show xb ≤ q9; omega) | (have h8 : ((xb ≤ q9 ∧ q9 < xb + 68) ∨ lim ≤ q9) ∨ q9 = ob := h9; show xb ≤ q9; omega) | (have h8 : (xb ≤ q9 ∧ q9 < xb + 68) ∨ lim ≤ q9 := h9; show xb ≤ q9; omega) | (show xb ≤ q9; omega)) (fun v H1 locs hpo hfr hS => ?_)
  obtain ⟨rfl, hC, hO⟩ := hpo
  have hR := hR.keptF hfr (fun q9 h1 h2 y9 => by first | exact y9.elim | (have y8 : ((xb ≤ q9 ∧ q9 < xb + 68) ∨ lim ≤ q9) ∨ q9 = ob := y9; omega) | (have y8 : (xb ≤ q9 ∧ q9 < xb + 68) ∨ lim ≤ q9 := y9; omega))
  generalize H1 = H at hfr hS hR hX hC hO ⊢
  refine W.widen (k := ce7) (n := sn7) (by show (ce7) + 0 ≤ ce7; omega) (by show (sn7) + 0 ≤ sn7; omega) ?_
  refine lv_istore (lv' := [(5, .int (nI 0)), (0, .ref b), (1, .ref xb), (2, .ref r), (3, .ref ob), (4, .int (nI (4 * i9)))]) hx hb dL_law_695 hl (by decide) rfl (fun ls hl => ?_)
  refine lv_aload_n hx hb dL_law_697 rfl (lv_at hl 3 rfl) ?_
  refine lv_aload_n hx hb dL_law_698 rfl (lv_at hl 1 rfl) ?_
  refine lv_iload hx hb dL_law_699 (lv_at hl 5 rfl) ?_
  refine lv_iconst (v := nI 1) hx hb dL_law_701 (by decide) ?_
  refine mn_iadd hB dL_law_702 ?_
  refine va_sld hx hb hX hbl hbA hS (vp_in_nI (by omega) (by omega)) dL_law_703 ?_
  refine mh_top (y := .int (nI f)) (by rw [nI_clamp (by omega), a1]) ?_
  refine lv_aload_n hx hb dL_law_704 rfl (lv_at hl 1 rfl) ?_
  refine lv_iload hx hb dL_law_705 (lv_at hl 5 rfl) ?_
  refine lv_iconst (v := nI 2) hx hb dL_law_707 (by decide) ?_
  refine mn_iadd hB dL_law_708 ?_
  refine va_sld hx hb hX hbl hbA hS (vp_in_nI (by omega) (by omega)) dL_law_709 ?_
  refine mh_top (y := .int (nI 1)) (by rw [nI_clamp (by omega), a2]) ?_
  refine cl_L_136 (As := [.int (nI f), .int (nI 1)]) (rest := []) hB (c_X11_same l g H r q zsp rm (nI n) sl sv tx (nI ln) zth zsg zbg zwd zhg zin zop zbe zwi zhi zbk zot zer zen zpo zpi zgr zsh zsn f 1 hR (by first | assumption | omega) (hf) (by omega) (hs0)) hR.o rfl hl.1 (Nat.le_of_ble_eq_true rfl) dL_law_710 ⟨Nat.le_of_ble_eq_true rfl, Nat.le_of_ble_eq_true rfl⟩ ⟨by show (ce7) + 0 ≤ 622861; omega, by show (sn7) + 0 ≤ 7227521; omega⟩ hS (by have hz9 := hS.1; rintro q9 (h9 | h9) <;> first | exact h9.elim | (have h8 : r ≤ q9 ∧ q9 < r + 16 := h9; show xb ≤ q9; omega) | (have h8 : ((xb ≤ q9 ∧ q9 < xb + 68) ∨ lim ≤ q9) ∨ q9 = ob := h9; show xb ≤ q9; omega) | (have h8 : (xb ≤ q9 ∧ q9 < xb + 68) ∨ lim ≤ q9 := h9; show xb ≤ q9; omega) | (show xb ≤ q9; omega)) (fun v H1 locs hpo hfr hS => ?_)
  obtain ⟨rfl, wi2_1, hi2_2, bk2_3, ot2_4, hR⟩ := hpo
  have hC := hC.keptM hfr (fun a9 y9 => by first | exact y9.elim | (have y8 : r ≤ a9 ∧ a9 < r + 16 := y9; omega))
  have hO := Fr.keep hfr hO (fun y9 => by first | exact y9.elim | (have y8 : r ≤ ob ∧ ob < r + 16 := y9; omega) | (have y8 : (xb ≤ ob ∧ ob < xb + 68) ∨ lim ≤ ob := y9; omega))
  generalize H1 = H at hfr hS hX hC hO hR ⊢
  refine W.widen (k := ce7) (n := sn7) (by show (ce7) + 0 ≤ ce7; omega) (by show (sn7) + 0 ≤ sn7; omega) ?_
  refine lv_istore (lv' := [(6, .int (bI (samB q f 1))), (5, .int (nI 0)), (0, .ref b), (1, .ref xb), (2, .ref r), (3, .ref ob), (4, .int (nI (4 * i9)))]) hx hb dL_law_713 hl (by decide) rfl (fun ls hl => ?_)
  refine lv_aload_n hx hb dL_law_715 rfl (lv_at hl 4 rfl) ?_
  refine cl_L_102 (As := []) (rest := []) hB (c_X11_thrown l g H r q zsp rm (nI n) sl sv tx (nI ln) (nI 0) zsg zbg zwd zhg zin zop zbe wi2_1 hi2_2 bk2_3 ot2_4 zer zen zpo zpi zgr zsh zsn hR) hR.o rfl hl.1 (Nat.le_of_ble_eq_true rfl) dL_law_716 ⟨Nat.le_of_ble_eq_true rfl, Nat.le_of_ble_eq_true rfl⟩ ⟨by show (ce7) + 0 ≤ 622861; omega, by show (sn7) + 0 ≤ 7227521; omega⟩ hS (by have hz9 := hS.1; rintro q9 (h9 | h9) <;> first | exact h9.elim | (have h8 : r ≤ q9 ∧ q9 < r + 16 := h9; show xb ≤ q9; omega) | (have h8 : ((xb ≤ q9 ∧ q9 < xb + 68) ∨ lim ≤ q9) ∨ q9 = ob := h9; show xb ≤ q9; omega) | (have h8 : (xb ≤ q9 ∧ q9 < xb + 68) ∨ lim ≤ q9 := h9; show xb ≤ q9; omega) | (show xb ≤ q9; omega)) (fun v H1 locs hpo hfr hS => ?_)
  obtain ⟨rfl, rfl⟩ := hpo
  refine W.widen (k := ce7) (n := sn7) (by show (ce7) + 0 ≤ ce7; omega) (by show (sn7) + 0 ≤ sn7; omega) ?_
  refine lv_iload hx hb dL_law_719 (lv_at hl 1 rfl) ?_
  refine lv_icmp_eq (tgt := 726) hx hb dL_law_721 (by decide) (fun h_721 => ?_) (fun h9 => absurd rfl h9)
  refine lv_iload hx hb dL_law_726 (lv_at hl 1 rfl) ?_
  refine mn_if_ne (tgt := 750) hB dL_law_728 (by decide) (by omega) (fun h => by exfalso; omega) (fun h_728 => ?_)
  refine lv_aload_n hx hb dL_law_731 rfl (lv_at hl 5 rfl) ?_
  refine lv_iconst (v := nI 0) hx hb dL_law_732 (by decide) ?_
  refine mn_lald hB hO (by omega) (by omega) dL_law_733 ?_
  refine mh_top (y := .long (b64 (samB q f 1))) (rfl) ?_
  refine lv_iload hx hb dL_law_734 (lv_at hl 0 rfl) ?_
  refine mb_if_eq (tgt := 743) hB dL_law_736 (by decide) (fun h_736 => ?_) (fun h_736 => ?_)
  · skip
    refine lv_lconst (v := 0) hx hb dL_law_743 (by decide) ?_
    refine mh_top (y := .long (b64 (samB q f 1))) (by rw [show b64 (samB q f 1) = 0 from by rw [h_736]; rfl]) ?_
    refine W.lcmp hx hb dL_law_744 ?_
    refine ml_if_eq (tgt := 750) hB dL_law_745 (by decide) (fun h_745 => ?_) (fun h => absurd rfl h)
    refine lv_goto (tgt := 1803) hx hb dL_law_750 (by decide) ?_
    refine W.widen (k := ce7 + 30) (n := sn7 + 1100) (by omega) (by omega) ?_
    exact kk _ _ _ ⟨hC, ⟨_, _, _, _, _, _, _, _, _, _, _, _, _, _, _, _, _, _, _, _, hR⟩, ⟨_, hO⟩, hTx⟩ hS (lv_sub hl [2, 3, 4, 5, 6] rfl)
  · skip
    refine lv_lconst (v := 1) hx hb dL_law_739 (by decide) ?_
    refine mh_top (y := .long (b64 (samB q f 1))) (by rw [show b64 (samB q f 1) = 1 from by rw [h_736]; rfl]) ?_
    refine lv_goto (tgt := 744) hx hb dL_law_740 (by decide) ?_
    refine W.lcmp hx hb dL_law_744 ?_
    refine ml_if_eq (tgt := 750) hB dL_law_745 (by decide) (fun h_745 => ?_) (fun h => absurd rfl h)
    refine lv_goto (tgt := 1803) hx hb dL_law_750 (by decide) ?_
    refine W.widen (k := ce7 + 30) (n := sn7 + 1100) (by omega) (by omega) ?_
    exact kk _ _ _ ⟨hC, ⟨_, _, _, _, _, _, _, _, _, _, _, _, _, _, _, _, _, _, _, _, hR⟩, ⟨_, hO⟩, hTx⟩ hS (lv_sub hl [2, 3, 4, 5, 6] rfl)

set_option maxRecDepth 100000 in
set_option maxHeartbeats 800000 in
theorem s_same_w2 {p : Program} {l : Launch} {e : Env} {s : State} {m : MethodId} {args : Array Value} {below : List Frame} {meth : Method} {c : Code} {H : Heap} {locs : List Loc} {ce7 sn7 : Nat} {Q : State → Prop} {g : GG} {b L xb r ob lim : Nat} {xs : Nat → Int32} {i9 : Nat} {ls : Array Slot} {q : Nat → Int32} {n : Nat} {rm sl sv tx : Nat → Int32} {ln : Nat} {zsp : Nat → Int32} {zth : Int32} {zsg : Nat → Int32} {zbg : Nat → Int32} {zwd : Nat → Int32} {zhg : Nat → Int32} {zin : Nat → Int32} {zop : Int32} {zbe : Int32} {zwi : Int32} {zhi : Int32} {zbk : Nat → Int32} {zot : Nat → Int32} {zer : Int32} {zen : Int32} {zpo : Nat → Int32} {zpi : Int32} {zgr : Int32} {zsh : Nat → Int32} {zsn : Int32} {o : Nat → Int64} (hfl : l.stackTraces = false) (hE : LE p s m meth c g b L xs xb r ob lim) (hi : 4 * i9 + 3 < L) (hC : CLS g xb lim q n rm sl sv tx ln H) (hR : ModAt g r q zsp rm (nI n) sl sv tx (nI ln) zth zsg zbg zwd zhg zin zop zbe zwi zhi zbk zot zer zen zpo zpi zgr zsh zsn H) (hO : at_ g H ob (eL g 1 o)) (hTx : TxT tx ln) (hS : va_S (fun q9 => xb ≤ q9) s.heap H locs) (hl : lv_has ls 7 [(0, .ref b), (1, .ref xb), (2, .ref r), (3, .ref ob), (4, .int (nI (4 * i9)))]) (hce7 : ce7 + 30 ≤ 622861) (hsn7 : sn7 + 1100 ≤ 7227521) (f : Nat) (a1 : xs (4 * i9 + 1) = nI f) (a2 : xs (4 * i9 + 2) = nI 2) (hf : f < 3) (hs0 : 0 < szF q f) (kk : ∀ (H1 : Heap) (locs1 : List Loc) (ls1 : Array Slot), LI g xb r ob lim q n rm sl sv tx ln H1 → va_S (fun q9 => xb ≤ q9) s.heap H1 locs1 → lv_has ls1 7 [(0, .ref b), (1, .ref xb), (2, .ref r), (3, .ref ob), (4, .int (nI (4 * i9)))] → W p l e room_1 s m args below meth c H1 locs1 (ce7 + 30) (sn7 + 1100) Q (F0 m 1803 ls1 [])) : W p l e room_1 s m args below meth c H locs ce7 sn7 Q (F0 m 678 ls []) := by
  obtain ⟨hB, hZ9, hX, hbl, hL9, hxs, hr9, hob9, hlm9⟩ := hE
  have hx := hB.x
  have hb := hB.b
  have hbA : ¬ (fun q9 => xb ≤ q9) b := fun y9 => by have y8 : xb ≤ b := y9; omega
  have hW := hC.wf
  have hn14 := hC.n14
  have hl6c := hC.l60
  have hnm5 := hW.2.2.1
  refine lv_aload_n hx hb dL_law_678 rfl (lv_at hl 1 rfl) ?_
  refine lv_aload_n hx hb dL_law_679 rfl (lv_at hl 0 rfl) ?_
  refine lv_iload hx hb dL_law_680 (lv_at hl 4 rfl) ?_
  refine lv_iconst (v := nI 1) hx hb dL_law_682 (by decide) ?_
  refine mn_iadd hB dL_law_683 ?_
  refine va_sld hx hb hX hbl hbA hS (vp_in_nI (by omega) (by omega)) dL_law_684 ?_
  refine mh_top (y := .int (nI f)) (by rw [nI_clamp (by omega), a1]) ?_
  refine lv_aload_n hx hb dL_law_685 rfl (lv_at hl 0 rfl) ?_
  refine lv_iload hx hb dL_law_686 (lv_at hl 4 rfl) ?_
  refine lv_iconst (v := nI 2) hx hb dL_law_688 (by decide) ?_
  refine mn_iadd hB dL_law_689 ?_
  refine va_sld hx hb hX hbl hbA hS (vp_in_nI (by omega) (by omega)) dL_law_690 ?_
  refine mh_top (y := .int (nI 2)) (by rw [nI_clamp (by omega), a2]) ?_
  refine lv_aload_n hx hb dL_law_691 rfl (lv_at hl 3 rfl) ?_
  refine cw_134 (As := [.ref xb, .int (nI f), .int (nI 2), .ref ob]) (rest := []) hB (hZ9.at hS (fun _ h9 => h9)) (w_same_w2 l g H xb lim q n rm sl sv tx ln f ob o (hC) (hO) (hf) (hs0) (⟨by omega, by omega⟩) (hfl)) rfl hl.1 (Nat.le_of_ble_eq_true rfl) dL_law_692 ⟨Nat.le_of_ble_eq_true rfl, Nat.le_of_ble_eq_true rfl⟩ ⟨by show (ce7) + 0 ≤ 622861; omega, by show (sn7) + 0 ≤ 7227521; omega⟩ hS (by have hz9 := hS.1; rintro q9 (h9 | h9) <;> first | exact h9.elim | (have h8 : r ≤ q9 ∧ q9 < r + 16 := h9; show xb ≤ q9; omega) | (have h8 : ((xb ≤ q9 ∧ q9 < xb + 68) ∨ lim ≤ q9) ∨ q9 = ob := h9; show xb ≤ q9; omega) | (have h8 : (xb ≤ q9 ∧ q9 < xb + 68) ∨ lim ≤ q9 := h9; show xb ≤ q9; omega) | (show xb ≤ q9; omega)) (fun v H1 locs hpo hfr hS => ?_)
  obtain ⟨rfl, hC, hO⟩ := hpo
  have hR := hR.keptF hfr (fun q9 h1 h2 y9 => by first | exact y9.elim | (have y8 : ((xb ≤ q9 ∧ q9 < xb + 68) ∨ lim ≤ q9) ∨ q9 = ob := y9; omega) | (have y8 : (xb ≤ q9 ∧ q9 < xb + 68) ∨ lim ≤ q9 := y9; omega))
  generalize H1 = H at hfr hS hR hX hC hO ⊢
  refine W.widen (k := ce7) (n := sn7) (by show (ce7) + 0 ≤ ce7; omega) (by show (sn7) + 0 ≤ sn7; omega) ?_
  refine lv_istore (lv' := [(5, .int (nI 0)), (0, .ref b), (1, .ref xb), (2, .ref r), (3, .ref ob), (4, .int (nI (4 * i9)))]) hx hb dL_law_695 hl (by decide) rfl (fun ls hl => ?_)
  refine lv_aload_n hx hb dL_law_697 rfl (lv_at hl 3 rfl) ?_
  refine lv_aload_n hx hb dL_law_698 rfl (lv_at hl 1 rfl) ?_
  refine lv_iload hx hb dL_law_699 (lv_at hl 5 rfl) ?_
  refine lv_iconst (v := nI 1) hx hb dL_law_701 (by decide) ?_
  refine mn_iadd hB dL_law_702 ?_
  refine va_sld hx hb hX hbl hbA hS (vp_in_nI (by omega) (by omega)) dL_law_703 ?_
  refine mh_top (y := .int (nI f)) (by rw [nI_clamp (by omega), a1]) ?_
  refine lv_aload_n hx hb dL_law_704 rfl (lv_at hl 1 rfl) ?_
  refine lv_iload hx hb dL_law_705 (lv_at hl 5 rfl) ?_
  refine lv_iconst (v := nI 2) hx hb dL_law_707 (by decide) ?_
  refine mn_iadd hB dL_law_708 ?_
  refine va_sld hx hb hX hbl hbA hS (vp_in_nI (by omega) (by omega)) dL_law_709 ?_
  refine mh_top (y := .int (nI 2)) (by rw [nI_clamp (by omega), a2]) ?_
  refine cl_L_136 (As := [.int (nI f), .int (nI 2)]) (rest := []) hB (c_X11_same l g H r q zsp rm (nI n) sl sv tx (nI ln) zth zsg zbg zwd zhg zin zop zbe zwi zhi zbk zot zer zen zpo zpi zgr zsh zsn f 2 hR (by first | assumption | omega) (hf) (by omega) (hs0)) hR.o rfl hl.1 (Nat.le_of_ble_eq_true rfl) dL_law_710 ⟨Nat.le_of_ble_eq_true rfl, Nat.le_of_ble_eq_true rfl⟩ ⟨by show (ce7) + 0 ≤ 622861; omega, by show (sn7) + 0 ≤ 7227521; omega⟩ hS (by have hz9 := hS.1; rintro q9 (h9 | h9) <;> first | exact h9.elim | (have h8 : r ≤ q9 ∧ q9 < r + 16 := h9; show xb ≤ q9; omega) | (have h8 : ((xb ≤ q9 ∧ q9 < xb + 68) ∨ lim ≤ q9) ∨ q9 = ob := h9; show xb ≤ q9; omega) | (have h8 : (xb ≤ q9 ∧ q9 < xb + 68) ∨ lim ≤ q9 := h9; show xb ≤ q9; omega) | (show xb ≤ q9; omega)) (fun v H1 locs hpo hfr hS => ?_)
  obtain ⟨rfl, wi2_1, hi2_2, bk2_3, ot2_4, hR⟩ := hpo
  have hC := hC.keptM hfr (fun a9 y9 => by first | exact y9.elim | (have y8 : r ≤ a9 ∧ a9 < r + 16 := y9; omega))
  have hO := Fr.keep hfr hO (fun y9 => by first | exact y9.elim | (have y8 : r ≤ ob ∧ ob < r + 16 := y9; omega) | (have y8 : (xb ≤ ob ∧ ob < xb + 68) ∨ lim ≤ ob := y9; omega))
  generalize H1 = H at hfr hS hX hC hO hR ⊢
  refine W.widen (k := ce7) (n := sn7) (by show (ce7) + 0 ≤ ce7; omega) (by show (sn7) + 0 ≤ sn7; omega) ?_
  refine lv_istore (lv' := [(6, .int (bI (samB q f 2))), (5, .int (nI 0)), (0, .ref b), (1, .ref xb), (2, .ref r), (3, .ref ob), (4, .int (nI (4 * i9)))]) hx hb dL_law_713 hl (by decide) rfl (fun ls hl => ?_)
  refine lv_aload_n hx hb dL_law_715 rfl (lv_at hl 4 rfl) ?_
  refine cl_L_102 (As := []) (rest := []) hB (c_X11_thrown l g H r q zsp rm (nI n) sl sv tx (nI ln) (nI 0) zsg zbg zwd zhg zin zop zbe wi2_1 hi2_2 bk2_3 ot2_4 zer zen zpo zpi zgr zsh zsn hR) hR.o rfl hl.1 (Nat.le_of_ble_eq_true rfl) dL_law_716 ⟨Nat.le_of_ble_eq_true rfl, Nat.le_of_ble_eq_true rfl⟩ ⟨by show (ce7) + 0 ≤ 622861; omega, by show (sn7) + 0 ≤ 7227521; omega⟩ hS (by have hz9 := hS.1; rintro q9 (h9 | h9) <;> first | exact h9.elim | (have h8 : r ≤ q9 ∧ q9 < r + 16 := h9; show xb ≤ q9; omega) | (have h8 : ((xb ≤ q9 ∧ q9 < xb + 68) ∨ lim ≤ q9) ∨ q9 = ob := h9; show xb ≤ q9; omega) | (have h8 : (xb ≤ q9 ∧ q9 < xb + 68) ∨ lim ≤ q9 := h9; show xb ≤ q9; omega) | (show xb ≤ q9; omega)) (fun v H1 locs hpo hfr hS => ?_)
  obtain ⟨rfl, rfl⟩ := hpo
  refine W.widen (k := ce7) (n := sn7) (by show (ce7) + 0 ≤ ce7; omega) (by show (sn7) + 0 ≤ sn7; omega) ?_
  refine lv_iload hx hb dL_law_719 (lv_at hl 1 rfl) ?_
  refine lv_icmp_eq (tgt := 726) hx hb dL_law_721 (by decide) (fun h_721 => ?_) (fun h9 => absurd rfl h9)
  refine lv_iload hx hb dL_law_726 (lv_at hl 1 rfl) ?_
  refine mn_if_ne (tgt := 750) hB dL_law_728 (by decide) (by omega) (fun h => by exfalso; omega) (fun h_728 => ?_)
  refine lv_aload_n hx hb dL_law_731 rfl (lv_at hl 5 rfl) ?_
  refine lv_iconst (v := nI 0) hx hb dL_law_732 (by decide) ?_
  refine mn_lald hB hO (by omega) (by omega) dL_law_733 ?_
  refine mh_top (y := .long (b64 (samB q f 2))) (rfl) ?_
  refine lv_iload hx hb dL_law_734 (lv_at hl 0 rfl) ?_
  refine mb_if_eq (tgt := 743) hB dL_law_736 (by decide) (fun h_736 => ?_) (fun h_736 => ?_)
  · skip
    refine lv_lconst (v := 0) hx hb dL_law_743 (by decide) ?_
    refine mh_top (y := .long (b64 (samB q f 2))) (by rw [show b64 (samB q f 2) = 0 from by rw [h_736]; rfl]) ?_
    refine W.lcmp hx hb dL_law_744 ?_
    refine ml_if_eq (tgt := 750) hB dL_law_745 (by decide) (fun h_745 => ?_) (fun h => absurd rfl h)
    refine lv_goto (tgt := 1803) hx hb dL_law_750 (by decide) ?_
    refine W.widen (k := ce7 + 30) (n := sn7 + 1100) (by omega) (by omega) ?_
    exact kk _ _ _ ⟨hC, ⟨_, _, _, _, _, _, _, _, _, _, _, _, _, _, _, _, _, _, _, _, hR⟩, ⟨_, hO⟩, hTx⟩ hS (lv_sub hl [2, 3, 4, 5, 6] rfl)
  · skip
    refine lv_lconst (v := 1) hx hb dL_law_739 (by decide) ?_
    refine mh_top (y := .long (b64 (samB q f 2))) (by rw [show b64 (samB q f 2) = 1 from by rw [h_736]; rfl]) ?_
    refine lv_goto (tgt := 744) hx hb dL_law_740 (by decide) ?_
    refine W.lcmp hx hb dL_law_744 ?_
    refine ml_if_eq (tgt := 750) hB dL_law_745 (by decide) (fun h_745 => ?_) (fun h => absurd rfl h)
    refine lv_goto (tgt := 1803) hx hb dL_law_750 (by decide) ?_
    refine W.widen (k := ce7 + 30) (n := sn7 + 1100) (by omega) (by omega) ?_
    exact kk _ _ _ ⟨hC, ⟨_, _, _, _, _, _, _, _, _, _, _, _, _, _, _, _, _, _, _, _, hR⟩, ⟨_, hO⟩, hTx⟩ hS (lv_sub hl [2, 3, 4, 5, 6] rfl)

set_option maxRecDepth 100000 in
set_option maxHeartbeats 800000 in
theorem s_same_e {p : Program} {l : Launch} {e : Env} {s : State} {m : MethodId} {args : Array Value} {below : List Frame} {meth : Method} {c : Code} {H : Heap} {locs : List Loc} {ce7 sn7 : Nat} {Q : State → Prop} {g : GG} {b L xb r ob lim : Nat} {xs : Nat → Int32} {i9 : Nat} {ls : Array Slot} {q : Nat → Int32} {n : Nat} {rm sl sv tx : Nat → Int32} {ln : Nat} {zsp : Nat → Int32} {zth : Int32} {zsg : Nat → Int32} {zbg : Nat → Int32} {zwd : Nat → Int32} {zhg : Nat → Int32} {zin : Nat → Int32} {zop : Int32} {zbe : Int32} {zwi : Int32} {zhi : Int32} {zbk : Nat → Int32} {zot : Nat → Int32} {zer : Int32} {zen : Int32} {zpo : Nat → Int32} {zpi : Int32} {zgr : Int32} {zsh : Nat → Int32} {zsn : Int32} {o : Nat → Int64} (hfl : l.stackTraces = false) (hE : LE p s m meth c g b L xs xb r ob lim) (hi : 4 * i9 + 3 < L) (hC : CLS g xb lim q n rm sl sv tx ln H) (hR : ModAt g r q zsp rm (nI n) sl sv tx (nI ln) zth zsg zbg zwd zhg zin zop zbe zwi zhi zbk zot zer zen zpo zpi zgr zsh zsn H) (hO : at_ g H ob (eL g 1 o)) (hTx : TxT tx ln) (hS : va_S (fun q9 => xb ≤ q9) s.heap H locs) (hl : lv_has ls 7 [(0, .ref b), (1, .ref xb), (2, .ref r), (3, .ref ob), (4, .int (nI (4 * i9)))]) (hce7 : ce7 + 30 ≤ 622861) (hsn7 : sn7 + 1100 ≤ 7227521) (f : Nat) (w : Nat) (a1 : xs (4 * i9 + 1) = nI f) (a2 : xs (4 * i9 + 2) = nI w) (hf : f < 3) (hw : w < 3) (hs0 : szF q f = 0) (kk : ∀ (H1 : Heap) (locs1 : List Loc) (ls1 : Array Slot), LI g xb r ob lim q n rm sl sv tx ln H1 → va_S (fun q9 => xb ≤ q9) s.heap H1 locs1 → lv_has ls1 7 [(0, .ref b), (1, .ref xb), (2, .ref r), (3, .ref ob), (4, .int (nI (4 * i9)))] → W p l e room_1 s m args below meth c H1 locs1 (ce7 + 30) (sn7 + 1100) Q (F0 m 1803 ls1 [])) : W p l e room_1 s m args below meth c H locs ce7 sn7 Q (F0 m 678 ls []) := by
  obtain ⟨hB, hZ9, hX, hbl, hL9, hxs, hr9, hob9, hlm9⟩ := hE
  have hx := hB.x
  have hb := hB.b
  have hbA : ¬ (fun q9 => xb ≤ q9) b := fun y9 => by have y8 : xb ≤ b := y9; omega
  have hW := hC.wf
  have hn14 := hC.n14
  have hl6c := hC.l60
  have hnm5 := hW.2.2.1
  refine lv_aload_n hx hb dL_law_678 rfl (lv_at hl 1 rfl) ?_
  refine lv_aload_n hx hb dL_law_679 rfl (lv_at hl 0 rfl) ?_
  refine lv_iload hx hb dL_law_680 (lv_at hl 4 rfl) ?_
  refine lv_iconst (v := nI 1) hx hb dL_law_682 (by decide) ?_
  refine mn_iadd hB dL_law_683 ?_
  refine va_sld hx hb hX hbl hbA hS (vp_in_nI (by omega) (by omega)) dL_law_684 ?_
  refine mh_top (y := .int (nI f)) (by rw [nI_clamp (by omega), a1]) ?_
  refine lv_aload_n hx hb dL_law_685 rfl (lv_at hl 0 rfl) ?_
  refine lv_iload hx hb dL_law_686 (lv_at hl 4 rfl) ?_
  refine lv_iconst (v := nI 2) hx hb dL_law_688 (by decide) ?_
  refine mn_iadd hB dL_law_689 ?_
  refine va_sld hx hb hX hbl hbA hS (vp_in_nI (by omega) (by omega)) dL_law_690 ?_
  refine mh_top (y := .int (nI w)) (by rw [nI_clamp (by omega), a2]) ?_
  refine lv_aload_n hx hb dL_law_691 rfl (lv_at hl 3 rfl) ?_
  refine cw_134 (As := [.ref xb, .int (nI f), .int (nI w), .ref ob]) (rest := []) hB (hZ9.at hS (fun _ h9 => h9)) (w_same_e l g H xb lim q n rm sl sv tx ln f w ob o (hC) (hO) (hf) (hw) (hs0) (⟨by omega, by omega⟩) (hfl)) rfl hl.1 (Nat.le_of_ble_eq_true rfl) dL_law_692 ⟨Nat.le_of_ble_eq_true rfl, Nat.le_of_ble_eq_true rfl⟩ ⟨by show (ce7) + 0 ≤ 622861; omega, by show (sn7) + 0 ≤ 7227521; omega⟩ hS (by have hz9 := hS.1; rintro q9 (h9 | h9) <;> first | exact h9.elim | (have h8 : r ≤ q9 ∧ q9 < r + 16 := h9; show xb ≤ q9; omega) | (have h8 : ((xb ≤ q9 ∧ q9 < xb + 68) ∨ lim ≤ q9) ∨ q9 = ob := h9; show xb ≤ q9; omega) | (have h8 : (xb ≤ q9 ∧ q9 < xb + 68) ∨ lim ≤ q9 := h9; show xb ≤ q9; omega) | (show xb ≤ q9; omega)) (fun v H1 locs hpo hfr hS => ?_)
  obtain ⟨rfl, hC, hO⟩ := hpo
  have hR := hR.keptF hfr (fun q9 h1 h2 y9 => by first | exact y9.elim | (have y8 : ((xb ≤ q9 ∧ q9 < xb + 68) ∨ lim ≤ q9) ∨ q9 = ob := y9; omega) | (have y8 : (xb ≤ q9 ∧ q9 < xb + 68) ∨ lim ≤ q9 := y9; omega))
  generalize H1 = H at hfr hS hR hX hC hO ⊢
  refine W.widen (k := ce7) (n := sn7) (by show (ce7) + 0 ≤ ce7; omega) (by show (sn7) + 0 ≤ sn7; omega) ?_
  refine lv_istore (lv' := [(5, .int (nI 0)), (0, .ref b), (1, .ref xb), (2, .ref r), (3, .ref ob), (4, .int (nI (4 * i9)))]) hx hb dL_law_695 hl (by decide) rfl (fun ls hl => ?_)
  refine lv_aload_n hx hb dL_law_697 rfl (lv_at hl 3 rfl) ?_
  refine lv_aload_n hx hb dL_law_698 rfl (lv_at hl 1 rfl) ?_
  refine lv_iload hx hb dL_law_699 (lv_at hl 5 rfl) ?_
  refine lv_iconst (v := nI 1) hx hb dL_law_701 (by decide) ?_
  refine mn_iadd hB dL_law_702 ?_
  refine va_sld hx hb hX hbl hbA hS (vp_in_nI (by omega) (by omega)) dL_law_703 ?_
  refine mh_top (y := .int (nI f)) (by rw [nI_clamp (by omega), a1]) ?_
  refine lv_aload_n hx hb dL_law_704 rfl (lv_at hl 1 rfl) ?_
  refine lv_iload hx hb dL_law_705 (lv_at hl 5 rfl) ?_
  refine lv_iconst (v := nI 2) hx hb dL_law_707 (by decide) ?_
  refine mn_iadd hB dL_law_708 ?_
  refine va_sld hx hb hX hbl hbA hS (vp_in_nI (by omega) (by omega)) dL_law_709 ?_
  refine mh_top (y := .int (nI w)) (by rw [nI_clamp (by omega), a2]) ?_
  refine cl_L_136 (As := [.int (nI f), .int (nI w)]) (rest := []) hB (c_X11_same_e l g H r q zsp rm (nI n) sl sv tx (nI ln) zth zsg zbg zwd zhg zin zop zbe zwi zhi zbk zot zer zen zpo zpi zgr zsh zsn f w hR (by first | assumption | omega) (hf) (hw) (hs0)) hR.o rfl hl.1 (Nat.le_of_ble_eq_true rfl) dL_law_710 ⟨Nat.le_of_ble_eq_true rfl, Nat.le_of_ble_eq_true rfl⟩ ⟨by show (ce7) + 0 ≤ 622861; omega, by show (sn7) + 0 ≤ 7227521; omega⟩ hS (by have hz9 := hS.1; rintro q9 (h9 | h9) <;> first | exact h9.elim | (have h8 : r ≤ q9 ∧ q9 < r + 16 := h9; show xb ≤ q9; omega) | (have h8 : ((xb ≤ q9 ∧ q9 < xb + 68) ∨ lim ≤ q9) ∨ q9 = ob := h9; show xb ≤ q9; omega) | (have h8 : (xb ≤ q9 ∧ q9 < xb + 68) ∨ lim ≤ q9 := h9; show xb ≤ q9; omega) | (show xb ≤ q9; omega)) (fun v H1 locs hpo hfr hS => ?_)
  obtain ⟨rfl, wi2_1, hi2_2, bk2_3, ot2_4, hR⟩ := hpo
  have hC := hC.keptM hfr (fun a9 y9 => by first | exact y9.elim | (have y8 : r ≤ a9 ∧ a9 < r + 16 := y9; omega))
  have hO := Fr.keep hfr hO (fun y9 => by first | exact y9.elim | (have y8 : r ≤ ob ∧ ob < r + 16 := y9; omega) | (have y8 : (xb ≤ ob ∧ ob < xb + 68) ∨ lim ≤ ob := y9; omega))
  generalize H1 = H at hfr hS hX hC hO hR ⊢
  refine W.widen (k := ce7) (n := sn7) (by show (ce7) + 0 ≤ ce7; omega) (by show (sn7) + 0 ≤ sn7; omega) ?_
  refine lv_istore (lv' := [(6, .int (bI true)), (5, .int (nI 0)), (0, .ref b), (1, .ref xb), (2, .ref r), (3, .ref ob), (4, .int (nI (4 * i9)))]) hx hb dL_law_713 hl (by decide) rfl (fun ls hl => ?_)
  refine lv_aload_n hx hb dL_law_715 rfl (lv_at hl 4 rfl) ?_
  refine cl_L_102 (As := []) (rest := []) hB (c_X11_thrown l g H r q zsp rm (nI n) sl sv tx (nI ln) (nI 0) zsg zbg zwd zhg zin zop zbe wi2_1 hi2_2 bk2_3 ot2_4 zer zen zpo zpi zgr zsh zsn hR) hR.o rfl hl.1 (Nat.le_of_ble_eq_true rfl) dL_law_716 ⟨Nat.le_of_ble_eq_true rfl, Nat.le_of_ble_eq_true rfl⟩ ⟨by show (ce7) + 0 ≤ 622861; omega, by show (sn7) + 0 ≤ 7227521; omega⟩ hS (by have hz9 := hS.1; rintro q9 (h9 | h9) <;> first | exact h9.elim | (have h8 : r ≤ q9 ∧ q9 < r + 16 := h9; show xb ≤ q9; omega) | (have h8 : ((xb ≤ q9 ∧ q9 < xb + 68) ∨ lim ≤ q9) ∨ q9 = ob := h9; show xb ≤ q9; omega) | (have h8 : (xb ≤ q9 ∧ q9 < xb + 68) ∨ lim ≤ q9 := h9; show xb ≤ q9; omega) | (show xb ≤ q9; omega)) (fun v H1 locs hpo hfr hS => ?_)
  obtain ⟨rfl, rfl⟩ := hpo
  refine W.widen (k := ce7) (n := sn7) (by show (ce7) + 0 ≤ ce7; omega) (by show (sn7) + 0 ≤ sn7; omega) ?_
  refine lv_iload hx hb dL_law_719 (lv_at hl 1 rfl) ?_
  refine lv_icmp_eq (tgt := 726) hx hb dL_law_721 (by decide) (fun h_721 => ?_) (fun h9 => absurd rfl h9)
  refine lv_iload hx hb dL_law_726 (lv_at hl 1 rfl) ?_
  refine mn_if_ne (tgt := 750) hB dL_law_728 (by decide) (by omega) (fun h => by exfalso; omega) (fun h_728 => ?_)
  refine lv_aload_n hx hb dL_law_731 rfl (lv_at hl 5 rfl) ?_
  refine lv_iconst (v := nI 0) hx hb dL_law_732 (by decide) ?_
  refine mn_lald hB hO (by omega) (by omega) dL_law_733 ?_
  refine mh_top (y := .long (b64 true)) (rfl) ?_
  refine lv_iload hx hb dL_law_734 (lv_at hl 0 rfl) ?_
  refine mb_if_eq (tgt := 743) hB dL_law_736 (by decide) (fun h_736 => ?_) (fun h_736 => ?_)
  · skip
    refine lv_lconst (v := 0) hx hb dL_law_743 (by decide) ?_
    refine mh_top (y := .long (b64 true)) (by rw [show b64 true = 0 from by rw [h_736]; rfl]) ?_
    refine W.lcmp hx hb dL_law_744 ?_
    refine ml_if_eq (tgt := 750) hB dL_law_745 (by decide) (fun h_745 => ?_) (fun h => absurd rfl h)
    refine lv_goto (tgt := 1803) hx hb dL_law_750 (by decide) ?_
    refine W.widen (k := ce7 + 30) (n := sn7 + 1100) (by omega) (by omega) ?_
    exact kk _ _ _ ⟨hC, ⟨_, _, _, _, _, _, _, _, _, _, _, _, _, _, _, _, _, _, _, _, hR⟩, ⟨_, hO⟩, hTx⟩ hS (lv_sub hl [2, 3, 4, 5, 6] rfl)
  · skip
    refine lv_lconst (v := 1) hx hb dL_law_739 (by decide) ?_
    refine mh_top (y := .long (b64 true)) (by rw [show b64 true = 1 from by rw [h_736]; rfl]) ?_
    refine lv_goto (tgt := 744) hx hb dL_law_740 (by decide) ?_
    refine W.lcmp hx hb dL_law_744 ?_
    refine ml_if_eq (tgt := 750) hB dL_law_745 (by decide) (fun h_745 => ?_) (fun h => absurd rfl h)
    refine lv_goto (tgt := 1803) hx hb dL_law_750 (by decide) ?_
    refine W.widen (k := ce7 + 30) (n := sn7 + 1100) (by omega) (by omega) ?_
    exact kk _ _ _ ⟨hC, ⟨_, _, _, _, _, _, _, _, _, _, _, _, _, _, _, _, _, _, _, _, hR⟩, ⟨_, hO⟩, hTx⟩ hS (lv_sub hl [2, 3, 4, 5, 6] rfl)
