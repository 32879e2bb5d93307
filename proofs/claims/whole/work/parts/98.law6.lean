/-! the law, call by call -/
set_option maxRecDepth 100000 in
set_option maxHeartbeats 800000 in
theorem s_lacks_t1 {p : Program} {l : Launch} {e : Env} {s : State} {m : MethodId} {args : Array Value} {below : List Frame} {meth : Method} {c : Code} {H : Heap} {locs : List Loc} {ce7 sn7 : Nat} {Q : State → Prop} {g : GG} {b L xb r ob lim : Nat} {xs : Nat → Int32} {i9 : Nat} {ls : Array Slot} {q : Nat → Int32} {n : Nat} {rm sl sv tx : Nat → Int32} {ln : Nat} {zsp : Nat → Int32} {zth : Int32} {zsg : Nat → Int32} {zbg : Nat → Int32} {zwd : Nat → Int32} {zhg : Nat → Int32} {zin : Nat → Int32} {zop : Int32} {zbe : Int32} {zwi : Int32} {zhi : Int32} {zbk : Nat → Int32} {zot : Nat → Int32} {zer : Int32} {zen : Int32} {zpo : Nat → Int32} {zpi : Int32} {zgr : Int32} {zsh : Nat → Int32} {zsn : Int32} {o : Nat → Int64} (hfl : l.stackTraces = false) (hE : LE p s m meth c g b L xs xb r ob lim) (hi : 4 * i9 + 3 < L) (hC : CLS g xb lim q n rm sl sv tx ln H) (hR : ModAt g r q zsp rm (nI n) sl sv tx (nI ln) zth zsg zbg zwd zhg zin zop zbe zwi zhi zbk zot zer zen zpo zpi zgr zsh zsn H) (hO : at_ g H ob (eL g 1 o)) (hTx : TxT tx ln) (hS : va_S (fun q9 => xb ≤ q9) s.heap H locs) (hl : lv_has ls 7 [(0, .ref b), (1, .ref xb), (2, .ref r), (3, .ref ob), (4, .int (nI (4 * i9)))]) (hce7 : ce7 + 30 ≤ 622861) (hsn7 : sn7 + 1100 ≤ 7227521) (x : Int32) (y : Int32) (a1 : xs (4 * i9 + 1) = x) (a2 : xs (4 * i9 + 2) = y) (hx1 : isIx y 6 = false) (kk : ∀ (H1 : Heap) (locs1 : List Loc) (ls1 : Array Slot), LI g xb r ob lim q n rm sl sv tx ln H1 → va_S (fun q9 => xb ≤ q9) s.heap H1 locs1 → lv_has ls1 7 [(0, .ref b), (1, .ref xb), (2, .ref r), (3, .ref ob), (4, .int (nI (4 * i9)))] → W p l e room_1 s m args below meth c H1 locs1 (ce7 + 30) (sn7 + 1100) Q (F0 m 1803 ls1 [])) : W p l e room_1 s m args below meth c H locs ce7 sn7 Q (F0 m 1262 ls []) := by
  obtain ⟨hB, hZ9, hX, hbl, hL9, hxs, hr9, hob9, hlm9⟩ := hE
  have hx := hB.x
  have hb := hB.b
  have hbA : ¬ (fun q9 => xb ≤ q9) b := fun y9 => by have y8 : xb ≤ b := y9; omega
  have hW := hC.wf
  have hn14 := hC.n14
  have hl6c := hC.l60
  have hnm5 := hW.2.2.1
  refine lv_aload_n hx hb dL_law_1262 rfl (lv_at hl 1 rfl) ?_
  refine lv_aload_n hx hb dL_law_1263 rfl (lv_at hl 0 rfl) ?_
  refine lv_iload hx hb dL_law_1264 (lv_at hl 4 rfl) ?_
  refine lv_iconst (v := nI 1) hx hb dL_law_1266 (by decide) ?_
  refine mn_iadd hB dL_law_1267 ?_
  refine va_sld hx hb hX hbl hbA hS (vp_in_nI (by omega) (by omega)) dL_law_1268 ?_
  refine mh_top (y := .int x) (by rw [nI_clamp (by omega), a1]) ?_
  refine lv_aload_n hx hb dL_law_1269 rfl (lv_at hl 0 rfl) ?_
  refine lv_iload hx hb dL_law_1270 (lv_at hl 4 rfl) ?_
  refine lv_iconst (v := nI 2) hx hb dL_law_1272 (by decide) ?_
  refine mn_iadd hB dL_law_1273 ?_
  refine va_sld hx hb hX hbl hbA hS (vp_in_nI (by omega) (by omega)) dL_law_1274 ?_
  refine mh_top (y := .int y) (by rw [nI_clamp (by omega), a2]) ?_
  refine lv_aload_n hx hb dL_law_1275 rfl (lv_at hl 3 rfl) ?_
  refine cw_166 (As := [.ref xb, .int x, .int y, .ref ob]) (rest := []) hB (hZ9.at hS (fun _ h9 => h9)) (w_lacks_t1 l g H xb lim q n rm sl sv tx ln x y ob o (hC) (hO) (hx1) (⟨by omega, by omega⟩) (hfl)) rfl hl.1 (Nat.le_of_ble_eq_true rfl) dL_law_1276 ⟨Nat.le_of_ble_eq_true rfl, Nat.le_of_ble_eq_true rfl⟩ ⟨by show (ce7) + 1 ≤ 622861; omega, by show (sn7) + 6 ≤ 7227521; omega⟩ hS (by have hz9 := hS.1; rintro q9 (h9 | h9) <;> first | exact h9.elim | (have h8 : r ≤ q9 ∧ q9 < r + 16 := h9; show xb ≤ q9; omega) | (have h8 : ((xb ≤ q9 ∧ q9 < xb + 68) ∨ lim ≤ q9) ∨ q9 = ob := h9; show xb ≤ q9; omega) | (have h8 : (xb ≤ q9 ∧ q9 < xb + 68) ∨ lim ≤ q9 := h9; show xb ≤ q9; omega) | (show xb ≤ q9; omega)) (fun v H1 locs hpo hfr hS => ?_)
  obtain ⟨rfl, hC, hO⟩ := hpo
  have hR := hR.keptF hfr (fun q9 h1 h2 y9 => by first | exact y9.elim | (have y8 : ((xb ≤ q9 ∧ q9 < xb + 68) ∨ lim ≤ q9) ∨ q9 = ob := y9; omega) | (have y8 : (xb ≤ q9 ∧ q9 < xb + 68) ∨ lim ≤ q9 := y9; omega))
  generalize H1 = H at hfr hS hR hX hC hO ⊢
  refine W.widen (k := ce7 + 1) (n := sn7 + 6) (by show (ce7) + 1 ≤ ce7 + 1; omega) (by show (sn7) + 6 ≤ sn7 + 6; omega) ?_
  refine lv_istore (lv' := [(5, .int (nI 1)), (0, .ref b), (1, .ref xb), (2, .ref r), (3, .ref ob), (4, .int (nI (4 * i9)))]) hx hb dL_law_1279 hl (by decide) rfl (fun ls hl => ?_)
  refine lv_aload_n hx hb dL_law_1281 rfl (lv_at hl 3 rfl) ?_
  refine lv_aload_n hx hb dL_law_1282 rfl (lv_at hl 1 rfl) ?_
  refine lv_iload hx hb dL_law_1283 (lv_at hl 5 rfl) ?_
  refine lv_iconst (v := nI 1) hx hb dL_law_1285 (by decide) ?_
  refine mn_iadd hB dL_law_1286 ?_
  refine va_sld hx hb hX hbl hbA hS (vp_in_nI (by omega) (by omega)) dL_law_1287 ?_
  refine mh_top (y := .int x) (by rw [nI_clamp (by omega), a1]) ?_
  refine lv_aload_n hx hb dL_law_1288 rfl (lv_at hl 1 rfl) ?_
  refine lv_iload hx hb dL_law_1289 (lv_at hl 5 rfl) ?_
  refine lv_iconst (v := nI 2) hx hb dL_law_1291 (by decide) ?_
  refine mn_iadd hB dL_law_1292 ?_
  refine va_sld hx hb hX hbl hbA hS (vp_in_nI (by omega) (by omega)) dL_law_1293 ?_
  refine mh_top (y := .int y) (by rw [nI_clamp (by omega), a2]) ?_
  refine cl_L_168 (As := [.int x, .int y]) (rest := []) hB (c_X11_lacks_t1 l g H r q zsp rm (nI n) sl sv tx (nI ln) zth zsg zbg zwd zhg zin zop zbe zwi zhi zbk zot zer zen zpo zpi zgr zsh zsn x y hR (hx1)) hR.o rfl hl.1 (Nat.le_of_ble_eq_true rfl) dL_law_1294 ⟨Nat.le_of_ble_eq_true rfl, Nat.le_of_ble_eq_true rfl⟩ ⟨by show (ce7 + 1) + 0 ≤ 622861; omega, by show (sn7 + 6) + 0 ≤ 7227521; omega⟩ hS (by have hz9 := hS.1; rintro q9 (h9 | h9) <;> first | exact h9.elim | (have h8 : r ≤ q9 ∧ q9 < r + 16 := h9; show xb ≤ q9; omega) | (have h8 : ((xb ≤ q9 ∧ q9 < xb + 68) ∨ lim ≤ q9) ∨ q9 = ob := h9; show xb ≤ q9; omega) | (have h8 : (xb ≤ q9 ∧ q9 < xb + 68) ∨ lim ≤ q9 := h9; show xb ≤ q9; omega) | (show xb ≤ q9; omega)) (fun v H1 locs hpo hfr hS => ?_)
  obtain ⟨rfl, hR⟩ := hpo
  have hC := hC.keptM hfr (fun a9 y9 => by first | exact y9.elim | (have y8 : r ≤ a9 ∧ a9 < r + 16 := y9; omega))
  have hO := Fr.keep hfr hO (fun y9 => by first | exact y9.elim | (have y8 : r ≤ ob ∧ ob < r + 16 := y9; omega) | (have y8 : (xb ≤ ob ∧ ob < xb + 68) ∨ lim ≤ ob := y9; omega))
  generalize H1 = H at hfr hS hX hC hO hR ⊢
  refine W.widen (k := ce7 + 1) (n := sn7 + 6) (by show (ce7 + 1) + 0 ≤ ce7 + 1; omega) (by show (sn7 + 6) + 0 ≤ sn7 + 6; omega) ?_
  refine lv_istore (lv' := [(6, .int (nI 0)), (5, .int (nI 1)), (0, .ref b), (1, .ref xb), (2, .ref r), (3, .ref ob), (4, .int (nI (4 * i9)))]) hx hb dL_law_1297 hl (by decide) rfl (fun ls hl => ?_)
  refine lv_aload_n hx hb dL_law_1299 rfl (lv_at hl 4 rfl) ?_
  refine cl_L_102 (As := []) (rest := []) hB (c_X11_thrown l g H r q zsp rm (nI n) sl sv tx (nI ln) (nI 1) zsg zbg zwd zhg zin zop zbe zwi zhi zbk zot zer zen zpo zpi zgr zsh zsn hR) hR.o rfl hl.1 (Nat.le_of_ble_eq_true rfl) dL_law_1300 ⟨Nat.le_of_ble_eq_true rfl, Nat.le_of_ble_eq_true rfl⟩ ⟨by show (ce7 + 1) + 0 ≤ 622861; omega, by show (sn7 + 6) + 0 ≤ 7227521; omega⟩ hS (by have hz9 := hS.1; rintro q9 (h9 | h9) <;> first | exact h9.elim | (have h8 : r ≤ q9 ∧ q9 < r + 16 := h9; show xb ≤ q9; omega) | (have h8 : ((xb ≤ q9 ∧ q9 < xb + 68) ∨ lim ≤ q9) ∨ q9 = ob := h9; show xb ≤ q9; omega) | (have h8 : (xb ≤ q9 ∧ q9 < xb + 68) ∨ lim ≤ q9 := h9; show xb ≤ q9; omega) | (show xb ≤ q9; omega)) (fun v H1 locs hpo hfr hS => ?_)
  obtain ⟨rfl, rfl⟩ := hpo
  refine W.widen (k := ce7 + 1) (n := sn7 + 6) (by show (ce7 + 1) + 0 ≤ ce7 + 1; omega) (by show (sn7 + 6) + 0 ≤ sn7 + 6; omega) ?_
  refine lv_iload hx hb dL_law_1303 (lv_at hl 1 rfl) ?_
  refine lv_icmp_eq (tgt := 1310) hx hb dL_law_1305 (by decide) (fun h_1305 => ?_) (fun h9 => absurd rfl h9)
  refine lv_iload hx hb dL_law_1310 (lv_at hl 1 rfl) ?_
  refine mn_if_ne (tgt := 1327) hB dL_law_1312 (by decide) (by omega) (fun h_1312 => ?_) (fun h => by exfalso; omega)
  refine lv_goto (tgt := 1803) hx hb dL_law_1327 (by decide) ?_
  refine W.widen (k := ce7 + 30) (n := sn7 + 1100) (by omega) (by omega) ?_
  exact kk _ _ _ ⟨hC, ⟨_, _, _, _, _, _, _, _, _, _, _, _, _, _, _, _, _, _, _, _, hR⟩, ⟨_, hO⟩, hTx⟩ hS (lv_sub hl [2, 3, 4, 5, 6] rfl)

set_option maxRecDepth 100000 in
set_option maxHeartbeats 800000 in
theorem s_lacks_t2 {p : Program} {l : Launch} {e : Env} {s : State} {m : MethodId} {args : Array Value} {below : List Frame} {meth : Method} {c : Code} {H : Heap} {locs : List Loc} {ce7 sn7 : Nat} {Q : State → Prop} {g : GG} {b L xb r ob lim : Nat} {xs : Nat → Int32} {i9 : Nat} {ls : Array Slot} {q : Nat → Int32} {n : Nat} {rm sl sv tx : Nat → Int32} {ln : Nat} {zsp : Nat → Int32} {zth : Int32} {zsg : Nat → Int32} {zbg : Nat → Int32} {zwd : Nat → Int32} {zhg : Nat → Int32} {zin : Nat → Int32} {zop : Int32} {zbe : Int32} {zwi : Int32} {zhi : Int32} {zbk : Nat → Int32} {zot : Nat → Int32} {zer : Int32} {zen : Int32} {zpo : Nat → Int32} {zpi : Int32} {zgr : Int32} {zsh : Nat → Int32} {zsn : Int32} {o : Nat → Int64} (hfl : l.stackTraces = false) (hE : LE p s m meth c g b L xs xb r ob lim) (hi : 4 * i9 + 3 < L) (hC : CLS g xb lim q n rm sl sv tx ln H) (hR : ModAt g r q zsp rm (nI n) sl sv tx (nI ln) zth zsg zbg zwd zhg zin zop zbe zwi zhi zbk zot zer zen zpo zpi zgr zsh zsn H) (hO : at_ g H ob (eL g 1 o)) (hTx : TxT tx ln) (hS : va_S (fun q9 => xb ≤ q9) s.heap H locs) (hl : lv_has ls 7 [(0, .ref b), (1, .ref xb), (2, .ref r), (3, .ref ob), (4, .int (nI (4 * i9)))]) (hce7 : ce7 + 30 ≤ 622861) (hsn7 : sn7 + 1100 ≤ 7227521) (x : Int32) (c0 : Nat) (a1 : xs (4 * i9 + 1) = x) (a2 : xs (4 * i9 + 2) = nI c0) (hx1 : isIx x 8 = false) (hc : c0 < 6) (kk : ∀ (H1 : Heap) (locs1 : List Loc) (ls1 : Array Slot), LI g xb r ob lim q n rm sl sv tx ln H1 → va_S (fun q9 => xb ≤ q9) s.heap H1 locs1 → lv_has ls1 7 [(0, .ref b), (1, .ref xb), (2, .ref r), (3, .ref ob), (4, .int (nI (4 * i9)))] → W p l e room_1 s m args below meth c H1 locs1 (ce7 + 30) (sn7 + 1100) Q (F0 m 1803 ls1 [])) : W p l e room_1 s m args below meth c H locs ce7 sn7 Q (F0 m 1262 ls []) := by
  obtain ⟨hB, hZ9, hX, hbl, hL9, hxs, hr9, hob9, hlm9⟩ := hE
  have hx := hB.x
  have hb := hB.b
  have hbA : ¬ (fun q9 => xb ≤ q9) b := fun y9 => by have y8 : xb ≤ b := y9; omega
  have hW := hC.wf
  have hn14 := hC.n14
  have hl6c := hC.l60
  have hnm5 := hW.2.2.1
  refine lv_aload_n hx hb dL_law_1262 rfl (lv_at hl 1 rfl) ?_
  refine lv_aload_n hx hb dL_law_1263 rfl (lv_at hl 0 rfl) ?_
  refine lv_iload hx hb dL_law_1264 (lv_at hl 4 rfl) ?_
  refine lv_iconst (v := nI 1) hx hb dL_law_1266 (by decide) ?_
  refine mn_iadd hB dL_law_1267 ?_
  refine va_sld hx hb hX hbl hbA hS (vp_in_nI (by omega) (by omega)) dL_law_1268 ?_
  refine mh_top (y := .int x) (by rw [nI_clamp (by omega), a1]) ?_
  refine lv_aload_n hx hb dL_law_1269 rfl (lv_at hl 0 rfl) ?_
  refine lv_iload hx hb dL_law_1270 (lv_at hl 4 rfl) ?_
  refine lv_iconst (v := nI 2) hx hb dL_law_1272 (by decide) ?_
  refine mn_iadd hB dL_law_1273 ?_
  refine va_sld hx hb hX hbl hbA hS (vp_in_nI (by omega) (by omega)) dL_law_1274 ?_
  refine mh_top (y := .int (nI c0)) (by rw [nI_clamp (by omega), a2]) ?_
  refine lv_aload_n hx hb dL_law_1275 rfl (lv_at hl 3 rfl) ?_
  refine cw_166 (As := [.ref xb, .int x, .int (nI c0), .ref ob]) (rest := []) hB (hZ9.at hS (fun _ h9 => h9)) (w_lacks_t2 l g H xb lim q n rm sl sv tx ln x c0 ob o (hC) (hO) (hx1) (hc) (⟨by omega, by omega⟩) (hfl)) rfl hl.1 (Nat.le_of_ble_eq_true rfl) dL_law_1276 ⟨Nat.le_of_ble_eq_true rfl, Nat.le_of_ble_eq_true rfl⟩ ⟨by show (ce7) + 1 ≤ 622861; omega, by show (sn7) + 6 ≤ 7227521; omega⟩ hS (by have hz9 := hS.1; rintro q9 (h9 | h9) <;> first | exact h9.elim | (have h8 : r ≤ q9 ∧ q9 < r + 16 := h9; show xb ≤ q9; omega) | (have h8 : ((xb ≤ q9 ∧ q9 < xb + 68) ∨ lim ≤ q9) ∨ q9 = ob := h9; show xb ≤ q9; omega) | (have h8 : (xb ≤ q9 ∧ q9 < xb + 68) ∨ lim ≤ q9 := h9; show xb ≤ q9; omega) | (show xb ≤ q9; omega)) (fun v H1 locs hpo hfr hS => ?_)
  obtain ⟨rfl, hC, hO⟩ := hpo
  have hR := hR.keptF hfr (fun q9 h1 h2 y9 => by first | exact y9.elim | (have y8 : ((xb ≤ q9 ∧ q9 < xb + 68) ∨ lim ≤ q9) ∨ q9 = ob := y9; omega) | (have y8 : (xb ≤ q9 ∧ q9 < xb + 68) ∨ lim ≤ q9 := y9; omega))
  generalize H1 = H at hfr hS hR hX hC hO ⊢
  refine W.widen (k := ce7 + 1) (n := sn7 + 6) (by show (ce7) + 1 ≤ ce7 + 1; omega) (by show (sn7) + 6 ≤ sn7 + 6; omega) ?_
  refine lv_istore (lv' := [(5, .int (nI 2)), (0, .ref b), (1, .ref xb), (2, .ref r), (3, .ref ob), (4, .int (nI (4 * i9)))]) hx hb dL_law_1279 hl (by decide) rfl (fun ls hl => ?_)
  refine lv_aload_n hx hb dL_law_1281 rfl (lv_at hl 3 rfl) ?_
  refine lv_aload_n hx hb dL_law_1282 rfl (lv_at hl 1 rfl) ?_
  refine lv_iload hx hb dL_law_1283 (lv_at hl 5 rfl) ?_
  refine lv_iconst (v := nI 1) hx hb dL_law_1285 (by decide) ?_
  refine mn_iadd hB dL_law_1286 ?_
  refine va_sld hx hb hX hbl hbA hS (vp_in_nI (by omega) (by omega)) dL_law_1287 ?_
  refine mh_top (y := .int x) (by rw [nI_clamp (by omega), a1]) ?_
  refine lv_aload_n hx hb dL_law_1288 rfl (lv_at hl 1 rfl) ?_
  refine lv_iload hx hb dL_law_1289 (lv_at hl 5 rfl) ?_
  refine lv_iconst (v := nI 2) hx hb dL_law_1291 (by decide) ?_
  refine mn_iadd hB dL_law_1292 ?_
  refine va_sld hx hb hX hbl hbA hS (vp_in_nI (by omega) (by omega)) dL_law_1293 ?_
  refine mh_top (y := .int (nI c0)) (by rw [nI_clamp (by omega), a2]) ?_
  refine cl_L_168 (As := [.int x, .int (nI c0)]) (rest := []) hB (c_X11_lacks_t2 l g H r q zsp rm (nI n) sl sv tx (nI ln) zth zsg zbg zwd zhg zin zop zbe zwi zhi zbk zot zer zen zpo zpi zgr zsh zsn x c0 hR (hx1) (hc)) hR.o rfl hl.1 (Nat.le_of_ble_eq_true rfl) dL_law_1294 ⟨Nat.le_of_ble_eq_true rfl, Nat.le_of_ble_eq_true rfl⟩ ⟨by show (ce7 + 1) + 0 ≤ 622861; omega, by show (sn7 + 6) + 0 ≤ 7227521; omega⟩ hS (by have hz9 := hS.1; rintro q9 (h9 | h9) <;> first | exact h9.elim | (have h8 : r ≤ q9 ∧ q9 < r + 16 := h9; show xb ≤ q9; omega) | (have h8 : ((xb ≤ q9 ∧ q9 < xb + 68) ∨ lim ≤ q9) ∨ q9 = ob := h9; show xb ≤ q9; omega) | (have h8 : (xb ≤ q9 ∧ q9 < xb + 68) ∨ lim ≤ q9 := h9; show xb ≤ q9; omega) | (show xb ≤ q9; omega)) (fun v H1 locs hpo hfr hS => ?_)
  obtain ⟨rfl, hR⟩ := hpo
  have hC := hC.keptM hfr (fun a9 y9 => by first | exact y9.elim | (have y8 : r ≤ a9 ∧ a9 < r + 16 := y9; omega))
  have hO := Fr.keep hfr hO (fun y9 => by first | exact y9.elim | (have y8 : r ≤ ob ∧ ob < r + 16 := y9; omega) | (have y8 : (xb ≤ ob ∧ ob < xb + 68) ∨ lim ≤ ob := y9; omega))
  generalize H1 = H at hfr hS hX hC hO hR ⊢
  refine W.widen (k := ce7 + 1) (n := sn7 + 6) (by show (ce7 + 1) + 0 ≤ ce7 + 1; omega) (by show (sn7 + 6) + 0 ≤ sn7 + 6; omega) ?_
  refine lv_istore (lv' := [(6, .int (nI 0)), (5, .int (nI 2)), (0, .ref b), (1, .ref xb), (2, .ref r), (3, .ref ob), (4, .int (nI (4 * i9)))]) hx hb dL_law_1297 hl (by decide) rfl (fun ls hl => ?_)
  refine lv_aload_n hx hb dL_law_1299 rfl (lv_at hl 4 rfl) ?_
  refine cl_L_102 (As := []) (rest := []) hB (c_X11_thrown l g H r q zsp rm (nI n) sl sv tx (nI ln) (nI 2) zsg zbg zwd zhg zin zop zbe zwi zhi zbk zot zer zen zpo zpi zgr zsh zsn hR) hR.o rfl hl.1 (Nat.le_of_ble_eq_true rfl) dL_law_1300 ⟨Nat.le_of_ble_eq_true rfl, Nat.le_of_ble_eq_true rfl⟩ ⟨by show (ce7 + 1) + 0 ≤ 622861; omega, by show (sn7 + 6) + 0 ≤ 7227521; omega⟩ hS (by have hz9 := hS.1; rintro q9 (h9 | h9) <;> first | exact h9.elim | (have h8 : r ≤ q9 ∧ q9 < r + 16 := h9; show xb ≤ q9; omega) | (have h8 : ((xb ≤ q9 ∧ q9 < xb + 68) ∨ lim ≤ q9) ∨ q9 = ob := h9; show xb ≤ q9; omega) | (have h8 : (xb ≤ q9 ∧ q9 < xb + 68) ∨ lim ≤ q9 := h9; show xb ≤ q9; omega) | (show xb ≤ q9; omega)) (fun v H1 locs hpo hfr hS => ?_)
  obtain ⟨rfl, rfl⟩ := hpo
  refine W.widen (k := ce7 + 1) (n := sn7 + 6) (by show (ce7 + 1) + 0 ≤ ce7 + 1; omega) (by show (sn7 + 6) + 0 ≤ sn7 + 6; omega) ?_
  refine lv_iload hx hb dL_law_1303 (lv_at hl 1 rfl) ?_
  refine lv_icmp_eq (tgt := 1310) hx hb dL_law_1305 (by decide) (fun h_1305 => ?_) (fun h9 => absurd rfl h9)
  refine lv_iload hx hb dL_law_1310 (lv_at hl 1 rfl) ?_
  refine mn_if_ne (tgt := 1327) hB dL_law_1312 (by decide) (by omega) (fun h_1312 => ?_) (fun h => by exfalso; omega)
  refine lv_goto (tgt := 1803) hx hb dL_law_1327 (by decide) ?_
  refine W.widen (k := ce7 + 30) (n := sn7 + 1100) (by omega) (by omega) ?_
  exact kk _ _ _ ⟨hC, ⟨_, _, _, _, _, _, _, _, _, _, _, _, _, _, _, _, _, _, _, _, hR⟩, ⟨_, hO⟩, hTx⟩ hS (lv_sub hl [2, 3, 4, 5, 6] rfl)

set_option maxRecDepth 100000 in
set_option maxHeartbeats 800000 in
theorem s_lacks_ok {p : Program} {l : Launch} {e : Env} {s : State} {m : MethodId} {args : Array Value} {below : List Frame} {meth : Method} {c : Code} {H : Heap} {locs : List Loc} {ce7 sn7 : Nat} {Q : State → Prop} {g : GG} {b L xb r ob lim : Nat} {xs : Nat → Int32} {i9 : Nat} {ls : Array Slot} {q : Nat → Int32} {n : Nat} {rm sl sv tx : Nat → Int32} {ln : Nat} {zsp : Nat → Int32} {zth : Int32} {zsg : Nat → Int32} {zbg : Nat → Int32} {zwd : Nat → Int32} {zhg : Nat → Int32} {zin : Nat → Int32} {zop : Int32} {zbe : Int32} {zwi : Int32} {zhi : Int32} {zbk : Nat → Int32} {zot : Nat → Int32} {zer : Int32} {zen : Int32} {zpo : Nat → Int32} {zpi : Int32} {zgr : Int32} {zsh : Nat → Int32} {zsn : Int32} {o : Nat → Int64} (hfl : l.stackTraces = false) (hE : LE p s m meth c g b L xs xb r ob lim) (hi : 4 * i9 + 3 < L) (hC : CLS g xb lim q n rm sl sv tx ln H) (hR : ModAt g r q zsp rm (nI n) sl sv tx (nI ln) zth zsg zbg zwd zhg zin zop zbe zwi zhi zbk zot zer zen zpo zpi zgr zsh zsn H) (hO : at_ g H ob (eL g 1 o)) (hTx : TxT tx ln) (hS : va_S (fun q9 => xb ≤ q9) s.heap H locs) (hl : lv_has ls 7 [(0, .ref b), (1, .ref xb), (2, .ref r), (3, .ref ob), (4, .int (nI (4 * i9)))]) (hce7 : ce7 + 30 ≤ 622861) (hsn7 : sn7 + 1100 ≤ 7227521) (s0 : Nat) (c0 : Nat) (a1 : xs (4 * i9 + 1) = nI s0) (a2 : xs (4 * i9 + 2) = nI c0) (hs : s0 < 8) (hc : c0 < 6) (kk : ∀ (H1 : Heap) (locs1 : List Loc) (ls1 : Array Slot), LI g xb r ob lim q n rm sl sv tx ln H1 → va_S (fun q9 => xb ≤ q9) s.heap H1 locs1 → lv_has ls1 7 [(0, .ref b), (1, .ref xb), (2, .ref r), (3, .ref ob), (4, .int (nI (4 * i9)))] → W p l e room_1 s m args below meth c H1 locs1 (ce7 + 30) (sn7 + 1100) Q (F0 m 1803 ls1 [])) : W p l e room_1 s m args below meth c H locs ce7 sn7 Q (F0 m 1262 ls []) := by
  obtain ⟨hB, hZ9, hX, hbl, hL9, hxs, hr9, hob9, hlm9⟩ := hE
  have hx := hB.x
  have hb := hB.b
  have hbA : ¬ (fun q9 => xb ≤ q9) b := fun y9 => by have y8 : xb ≤ b := y9; omega
  have hW := hC.wf
  have hn14 := hC.n14
  have hl6c := hC.l60
  have hnm5 := hW.2.2.1
  refine lv_aload_n hx hb dL_law_1262 rfl (lv_at hl 1 rfl) ?_
  refine lv_aload_n hx hb dL_law_1263 rfl (lv_at hl 0 rfl) ?_
  refine lv_iload hx hb dL_law_1264 (lv_at hl 4 rfl) ?_
  refine lv_iconst (v := nI 1) hx hb dL_law_1266 (by decide) ?_
  refine mn_iadd hB dL_law_1267 ?_
  refine va_sld hx hb hX hbl hbA hS (vp_in_nI (by omega) (by omega)) dL_law_1268 ?_
  refine mh_top (y := .int (nI s0)) (by rw [nI_clamp (by omega), a1]) ?_
  refine lv_aload_n hx hb dL_law_1269 rfl (lv_at hl 0 rfl) ?_
  refine lv_iload hx hb dL_law_1270 (lv_at hl 4 rfl) ?_
  refine lv_iconst (v := nI 2) hx hb dL_law_1272 (by decide) ?_
  refine mn_iadd hB dL_law_1273 ?_
  refine va_sld hx hb hX hbl hbA hS (vp_in_nI (by omega) (by omega)) dL_law_1274 ?_
  refine mh_top (y := .int (nI c0)) (by rw [nI_clamp (by omega), a2]) ?_
  refine lv_aload_n hx hb dL_law_1275 rfl (lv_at hl 3 rfl) ?_
  refine cw_166 (As := [.ref xb, .int (nI s0), .int (nI c0), .ref ob]) (rest := []) hB (hZ9.at hS (fun _ h9 => h9)) (w_lacks_ok l g H xb lim q n rm sl sv tx ln s0 c0 ob o (hC) (hO) (hs) (hc) (⟨by omega, by omega⟩) (hfl)) rfl hl.1 (Nat.le_of_ble_eq_true rfl) dL_law_1276 ⟨Nat.le_of_ble_eq_true rfl, Nat.le_of_ble_eq_true rfl⟩ ⟨by show (ce7) + 0 ≤ 622861; omega, by show (sn7) + 0 ≤ 7227521; omega⟩ hS (by have hz9 := hS.1; rintro q9 (h9 | h9) <;> first | exact h9.elim | (have h8 : r ≤ q9 ∧ q9 < r + 16 := h9; show xb ≤ q9; omega) | (have h8 : ((xb ≤ q9 ∧ q9 < xb + 68) ∨ lim ≤ q9) ∨ q9 = ob := h9; show xb ≤ q9; omega) | (have h8 : (xb ≤ q9 ∧ q9 < xb + 68) ∨ lim ≤ q9 := h9; show xb ≤ q9; omega) | (show xb ≤ q9; omega)) (fun v H1 locs hpo hfr hS => ?_)
  obtain ⟨rfl, hC, hO⟩ := hpo
  have hR := hR.keptF hfr (fun q9 h1 h2 y9 => by first | exact y9.elim | (have y8 : ((xb ≤ q9 ∧ q9 < xb + 68) ∨ lim ≤ q9) ∨ q9 = ob := y9; omega) | (have y8 : (xb ≤ q9 ∧ q9 < xb + 68) ∨ lim ≤ q9 := y9; omega))
  generalize H1 = H at hfr hS hR hX hC hO ⊢
  refine W.widen (k := ce7) (n := sn7) (by show (ce7) + 0 ≤ ce7; omega) (by show (sn7) + 0 ≤ sn7; omega) ?_
  refine lv_istore (lv' := [(5, .int (nI 0)), (0, .ref b), (1, .ref xb), (2, .ref r), (3, .ref ob), (4, .int (nI (4 * i9)))]) hx hb dL_law_1279 hl (by decide) rfl (fun ls hl => ?_)
  refine lv_aload_n hx hb dL_law_1281 rfl (lv_at hl 3 rfl) ?_
  refine lv_aload_n hx hb dL_law_1282 rfl (lv_at hl 1 rfl) ?_
  refine lv_iload hx hb dL_law_1283 (lv_at hl 5 rfl) ?_
  refine lv_iconst (v := nI 1) hx hb dL_law_1285 (by decide) ?_
  refine mn_iadd hB dL_law_1286 ?_
  refine va_sld hx hb hX hbl hbA hS (vp_in_nI (by omega) (by omega)) dL_law_1287 ?_
  refine mh_top (y := .int (nI s0)) (by rw [nI_clamp (by omega), a1]) ?_
  refine lv_aload_n hx hb dL_law_1288 rfl (lv_at hl 1 rfl) ?_
  refine lv_iload hx hb dL_law_1289 (lv_at hl 5 rfl) ?_
  refine lv_iconst (v := nI 2) hx hb dL_law_1291 (by decide) ?_
  refine mn_iadd hB dL_law_1292 ?_
  refine va_sld hx hb hX hbl hbA hS (vp_in_nI (by omega) (by omega)) dL_law_1293 ?_
  refine mh_top (y := .int (nI c0)) (by rw [nI_clamp (by omega), a2]) ?_
  refine cl_L_168 (As := [.int (nI s0), .int (nI c0)]) (rest := []) hB (c_X11_lacks l g H r q zsp rm (nI n) sl sv tx (nI ln) zth zsg zbg zwd zhg zin zop zbe zwi zhi zbk zot zer zen zpo zpi zgr zsh zsn s0 c0 hR (by first | assumption | omega) (hs) (hc)) hR.o rfl hl.1 (Nat.le_of_ble_eq_true rfl) dL_law_1294 ⟨Nat.le_of_ble_eq_true rfl, Nat.le_of_ble_eq_true rfl⟩ ⟨by show (ce7) + 0 ≤ 622861; omega, by show (sn7) + 0 ≤ 7227521; omega⟩ hS (by have hz9 := hS.1; rintro q9 (h9 | h9) <;> first | exact h9.elim | (have h8 : r ≤ q9 ∧ q9 < r + 16 := h9; show xb ≤ q9; omega) | (have h8 : ((xb ≤ q9 ∧ q9 < xb + 68) ∨ lim ≤ q9) ∨ q9 = ob := h9; show xb ≤ q9; omega) | (have h8 : (xb ≤ q9 ∧ q9 < xb + 68) ∨ lim ≤ q9 := h9; show xb ≤ q9; omega) | (show xb ≤ q9; omega)) (fun v H1 locs hpo hfr hS => ?_)
  obtain ⟨rfl, hR⟩ := hpo
  have hC := hC.keptM hfr (fun a9 y9 => by first | exact y9.elim | (have y8 : r ≤ a9 ∧ a9 < r + 16 := y9; omega))
  have hO := Fr.keep hfr hO (fun y9 => by first | exact y9.elim | (have y8 : r ≤ ob ∧ ob < r + 16 := y9; omega) | (have y8 : (xb ≤ ob ∧ ob < xb + 68) ∨ lim ≤ ob := y9; omega))
  generalize H1 = H at hfr hS hX hC hO hR ⊢
  refine W.widen (k := ce7) (n := sn7) (by show (ce7) + 0 ≤ ce7; omega) (by show (sn7) + 0 ≤ sn7; omega) ?_
  refine lv_istore (lv' := [(6, .int (misR q s0 c0)), (5, .int (nI 0)), (0, .ref b), (1, .ref xb), (2, .ref r), (3, .ref ob), (4, .int (nI (4 * i9)))]) hx hb dL_law_1297 hl (by decide) rfl (fun ls hl => ?_)
  refine lv_aload_n hx hb dL_law_1299 rfl (lv_at hl 4 rfl) ?_
  refine cl_L_102 (As := []) (rest := []) hB (c_X11_thrown l g H r q zsp rm (nI n) sl sv tx (nI ln) (nI 0) zsg zbg zwd zhg zin zop zbe zwi zhi zbk zot zer zen zpo zpi zgr zsh zsn hR) hR.o rfl hl.1 (Nat.le_of_ble_eq_true rfl) dL_law_1300 ⟨Nat.le_of_ble_eq_true rfl, Nat.le_of_ble_eq_true rfl⟩ ⟨by show (ce7) + 0 ≤ 622861; omega, by show (sn7) + 0 ≤ 7227521; omega⟩ hS (by have hz9 := hS.1; rintro q9 (h9 | h9) <;> first | exact h9.elim | (have h8 : r ≤ q9 ∧ q9 < r + 16 := h9; show xb ≤ q9; omega) | (have h8 : ((xb ≤ q9 ∧ q9 < xb + 68) ∨ lim ≤ q9) ∨ q9 = ob := h9; show xb ≤ q9; omega) | (have h8 : (xb ≤ q9 ∧ q9 < xb + 68) ∨ lim ≤ q9 := h9; show xb ≤ q9; omega) | (show xb ≤ q9; omega)) (fun v H1 locs hpo hfr hS => ?_)
  obtain ⟨rfl, rfl⟩ := hpo
  refine W.widen (k := ce7) (n := sn7) (by show (ce7) + 0 ≤ ce7; omega) (by show (sn7) + 0 ≤ sn7; omega) ?_
  refine lv_iload hx hb dL_law_1303 (lv_at hl 1 rfl) ?_
  refine lv_icmp_eq (tgt := 1310) hx hb dL_law_1305 (by decide) (fun h_1305 => ?_) (fun h9 => absurd rfl h9)
  refine lv_iload hx hb dL_law_1310 (lv_at hl 1 rfl) ?_
  refine mn_if_ne (tgt := 1327) hB dL_law_1312 (by decide) (by omega) (fun h => by exfalso; omega) (fun h_1312 => ?_)
  refine lv_aload_n hx hb dL_law_1315 rfl (lv_at hl 5 rfl) ?_
  refine lv_iconst (v := nI 0) hx hb dL_law_1316 (by decide) ?_
  refine mn_lald hB hO (by omega) (by omega) dL_law_1317 ?_
  refine mh_top (y := .long ((misR q s0 c0).toInt64)) (rfl) ?_
  refine lv_iload hx hb dL_law_1318 (lv_at hl 0 rfl) ?_
  refine lv_i2l (v := (misR q s0 c0).toInt64) hx hb dL_law_1320 rfl ?_
  refine W.lcmp hx hb dL_law_1321 ?_
  refine ml_if_eq (tgt := 1327) hB dL_law_1322 (by decide) (fun h_1322 => ?_) (fun h => absurd rfl h)
  refine lv_goto (tgt := 1803) hx hb dL_law_1327 (by decide) ?_
  refine W.widen (k := ce7 + 30) (n := sn7 + 1100) (by omega) (by omega) ?_
  exact kk _ _ _ ⟨hC, ⟨_, _, _, _, _, _, _, _, _, _, _, _, _, _, _, _, _, _, _, _, hR⟩, ⟨_, hO⟩, hTx⟩ hS (lv_sub hl [2, 3, 4, 5, 6] rfl)

set_option maxRecDepth 100000 in
set_option maxHeartbeats 800000 in
theorem s_canFinish_ok {p : Program} {l : Launch} {e : Env} {s : State} {m : MethodId} {args : Array Value} {below : List Frame} {meth : Method} {c : Code} {H : Heap} {locs : List Loc} {ce7 sn7 : Nat} {Q : State → Prop} {g : GG} {b L xb r ob lim : Nat} {xs : Nat → Int32} {i9 : Nat} {ls : Array Slot} {q : Nat → Int32} {n : Nat} {rm sl sv tx : Nat → Int32} {ln : Nat} {zsp : Nat → Int32} {zth : Int32} {zsg : Nat → Int32} {zbg : Nat → Int32} {zwd : Nat → Int32} {zhg : Nat → Int32} {zin : Nat → Int32} {zop : Int32} {zbe : Int32} {zwi : Int32} {zhi : Int32} {zbk : Nat → Int32} {zot : Nat → Int32} {zer : Int32} {zen : Int32} {zpo : Nat → Int32} {zpi : Int32} {zgr : Int32} {zsh : Nat → Int32} {zsn : Int32} {o : Nat → Int64} (hfl : l.stackTraces = false) (hE : LE p s m meth c g b L xs xb r ob lim) (hi : 4 * i9 + 3 < L) (hC : CLS g xb lim q n rm sl sv tx ln H) (hR : ModAt g r q zsp rm (nI n) sl sv tx (nI ln) zth zsg zbg zwd zhg zin zop zbe zwi zhi zbk zot zer zen zpo zpi zgr zsh zsn H) (hO : at_ g H ob (eL g 1 o)) (hTx : TxT tx ln) (hS : va_S (fun q9 => xb ≤ q9) s.heap H locs) (hl : lv_has ls 7 [(0, .ref b), (1, .ref xb), (2, .ref r), (3, .ref ob), (4, .int (nI (4 * i9)))]) (hce7 : ce7 + 30 ≤ 622861) (hsn7 : sn7 + 1100 ≤ 7227521) (kk : ∀ (H1 : Heap) (locs1 : List Loc) (ls1 : Array Slot), LI g xb r ob lim q n rm sl sv tx ln H1 → va_S (fun q9 => xb ≤ q9) s.heap H1 locs1 → lv_has ls1 7 [(0, .ref b), (1, .ref xb), (2, .ref r), (3, .ref ob), (4, .int (nI (4 * i9)))] → W p l e room_1 s m args below meth c H1 locs1 (ce7 + 30) (sn7 + 1100) Q (F0 m 1803 ls1 [])) : W p l e room_1 s m args below meth c H locs ce7 sn7 Q (F0 m 1330 ls []) := by
  obtain ⟨hB, hZ9, hX, hbl, hL9, hxs, hr9, hob9, hlm9⟩ := hE
  have hx := hB.x
  have hb := hB.b
  have hbA : ¬ (fun q9 => xb ≤ q9) b := fun y9 => by have y8 : xb ≤ b := y9; omega
  have hW := hC.wf
  have hn14 := hC.n14
  have hl6c := hC.l60
  have hnm5 := hW.2.2.1
  refine lv_aload_n hx hb dL_law_1330 rfl (lv_at hl 1 rfl) ?_
  refine cl_L_169 (As := []) (rest := []) hB (f_X10_canFinish l g H xb lim q n rm sl sv tx ln (hC)) hC.ob rfl hl.1 (Nat.le_of_ble_eq_true rfl) dL_law_1331 ⟨Nat.le_of_ble_eq_true rfl, Nat.le_of_ble_eq_true rfl⟩ ⟨by show (ce7) + 0 ≤ 622861; omega, by show (sn7) + 0 ≤ 7227521; omega⟩ hS (by have hz9 := hS.1; rintro q9 (h9 | h9) <;> first | exact h9.elim | (have h8 : r ≤ q9 ∧ q9 < r + 16 := h9; show xb ≤ q9; omega) | (have h8 : ((xb ≤ q9 ∧ q9 < xb + 68) ∨ lim ≤ q9) ∨ q9 = ob := h9; show xb ≤ q9; omega) | (have h8 : (xb ≤ q9 ∧ q9 < xb + 68) ∨ lim ≤ q9 := h9; show xb ≤ q9; omega) | (show xb ≤ q9; omega)) (fun v H1 locs hpo hfr hS => ?_)
  obtain ⟨rfl, rfl⟩ := hpo
  refine W.widen (k := ce7) (n := sn7) (by show (ce7) + 0 ≤ ce7; omega) (by show (sn7) + 0 ≤ sn7; omega) ?_
  refine lv_aload_n hx hb dL_law_1334 rfl (lv_at hl 2 rfl) ?_
  refine cl_L_172 (As := []) (rest := [.int (nI ((cfB q 7).1))]) hB (c_X11_canFinish l g H r q zsp rm (nI n) sl sv tx (nI ln) zth zsg zbg zwd zhg zin zop zbe zwi zhi zbk zot zer zen zpo zpi zgr zsh zsn hR (by first | assumption | omega)) hR.o rfl hl.1 (Nat.le_of_ble_eq_true rfl) dL_law_1335 ⟨Nat.le_of_ble_eq_true rfl, Nat.le_of_ble_eq_true rfl⟩ ⟨by show (ce7) + 0 ≤ 622861; omega, by show (sn7) + 0 ≤ 7227521; omega⟩ hS (by have hz9 := hS.1; rintro q9 (h9 | h9) <;> first | exact h9.elim | (have h8 : r ≤ q9 ∧ q9 < r + 16 := h9; show xb ≤ q9; omega) | (have h8 : ((xb ≤ q9 ∧ q9 < xb + 68) ∨ lim ≤ q9) ∨ q9 = ob := h9; show xb ≤ q9; omega) | (have h8 : (xb ≤ q9 ∧ q9 < xb + 68) ∨ lim ≤ q9 := h9; show xb ≤ q9; omega) | (show xb ≤ q9; omega)) (fun v H1 locs hpo hfr hS => ?_)
  obtain ⟨rfl, hR⟩ := hpo
  have hC := hC.keptM hfr (fun a9 y9 => by first | exact y9.elim | (have y8 : r ≤ a9 ∧ a9 < r + 16 := y9; omega))
  have hO := Fr.keep hfr hO (fun y9 => by first | exact y9.elim | (have y8 : r ≤ ob ∧ ob < r + 16 := y9; omega) | (have y8 : (xb ≤ ob ∧ ob < xb + 68) ∨ lim ≤ ob := y9; omega))
  generalize H1 = H at hfr hS hC hO hX hR ⊢
  refine W.widen (k := ce7) (n := sn7) (by show (ce7) + 0 ≤ ce7; omega) (by show (sn7) + 0 ≤ sn7; omega) ?_
  refine lv_icmp_eq (tgt := 1803) hx hb dL_law_1338 (by decide) (fun h_1338 => ?_) (fun h9 => absurd rfl h9)
  refine W.widen (k := ce7 + 30) (n := sn7 + 1100) (by omega) (by omega) ?_
  exact kk _ _ _ ⟨hC, ⟨_, _, _, _, _, _, _, _, _, _, _, _, _, _, _, _, _, _, _, _, hR⟩, ⟨_, hO⟩, hTx⟩ hS (lv_sub hl [0, 1, 2, 3, 4] rfl)

set_option maxRecDepth 100000 in
set_option maxHeartbeats 800000 in
theorem s_wouldGet_t1 {p : Program} {l : Launch} {e : Env} {s : State} {m : MethodId} {args : Array Value} {below : List Frame} {meth : Method} {c : Code} {H : Heap} {locs : List Loc} {ce7 sn7 : Nat} {Q : State → Prop} {g : GG} {b L xb r ob lim : Nat} {xs : Nat → Int32} {i9 : Nat} {ls : Array Slot} {q : Nat → Int32} {n : Nat} {rm sl sv tx : Nat → Int32} {ln : Nat} {zsp : Nat → Int32} {zth : Int32} {zsg : Nat → Int32} {zbg : Nat → Int32} {zwd : Nat → Int32} {zhg : Nat → Int32} {zin : Nat → Int32} {zop : Int32} {zbe : Int32} {zwi : Int32} {zhi : Int32} {zbk : Nat → Int32} {zot : Nat → Int32} {zer : Int32} {zen : Int32} {zpo : Nat → Int32} {zpi : Int32} {zgr : Int32} {zsh : Nat → Int32} {zsn : Int32} {o : Nat → Int64} (hfl : l.stackTraces = false) (hE : LE p s m meth c g b L xs xb r ob lim) (hi : 4 * i9 + 3 < L) (hC : CLS g xb lim q n rm sl sv tx ln H) (hR : ModAt g r q zsp rm (nI n) sl sv tx (nI ln) zth zsg zbg zwd zhg zin zop zbe zwi zhi zbk zot zer zen zpo zpi zgr zsh zsn H) (hO : at_ g H ob (eL g 1 o)) (hTx : TxT tx ln) (hS : va_S (fun q9 => xb ≤ q9) s.heap H locs) (hl : lv_has ls 7 [(0, .ref b), (1, .ref xb), (2, .ref r), (3, .ref ob), (4, .int (nI (4 * i9)))]) (hce7 : ce7 + 30 ≤ 622861) (hsn7 : sn7 + 1100 ≤ 7227521) (x : Int32) (y : Int32) (z : Int32) (a1 : xs (4 * i9 + 1) = x) (a2 : xs (4 * i9 + 2) = y) (a3 : xs (4 * i9 + 3) = z) (hx1 : isIx x 3 = false) (kk : ∀ (H1 : Heap) (locs1 : List Loc) (ls1 : Array Slot), LI g xb r ob lim q n rm sl sv tx ln H1 → va_S (fun q9 => xb ≤ q9) s.heap H1 locs1 → lv_has ls1 7 [(0, .ref b), (1, .ref xb), (2, .ref r), (3, .ref ob), (4, .int (nI (4 * i9)))] → W p l e room_1 s m args below meth c H1 locs1 (ce7 + 30) (sn7 + 1100) Q (F0 m 1803 ls1 [])) : W p l e room_1 s m args below meth c H locs ce7 sn7 Q (F0 m 1343 ls []) := by
  obtain ⟨hB, hZ9, hX, hbl, hL9, hxs, hr9, hob9, hlm9⟩ := hE
  have hx := hB.x
  have hb := hB.b
  have hbA : ¬ (fun q9 => xb ≤ q9) b := fun y9 => by have y8 : xb ≤ b := y9; omega
  have hW := hC.wf
  have hn14 := hC.n14
  have hl6c := hC.l60
  have hnm5 := hW.2.2.1
  refine lv_aload_n hx hb dL_law_1343 rfl (lv_at hl 1 rfl) ?_
  refine lv_aload_n hx hb dL_law_1344 rfl (lv_at hl 0 rfl) ?_
  refine lv_iload hx hb dL_law_1345 (lv_at hl 4 rfl) ?_
  refine lv_iconst (v := nI 1) hx hb dL_law_1347 (by decide) ?_
  refine mn_iadd hB dL_law_1348 ?_
  refine va_sld hx hb hX hbl hbA hS (vp_in_nI (by omega) (by omega)) dL_law_1349 ?_
  refine mh_top (y := .int x) (by rw [nI_clamp (by omega), a1]) ?_
  refine lv_aload_n hx hb dL_law_1350 rfl (lv_at hl 0 rfl) ?_
  refine lv_iload hx hb dL_law_1351 (lv_at hl 4 rfl) ?_
  refine lv_iconst (v := nI 2) hx hb dL_law_1353 (by decide) ?_
  refine mn_iadd hB dL_law_1354 ?_
  refine va_sld hx hb hX hbl hbA hS (vp_in_nI (by omega) (by omega)) dL_law_1355 ?_
  refine mh_top (y := .int y) (by rw [nI_clamp (by omega), a2]) ?_
  refine lv_aload_n hx hb dL_law_1356 rfl (lv_at hl 0 rfl) ?_
  refine lv_iload hx hb dL_law_1357 (lv_at hl 4 rfl) ?_
  refine lv_iconst (v := nI 3) hx hb dL_law_1359 (by decide) ?_
  refine mn_iadd hB dL_law_1360 ?_
  refine va_sld hx hb hX hbl hbA hS (vp_in_nI (by omega) (by omega)) dL_law_1361 ?_
  refine mh_top (y := .int z) (by rw [nI_clamp (by omega), a3]) ?_
  refine lv_aload_n hx hb dL_law_1362 rfl (lv_at hl 3 rfl) ?_
  refine cw_173 (As := [.ref xb, .int x, .int y, .int z, .ref ob]) (rest := []) hB (hZ9.at hS (fun _ h9 => h9)) (w_wouldGet_t1 l g H xb lim q n rm sl sv tx ln x y z ob o (hC) (hO) (hx1) (⟨by omega, by omega⟩) (hfl)) rfl hl.1 (Nat.le_of_ble_eq_true rfl) dL_law_1363 ⟨Nat.le_of_ble_eq_true rfl, Nat.le_of_ble_eq_true rfl⟩ ⟨by show (ce7) + 1 ≤ 622861; omega, by show (sn7) + 6 ≤ 7227521; omega⟩ hS (by have hz9 := hS.1; rintro q9 (h9 | h9) <;> first | exact h9.elim | (have h8 : r ≤ q9 ∧ q9 < r + 16 := h9; show xb ≤ q9; omega) | (have h8 : ((xb ≤ q9 ∧ q9 < xb + 68) ∨ lim ≤ q9) ∨ q9 = ob := h9; show xb ≤ q9; omega) | (have h8 : (xb ≤ q9 ∧ q9 < xb + 68) ∨ lim ≤ q9 := h9; show xb ≤ q9; omega) | (show xb ≤ q9; omega)) (fun v H1 locs hpo hfr hS => ?_)
  obtain ⟨rfl, hC, hO⟩ := hpo
  have hR := hR.keptF hfr (fun q9 h1 h2 y9 => by first | exact y9.elim | (have y8 : ((xb ≤ q9 ∧ q9 < xb + 68) ∨ lim ≤ q9) ∨ q9 = ob := y9; omega) | (have y8 : (xb ≤ q9 ∧ q9 < xb + 68) ∨ lim ≤ q9 := y9; omega))
  generalize H1 = H at hfr hS hR hX hC hO ⊢
  refine W.widen (k := ce7 + 1) (n := sn7 + 6) (by show (ce7) + 1 ≤ ce7 + 1; omega) (by show (sn7) + 6 ≤ sn7 + 6; omega) ?_
  refine lv_istore (lv' := [(5, .int (nI 1)), (0, .ref b), (1, .ref xb), (2, .ref r), (3, .ref ob), (4, .int (nI (4 * i9)))]) hx hb dL_law_1366 hl (by decide) rfl (fun ls hl => ?_)
  refine lv_aload_n hx hb dL_law_1368 rfl (lv_at hl 3 rfl) ?_
  refine lv_aload_n hx hb dL_law_1369 rfl (lv_at hl 1 rfl) ?_
  refine lv_iload hx hb dL_law_1370 (lv_at hl 5 rfl) ?_
  refine lv_iconst (v := nI 1) hx hb dL_law_1372 (by decide) ?_
  refine mn_iadd hB dL_law_1373 ?_
  refine va_sld hx hb hX hbl hbA hS (vp_in_nI (by omega) (by omega)) dL_law_1374 ?_
  refine mh_top (y := .int x) (by rw [nI_clamp (by omega), a1]) ?_
  refine lv_aload_n hx hb dL_law_1375 rfl (lv_at hl 1 rfl) ?_
  refine lv_iload hx hb dL_law_1376 (lv_at hl 5 rfl) ?_
  refine lv_iconst (v := nI 2) hx hb dL_law_1378 (by decide) ?_
  refine mn_iadd hB dL_law_1379 ?_
  refine va_sld hx hb hX hbl hbA hS (vp_in_nI (by omega) (by omega)) dL_law_1380 ?_
  refine mh_top (y := .int y) (by rw [nI_clamp (by omega), a2]) ?_
  refine lv_aload_n hx hb dL_law_1381 rfl (lv_at hl 1 rfl) ?_
  refine lv_iload hx hb dL_law_1382 (lv_at hl 5 rfl) ?_
  refine lv_iconst (v := nI 3) hx hb dL_law_1384 (by decide) ?_
  refine mn_iadd hB dL_law_1385 ?_
  refine va_sld hx hb hX hbl hbA hS (vp_in_nI (by omega) (by omega)) dL_law_1386 ?_
  refine mh_top (y := .int z) (by rw [nI_clamp (by omega), a3]) ?_
  refine cl_L_175 (As := [.int x, .int y, .int z]) (rest := []) hB (c_X11_wouldGet_t1 l g H r q zsp rm (nI n) sl sv tx (nI ln) zth zsg zbg zwd zhg zin zop zbe zwi zhi zbk zot zer zen zpo zpi zgr zsh zsn x y z hR (by first | assumption | omega) (Or.inl hx1)) hR.o rfl hl.1 (Nat.le_of_ble_eq_true rfl) dL_law_1387 ⟨Nat.le_of_ble_eq_true rfl, Nat.le_of_ble_eq_true rfl⟩ ⟨by show (ce7 + 1) + 0 ≤ 622861; omega, by show (sn7 + 6) + 0 ≤ 7227521; omega⟩ hS (by have hz9 := hS.1; rintro q9 (h9 | h9) <;> first | exact h9.elim | (have h8 : r ≤ q9 ∧ q9 < r + 16 := h9; show xb ≤ q9; omega) | (have h8 : ((xb ≤ q9 ∧ q9 < xb + 68) ∨ lim ≤ q9) ∨ q9 = ob := h9; show xb ≤ q9; omega) | (have h8 : (xb ≤ q9 ∧ q9 < xb + 68) ∨ lim ≤ q9 := h9; show xb ≤ q9; omega) | (show xb ≤ q9; omega)) (fun v H1 locs hpo hfr hS => ?_)
  obtain ⟨rfl, hR⟩ := hpo
  have hC := hC.keptM hfr (fun a9 y9 => by first | exact y9.elim | (have y8 : r ≤ a9 ∧ a9 < r + 16 := y9; omega))
  have hO := Fr.keep hfr hO (fun y9 => by first | exact y9.elim | (have y8 : r ≤ ob ∧ ob < r + 16 := y9; omega) | (have y8 : (xb ≤ ob ∧ ob < xb + 68) ∨ lim ≤ ob := y9; omega))
  generalize H1 = H at hfr hS hX hC hO hR ⊢
  refine W.widen (k := ce7 + 1) (n := sn7 + 6) (by show (ce7 + 1) + 0 ≤ ce7 + 1; omega) (by show (sn7 + 6) + 0 ≤ sn7 + 6; omega) ?_
  refine lv_istore (lv' := [(6, .int (nI 0)), (5, .int (nI 1)), (0, .ref b), (1, .ref xb), (2, .ref r), (3, .ref ob), (4, .int (nI (4 * i9)))]) hx hb dL_law_1390 hl (by decide) rfl (fun ls hl => ?_)
  refine lv_aload_n hx hb dL_law_1392 rfl (lv_at hl 4 rfl) ?_
  refine cl_L_102 (As := []) (rest := []) hB (c_X11_thrown l g H r q zsp rm (nI n) sl sv tx (nI ln) (nI 1) zsg zbg zwd zhg zin zop zbe zwi zhi zbk zot zer zen zpo zpi zgr zsh zsn hR) hR.o rfl hl.1 (Nat.le_of_ble_eq_true rfl) dL_law_1393 ⟨Nat.le_of_ble_eq_true rfl, Nat.le_of_ble_eq_true rfl⟩ ⟨by show (ce7 + 1) + 0 ≤ 622861; omega, by show (sn7 + 6) + 0 ≤ 7227521; omega⟩ hS (by have hz9 := hS.1; rintro q9 (h9 | h9) <;> first | exact h9.elim | (have h8 : r ≤ q9 ∧ q9 < r + 16 := h9; show xb ≤ q9; omega) | (have h8 : ((xb ≤ q9 ∧ q9 < xb + 68) ∨ lim ≤ q9) ∨ q9 = ob := h9; show xb ≤ q9; omega) | (have h8 : (xb ≤ q9 ∧ q9 < xb + 68) ∨ lim ≤ q9 := h9; show xb ≤ q9; omega) | (show xb ≤ q9; omega)) (fun v H1 locs hpo hfr hS => ?_)
  obtain ⟨rfl, rfl⟩ := hpo
  refine W.widen (k := ce7 + 1) (n := sn7 + 6) (by show (ce7 + 1) + 0 ≤ ce7 + 1; omega) (by show (sn7 + 6) + 0 ≤ sn7 + 6; omega) ?_
  refine lv_iload hx hb dL_law_1396 (lv_at hl 1 rfl) ?_
  refine lv_icmp_eq (tgt := 1403) hx hb dL_law_1398 (by decide) (fun h_1398 => ?_) (fun h9 => absurd rfl h9)
  refine lv_iload hx hb dL_law_1403 (lv_at hl 1 rfl) ?_
  refine mn_if_ne (tgt := 1420) hB dL_law_1405 (by decide) (by omega) (fun h_1405 => ?_) (fun h => by exfalso; omega)
  refine lv_goto (tgt := 1803) hx hb dL_law_1420 (by decide) ?_
  refine W.widen (k := ce7 + 30) (n := sn7 + 1100) (by omega) (by omega) ?_
  exact kk _ _ _ ⟨hC, ⟨_, _, _, _, _, _, _, _, _, _, _, _, _, _, _, _, _, _, _, _, hR⟩, ⟨_, hO⟩, hTx⟩ hS (lv_sub hl [2, 3, 4, 5, 6] rfl)

set_option maxRecDepth 100000 in
set_option maxHeartbeats 800000 in
theorem s_wouldGet_t1b {p : Program} {l : Launch} {e : Env} {s : State} {m : MethodId} {args : Array Value} {below : List Frame} {meth : Method} {c : Code} {H : Heap} {locs : List Loc} {ce7 sn7 : Nat} {Q : State → Prop} {g : GG} {b L xb r ob lim : Nat} {xs : Nat → Int32} {i9 : Nat} {ls : Array Slot} {q : Nat → Int32} {n : Nat} {rm sl sv tx : Nat → Int32} {ln : Nat} {zsp : Nat → Int32} {zth : Int32} {zsg : Nat → Int32} {zbg : Nat → Int32} {zwd : Nat → Int32} {zhg : Nat → Int32} {zin : Nat → Int32} {zop : Int32} {zbe : Int32} {zwi : Int32} {zhi : Int32} {zbk : Nat → Int32} {zot : Nat → Int32} {zer : Int32} {zen : Int32} {zpo : Nat → Int32} {zpi : Int32} {zgr : Int32} {zsh : Nat → Int32} {zsn : Int32} {o : Nat → Int64} (hfl : l.stackTraces = false) (hE : LE p s m meth c g b L xs xb r ob lim) (hi : 4 * i9 + 3 < L) (hC : CLS g xb lim q n rm sl sv tx ln H) (hR : ModAt g r q zsp rm (nI n) sl sv tx (nI ln) zth zsg zbg zwd zhg zin zop zbe zwi zhi zbk zot zer zen zpo zpi zgr zsh zsn H) (hO : at_ g H ob (eL g 1 o)) (hTx : TxT tx ln) (hS : va_S (fun q9 => xb ≤ q9) s.heap H locs) (hl : lv_has ls 7 [(0, .ref b), (1, .ref xb), (2, .ref r), (3, .ref ob), (4, .int (nI (4 * i9)))]) (hce7 : ce7 + 30 ≤ 622861) (hsn7 : sn7 + 1100 ≤ 7227521) (f : Nat) (y : Int32) (z : Int32) (a1 : xs (4 * i9 + 1) = nI f) (a2 : xs (4 * i9 + 2) = y) (a3 : xs (4 * i9 + 3) = z) (hf : f < 3) (hx1 : isIx y (nmQ q) = false) (kk : ∀ (H1 : Heap) (locs1 : List Loc) (ls1 : Array Slot), LI g xb r ob lim q n rm sl sv tx ln H1 → va_S (fun q9 => xb ≤ q9) s.heap H1 locs1 → lv_has ls1 7 [(0, .ref b), (1, .ref xb), (2, .ref r), (3, .ref ob), (4, .int (nI (4 * i9)))] → W p l e room_1 s m args below meth c H1 locs1 (ce7 + 30) (sn7 + 1100) Q (F0 m 1803 ls1 [])) : W p l e room_1 s m args below meth c H locs ce7 sn7 Q (F0 m 1343 ls []) := by
  obtain ⟨hB, hZ9, hX, hbl, hL9, hxs, hr9, hob9, hlm9⟩ := hE
  have hx := hB.x
  have hb := hB.b
  have hbA : ¬ (fun q9 => xb ≤ q9) b := fun y9 => by have y8 : xb ≤ b := y9; omega
  have hW := hC.wf
  have hn14 := hC.n14
  have hl6c := hC.l60
  have hnm5 := hW.2.2.1
  refine lv_aload_n hx hb dL_law_1343 rfl (lv_at hl 1 rfl) ?_
  refine lv_aload_n hx hb dL_law_1344 rfl (lv_at hl 0 rfl) ?_
  refine lv_iload hx hb dL_law_1345 (lv_at hl 4 rfl) ?_
  refine lv_iconst (v := nI 1) hx hb dL_law_1347 (by decide) ?_
  refine mn_iadd hB dL_law_1348 ?_
  refine va_sld hx hb hX hbl hbA hS (vp_in_nI (by omega) (by omega)) dL_law_1349 ?_
  refine mh_top (y := .int (nI f)) (by rw [nI_clamp (by omega), a1]) ?_
  refine lv_aload_n hx hb dL_law_1350 rfl (lv_at hl 0 rfl) ?_
  refine lv_iload hx hb dL_law_1351 (lv_at hl 4 rfl) ?_
  refine lv_iconst (v := nI 2) hx hb dL_law_1353 (by decide) ?_
  refine mn_iadd hB dL_law_1354 ?_
  refine va_sld hx hb hX hbl hbA hS (vp_in_nI (by omega) (by omega)) dL_law_1355 ?_
  refine mh_top (y := .int y) (by rw [nI_clamp (by omega), a2]) ?_
  refine lv_aload_n hx hb dL_law_1356 rfl (lv_at hl 0 rfl) ?_
  refine lv_iload hx hb dL_law_1357 (lv_at hl 4 rfl) ?_
  refine lv_iconst (v := nI 3) hx hb dL_law_1359 (by decide) ?_
  refine mn_iadd hB dL_law_1360 ?_
  refine va_sld hx hb hX hbl hbA hS (vp_in_nI (by omega) (by omega)) dL_law_1361 ?_
  refine mh_top (y := .int z) (by rw [nI_clamp (by omega), a3]) ?_
  refine lv_aload_n hx hb dL_law_1362 rfl (lv_at hl 3 rfl) ?_
  refine cw_173 (As := [.ref xb, .int (nI f), .int y, .int z, .ref ob]) (rest := []) hB (hZ9.at hS (fun _ h9 => h9)) (w_wouldGet_t1b l g H xb lim q n rm sl sv tx ln f y z ob o (hC) (hO) (hf) (hx1) (⟨by omega, by omega⟩) (hfl)) rfl hl.1 (Nat.le_of_ble_eq_true rfl) dL_law_1363 ⟨Nat.le_of_ble_eq_true rfl, Nat.le_of_ble_eq_true rfl⟩ ⟨by show (ce7) + 1 ≤ 622861; omega, by show (sn7) + 6 ≤ 7227521; omega⟩ hS (by have hz9 := hS.1; rintro q9 (h9 | h9) <;> first | exact h9.elim | (have h8 : r ≤ q9 ∧ q9 < r + 16 := h9; show xb ≤ q9; omega) | (have h8 : ((xb ≤ q9 ∧ q9 < xb + 68) ∨ lim ≤ q9) ∨ q9 = ob := h9; show xb ≤ q9; omega) | (have h8 : (xb ≤ q9 ∧ q9 < xb + 68) ∨ lim ≤ q9 := h9; show xb ≤ q9; omega) | (show xb ≤ q9; omega)) (fun v H1 locs hpo hfr hS => ?_)
  obtain ⟨rfl, hC, hO⟩ := hpo
  have hR := hR.keptF hfr (fun q9 h1 h2 y9 => by first | exact y9.elim | (have y8 : ((xb ≤ q9 ∧ q9 < xb + 68) ∨ lim ≤ q9) ∨ q9 = ob := y9; omega) | (have y8 : (xb ≤ q9 ∧ q9 < xb + 68) ∨ lim ≤ q9 := y9; omega))
  generalize H1 = H at hfr hS hR hX hC hO ⊢
  refine W.widen (k := ce7 + 1) (n := sn7 + 6) (by show (ce7) + 1 ≤ ce7 + 1; omega) (by show (sn7) + 6 ≤ sn7 + 6; omega) ?_
  refine lv_istore (lv' := [(5, .int (nI 1)), (0, .ref b), (1, .ref xb), (2, .ref r), (3, .ref ob), (4, .int (nI (4 * i9)))]) hx hb dL_law_1366 hl (by decide) rfl (fun ls hl => ?_)
  refine lv_aload_n hx hb dL_law_1368 rfl (lv_at hl 3 rfl) ?_
  refine lv_aload_n hx hb dL_law_1369 rfl (lv_at hl 1 rfl) ?_
  refine lv_iload hx hb dL_law_1370 (lv_at hl 5 rfl) ?_
  refine lv_iconst (v := nI 1) hx hb dL_law_1372 (by decide) ?_
  refine mn_iadd hB dL_law_1373 ?_
  refine va_sld hx hb hX hbl hbA hS (vp_in_nI (by omega) (by omega)) dL_law_1374 ?_
  refine mh_top (y := .int (nI f)) (by rw [nI_clamp (by omega), a1]) ?_
  refine lv_aload_n hx hb dL_law_1375 rfl (lv_at hl 1 rfl) ?_
  refine lv_iload hx hb dL_law_1376 (lv_at hl 5 rfl) ?_
  refine lv_iconst (v := nI 2) hx hb dL_law_1378 (by decide) ?_
  refine mn_iadd hB dL_law_1379 ?_
  refine va_sld hx hb hX hbl hbA hS (vp_in_nI (by omega) (by omega)) dL_law_1380 ?_
  refine mh_top (y := .int y) (by rw [nI_clamp (by omega), a2]) ?_
  refine lv_aload_n hx hb dL_law_1381 rfl (lv_at hl 1 rfl) ?_
  refine lv_iload hx hb dL_law_1382 (lv_at hl 5 rfl) ?_
  refine lv_iconst (v := nI 3) hx hb dL_law_1384 (by decide) ?_
  refine mn_iadd hB dL_law_1385 ?_
  refine va_sld hx hb hX hbl hbA hS (vp_in_nI (by omega) (by omega)) dL_law_1386 ?_
  refine mh_top (y := .int z) (by rw [nI_clamp (by omega), a3]) ?_
  refine cl_L_175 (As := [.int (nI f), .int y, .int z]) (rest := []) hB (c_X11_wouldGet_t1 l g H r q zsp rm (nI n) sl sv tx (nI ln) zth zsg zbg zwd zhg zin zop zbe zwi zhi zbk zot zer zen zpo zpi zgr zsh zsn (nI f) y z hR (by first | assumption | omega) (Or.inr hx1)) hR.o rfl hl.1 (Nat.le_of_ble_eq_true rfl) dL_law_1387 ⟨Nat.le_of_ble_eq_true rfl, Nat.le_of_ble_eq_true rfl⟩ ⟨by show (ce7 + 1) + 0 ≤ 622861; omega, by show (sn7 + 6) + 0 ≤ 7227521; omega⟩ hS (by have hz9 := hS.1; rintro q9 (h9 | h9) <;> first | exact h9.elim | (have h8 : r ≤ q9 ∧ q9 < r + 16 := h9; show xb ≤ q9; omega) | (have h8 : ((xb ≤ q9 ∧ q9 < xb + 68) ∨ lim ≤ q9) ∨ q9 = ob := h9; show xb ≤ q9; omega) | (have h8 : (xb ≤ q9 ∧ q9 < xb + 68) ∨ lim ≤ q9 := h9; show xb ≤ q9; omega) | (show xb ≤ q9; omega)) (fun v H1 locs hpo hfr hS => ?_)
  obtain ⟨rfl, hR⟩ := hpo
  have hC := hC.keptM hfr (fun a9 y9 => by first | exact y9.elim | (have y8 : r ≤ a9 ∧ a9 < r + 16 := y9; omega))
  have hO := Fr.keep hfr hO (fun y9 => by first | exact y9.elim | (have y8 : r ≤ ob ∧ ob < r + 16 := y9; omega) | (have y8 : (xb ≤ ob ∧ ob < xb + 68) ∨ lim ≤ ob := y9; omega))
  generalize H1 = H at hfr hS hX hC hO hR ⊢
  refine W.widen (k := ce7 + 1) (n := sn7 + 6) (by show (ce7 + 1) + 0 ≤ ce7 + 1; omega) (by show (sn7 + 6) + 0 ≤ sn7 + 6; omega) ?_
  refine lv_istore (lv' := [(6, .int (nI 0)), (5, .int (nI 1)), (0, .ref b), (1, .ref xb), (2, .ref r), (3, .ref ob), (4, .int (nI (4 * i9)))]) hx hb dL_law_1390 hl (by decide) rfl (fun ls hl => ?_)
  refine lv_aload_n hx hb dL_law_1392 rfl (lv_at hl 4 rfl) ?_
  refine cl_L_102 (As := []) (rest := []) hB (c_X11_thrown l g H r q zsp rm (nI n) sl sv tx (nI ln) (nI 1) zsg zbg zwd zhg zin zop zbe zwi zhi zbk zot zer zen zpo zpi zgr zsh zsn hR) hR.o rfl hl.1 (Nat.le_of_ble_eq_true rfl) dL_law_1393 ⟨Nat.le_of_ble_eq_true rfl, Nat.le_of_ble_eq_true rfl⟩ ⟨by show (ce7 + 1) + 0 ≤ 622861; omega, by show (sn7 + 6) + 0 ≤ 7227521; omega⟩ hS (by have hz9 := hS.1; rintro q9 (h9 | h9) <;> first | exact h9.elim | (have h8 : r ≤ q9 ∧ q9 < r + 16 := h9; show xb ≤ q9; omega) | (have h8 : ((xb ≤ q9 ∧ q9 < xb + 68) ∨ lim ≤ q9) ∨ q9 = ob := h9; show xb ≤ q9; omega) | (have h8 : (xb ≤ q9 ∧ q9 < xb + 68) ∨ lim ≤ q9 := h9; show xb ≤ q9; omega) | (show xb ≤ q9; omega)) (fun v H1 locs hpo hfr hS => ?_)
  obtain ⟨rfl, rfl⟩ := hpo
  refine W.widen (k := ce7 + 1) (n := sn7 + 6) (by show (ce7 + 1) + 0 ≤ ce7 + 1; omega) (by show (sn7 + 6) + 0 ≤ sn7 + 6; omega) ?_
  refine lv_iload hx hb dL_law_1396 (lv_at hl 1 rfl) ?_
  refine lv_icmp_eq (tgt := 1403) hx hb dL_law_1398 (by decide) (fun h_1398 => ?_) (fun h9 => absurd rfl h9)
  refine lv_iload hx hb dL_law_1403 (lv_at hl 1 rfl) ?_
  refine mn_if_ne (tgt := 1420) hB dL_law_1405 (by decide) (by omega) (fun h_1405 => ?_) (fun h => by exfalso; omega)
  refine lv_goto (tgt := 1803) hx hb dL_law_1420 (by decide) ?_
  refine W.widen (k := ce7 + 30) (n := sn7 + 1100) (by omega) (by omega) ?_
  exact kk _ _ _ ⟨hC, ⟨_, _, _, _, _, _, _, _, _, _, _, _, _, _, _, _, _, _, _, _, hR⟩, ⟨_, hO⟩, hTx⟩ hS (lv_sub hl [2, 3, 4, 5, 6] rfl)

set_option maxRecDepth 100000 in
set_option maxHeartbeats 800000 in
theorem s_wouldGet_t2 {p : Program} {l : Launch} {e : Env} {s : State} {m : MethodId} {args : Array Value} {below : List Frame} {meth : Method} {c : Code} {H : Heap} {locs : List Loc} {ce7 sn7 : Nat} {Q : State → Prop} {g : GG} {b L xb r ob lim : Nat} {xs : Nat → Int32} {i9 : Nat} {ls : Array Slot} {q : Nat → Int32} {n : Nat} {rm sl sv tx : Nat → Int32} {ln : Nat} {zsp : Nat → Int32} {zth : Int32} {zsg : Nat → Int32} {zbg : Nat → Int32} {zwd : Nat → Int32} {zhg : Nat → Int32} {zin : Nat → Int32} {zop : Int32} {zbe : Int32} {zwi : Int32} {zhi : Int32} {zbk : Nat → Int32} {zot : Nat → Int32} {zer : Int32} {zen : Int32} {zpo : Nat → Int32} {zpi : Int32} {zgr : Int32} {zsh : Nat → Int32} {zsn : Int32} {o : Nat → Int64} (hfl : l.stackTraces = false) (hE : LE p s m meth c g b L xs xb r ob lim) (hi : 4 * i9 + 3 < L) (hC : CLS g xb lim q n rm sl sv tx ln H) (hR : ModAt g r q zsp rm (nI n) sl sv tx (nI ln) zth zsg zbg zwd zhg zin zop zbe zwi zhi zbk zot zer zen zpo zpi zgr zsh zsn H) (hO : at_ g H ob (eL g 1 o)) (hTx : TxT tx ln) (hS : va_S (fun q9 => xb ≤ q9) s.heap H locs) (hl : lv_has ls 7 [(0, .ref b), (1, .ref xb), (2, .ref r), (3, .ref ob), (4, .int (nI (4 * i9)))]) (hce7 : ce7 + 30 ≤ 622861) (hsn7 : sn7 + 1100 ≤ 7227521) (f : Nat) (m0 : Nat) (z : Int32) (a1 : xs (4 * i9 + 1) = nI f) (a2 : xs (4 * i9 + 2) = nI m0) (a3 : xs (4 * i9 + 3) = z) (hf : f < 3) (hm : m0 < nmQ q) (hx1 : isIx z 10000 = false) (kk : ∀ (H1 : Heap) (locs1 : List Loc) (ls1 : Array Slot), LI g xb r ob lim q n rm sl sv tx ln H1 → va_S (fun q9 => xb ≤ q9) s.heap H1 locs1 → lv_has ls1 7 [(0, .ref b), (1, .ref xb), (2, .ref r), (3, .ref ob), (4, .int (nI (4 * i9)))] → W p l e room_1 s m args below meth c H1 locs1 (ce7 + 30) (sn7 + 1100) Q (F0 m 1803 ls1 [])) : W p l e room_1 s m args below meth c H locs ce7 sn7 Q (F0 m 1343 ls []) := by
  obtain ⟨hB, hZ9, hX, hbl, hL9, hxs, hr9, hob9, hlm9⟩ := hE
  have hx := hB.x
  have hb := hB.b
  have hbA : ¬ (fun q9 => xb ≤ q9) b := fun y9 => by have y8 : xb ≤ b := y9; omega
  have hW := hC.wf
  have hn14 := hC.n14
  have hl6c := hC.l60
  have hnm5 := hW.2.2.1
  refine lv_aload_n hx hb dL_law_1343 rfl (lv_at hl 1 rfl) ?_
  refine lv_aload_n hx hb dL_law_1344 rfl (lv_at hl 0 rfl) ?_
  refine lv_iload hx hb dL_law_1345 (lv_at hl 4 rfl) ?_
  refine lv_iconst (v := nI 1) hx hb dL_law_1347 (by decide) ?_
  refine mn_iadd hB dL_law_1348 ?_
  refine va_sld hx hb hX hbl hbA hS (vp_in_nI (by omega) (by omega)) dL_law_1349 ?_
  refine mh_top (y := .int (nI f)) (by rw [nI_clamp (by omega), a1]) ?_
  refine lv_aload_n hx hb dL_law_1350 rfl (lv_at hl 0 rfl) ?_
  refine lv_iload hx hb dL_law_1351 (lv_at hl 4 rfl) ?_
  refine lv_iconst (v := nI 2) hx hb dL_law_1353 (by decide) ?_
  refine mn_iadd hB dL_law_1354 ?_
  refine va_sld hx hb hX hbl hbA hS (vp_in_nI (by omega) (by omega)) dL_law_1355 ?_
  refine mh_top (y := .int (nI m0)) (by rw [nI_clamp (by omega), a2]) ?_
  refine lv_aload_n hx hb dL_law_1356 rfl (lv_at hl 0 rfl) ?_
  refine lv_iload hx hb dL_law_1357 (lv_at hl 4 rfl) ?_
  refine lv_iconst (v := nI 3) hx hb dL_law_1359 (by decide) ?_
  refine mn_iadd hB dL_law_1360 ?_
  refine va_sld hx hb hX hbl hbA hS (vp_in_nI (by omega) (by omega)) dL_law_1361 ?_
  refine mh_top (y := .int z) (by rw [nI_clamp (by omega), a3]) ?_
  refine lv_aload_n hx hb dL_law_1362 rfl (lv_at hl 3 rfl) ?_
  refine cw_173 (As := [.ref xb, .int (nI f), .int (nI m0), .int z, .ref ob]) (rest := []) hB (hZ9.at hS (fun _ h9 => h9)) (w_wouldGet_t2 l g H xb lim q n rm sl sv tx ln f m0 z ob o (hC) (hO) (hf) (hm) (hx1) (⟨by omega, by omega⟩) (hfl)) rfl hl.1 (Nat.le_of_ble_eq_true rfl) dL_law_1363 ⟨Nat.le_of_ble_eq_true rfl, Nat.le_of_ble_eq_true rfl⟩ ⟨by show (ce7) + 1 ≤ 622861; omega, by show (sn7) + 6 ≤ 7227521; omega⟩ hS (by have hz9 := hS.1; rintro q9 (h9 | h9) <;> first | exact h9.elim | (have h8 : r ≤ q9 ∧ q9 < r + 16 := h9; show xb ≤ q9; omega) | (have h8 : ((xb ≤ q9 ∧ q9 < xb + 68) ∨ lim ≤ q9) ∨ q9 = ob := h9; show xb ≤ q9; omega) | (have h8 : (xb ≤ q9 ∧ q9 < xb + 68) ∨ lim ≤ q9 := h9; show xb ≤ q9; omega) | (show xb ≤ q9; omega)) (fun v H1 locs hpo hfr hS => ?_)
  obtain ⟨rfl, hC, hO⟩ := hpo
  have hR := hR.keptF hfr (fun q9 h1 h2 y9 => by first | exact y9.elim | (have y8 : ((xb ≤ q9 ∧ q9 < xb + 68) ∨ lim ≤ q9) ∨ q9 = ob := y9; omega) | (have y8 : (xb ≤ q9 ∧ q9 < xb + 68) ∨ lim ≤ q9 := y9; omega))
  generalize H1 = H at hfr hS hR hX hC hO ⊢
  refine W.widen (k := ce7 + 1) (n := sn7 + 6) (by show (ce7) + 1 ≤ ce7 + 1; omega) (by show (sn7) + 6 ≤ sn7 + 6; omega) ?_
  refine lv_istore (lv' := [(5, .int (nI 2)), (0, .ref b), (1, .ref xb), (2, .ref r), (3, .ref ob), (4, .int (nI (4 * i9)))]) hx hb dL_law_1366 hl (by decide) rfl (fun ls hl => ?_)
  refine lv_aload_n hx hb dL_law_1368 rfl (lv_at hl 3 rfl) ?_
  refine lv_aload_n hx hb dL_law_1369 rfl (lv_at hl 1 rfl) ?_
  refine lv_iload hx hb dL_law_1370 (lv_at hl 5 rfl) ?_
  refine lv_iconst (v := nI 1) hx hb dL_law_1372 (by decide) ?_
  refine mn_iadd hB dL_law_1373 ?_
  refine va_sld hx hb hX hbl hbA hS (vp_in_nI (by omega) (by omega)) dL_law_1374 ?_
  refine mh_top (y := .int (nI f)) (by rw [nI_clamp (by omega), a1]) ?_
  refine lv_aload_n hx hb dL_law_1375 rfl (lv_at hl 1 rfl) ?_
  refine lv_iload hx hb dL_law_1376 (lv_at hl 5 rfl) ?_
  refine lv_iconst (v := nI 2) hx hb dL_law_1378 (by decide) ?_
  refine mn_iadd hB dL_law_1379 ?_
  refine va_sld hx hb hX hbl hbA hS (vp_in_nI (by omega) (by omega)) dL_law_1380 ?_
  refine mh_top (y := .int (nI m0)) (by rw [nI_clamp (by omega), a2]) ?_
  refine lv_aload_n hx hb dL_law_1381 rfl (lv_at hl 1 rfl) ?_
  refine lv_iload hx hb dL_law_1382 (lv_at hl 5 rfl) ?_
  refine lv_iconst (v := nI 3) hx hb dL_law_1384 (by decide) ?_
  refine mn_iadd hB dL_law_1385 ?_
  refine va_sld hx hb hX hbl hbA hS (vp_in_nI (by omega) (by omega)) dL_law_1386 ?_
  refine mh_top (y := .int z) (by rw [nI_clamp (by omega), a3]) ?_
  refine cl_L_175 (As := [.int (nI f), .int (nI m0), .int z]) (rest := []) hB (c_X11_wouldGet_t2 l g H r q zsp rm (nI n) sl sv tx (nI ln) zth zsg zbg zwd zhg zin zop zbe zwi zhi zbk zot zer zen zpo zpi zgr zsh zsn f m0 z hR (by first | assumption | omega) (hf) (hm) (hx1)) hR.o rfl hl.1 (Nat.le_of_ble_eq_true rfl) dL_law_1387 ⟨Nat.le_of_ble_eq_true rfl, Nat.le_of_ble_eq_true rfl⟩ ⟨by show (ce7 + 1) + 0 ≤ 622861; omega, by show (sn7 + 6) + 0 ≤ 7227521; omega⟩ hS (by have hz9 := hS.1; rintro q9 (h9 | h9) <;> first | exact h9.elim | (have h8 : r ≤ q9 ∧ q9 < r + 16 := h9; show xb ≤ q9; omega) | (have h8 : ((xb ≤ q9 ∧ q9 < xb + 68) ∨ lim ≤ q9) ∨ q9 = ob := h9; show xb ≤ q9; omega) | (have h8 : (xb ≤ q9 ∧ q9 < xb + 68) ∨ lim ≤ q9 := h9; show xb ≤ q9; omega) | (show xb ≤ q9; omega)) (fun v H1 locs hpo hfr hS => ?_)
  obtain ⟨rfl, hR⟩ := hpo
  have hC := hC.keptM hfr (fun a9 y9 => by first | exact y9.elim | (have y8 : r ≤ a9 ∧ a9 < r + 16 := y9; omega))
  have hO := Fr.keep hfr hO (fun y9 => by first | exact y9.elim | (have y8 : r ≤ ob ∧ ob < r + 16 := y9; omega) | (have y8 : (xb ≤ ob ∧ ob < xb + 68) ∨ lim ≤ ob := y9; omega))
  generalize H1 = H at hfr hS hX hC hO hR ⊢
  refine W.widen (k := ce7 + 1) (n := sn7 + 6) (by show (ce7 + 1) + 0 ≤ ce7 + 1; omega) (by show (sn7 + 6) + 0 ≤ sn7 + 6; omega) ?_
  refine lv_istore (lv' := [(6, .int (nI 0)), (5, .int (nI 2)), (0, .ref b), (1, .ref xb), (2, .ref r), (3, .ref ob), (4, .int (nI (4 * i9)))]) hx hb dL_law_1390 hl (by decide) rfl (fun ls hl => ?_)
  refine lv_aload_n hx hb dL_law_1392 rfl (lv_at hl 4 rfl) ?_
  refine cl_L_102 (As := []) (rest := []) hB (c_X11_thrown l g H r q zsp rm (nI n) sl sv tx (nI ln) (nI 2) zsg zbg zwd zhg zin zop zbe zwi zhi zbk zot zer zen zpo zpi zgr zsh zsn hR) hR.o rfl hl.1 (Nat.le_of_ble_eq_true rfl) dL_law_1393 ⟨Nat.le_of_ble_eq_true rfl, Nat.le_of_ble_eq_true rfl⟩ ⟨by show (ce7 + 1) + 0 ≤ 622861; omega, by show (sn7 + 6) + 0 ≤ 7227521; omega⟩ hS (by have hz9 := hS.1; rintro q9 (h9 | h9) <;> first | exact h9.elim | (have h8 : r ≤ q9 ∧ q9 < r + 16 := h9; show xb ≤ q9; omega) | (have h8 : ((xb ≤ q9 ∧ q9 < xb + 68) ∨ lim ≤ q9) ∨ q9 = ob := h9; show xb ≤ q9; omega) | (have h8 : (xb ≤ q9 ∧ q9 < xb + 68) ∨ lim ≤ q9 := h9; show xb ≤ q9; omega) | (show xb ≤ q9; omega)) (fun v H1 locs hpo hfr hS => ?_)
  obtain ⟨rfl, rfl⟩ := hpo
  refine W.widen (k := ce7 + 1) (n := sn7 + 6) (by show (ce7 + 1) + 0 ≤ ce7 + 1; omega) (by show (sn7 + 6) + 0 ≤ sn7 + 6; omega) ?_
  refine lv_iload hx hb dL_law_1396 (lv_at hl 1 rfl) ?_
  refine lv_icmp_eq (tgt := 1403) hx hb dL_law_1398 (by decide) (fun h_1398 => ?_) (fun h9 => absurd rfl h9)
  refine lv_iload hx hb dL_law_1403 (lv_at hl 1 rfl) ?_
  refine mn_if_ne (tgt := 1420) hB dL_law_1405 (by decide) (by omega) (fun h_1405 => ?_) (fun h => by exfalso; omega)
  refine lv_goto (tgt := 1803) hx hb dL_law_1420 (by decide) ?_
  refine W.widen (k := ce7 + 30) (n := sn7 + 1100) (by omega) (by omega) ?_
  exact kk _ _ _ ⟨hC, ⟨_, _, _, _, _, _, _, _, _, _, _, _, _, _, _, _, _, _, _, _, hR⟩, ⟨_, hO⟩, hTx⟩ hS (lv_sub hl [2, 3, 4, 5, 6] rfl)

set_option maxRecDepth 100000 in
set_option maxHeartbeats 800000 in
theorem s_wouldGet_no {p : Program} {l : Launch} {e : Env} {s : State} {m : MethodId} {args : Array Value} {below : List Frame} {meth : Method} {c : Code} {H : Heap} {locs : List Loc} {ce7 sn7 : Nat} {Q : State → Prop} {g : GG} {b L xb r ob lim : Nat} {xs : Nat → Int32} {i9 : Nat} {ls : Array Slot} {q : Nat → Int32} {n : Nat} {rm sl sv tx : Nat → Int32} {ln : Nat} {zsp : Nat → Int32} {zth : Int32} {zsg : Nat → Int32} {zbg : Nat → Int32} {zwd : Nat → Int32} {zhg : Nat → Int32} {zin : Nat → Int32} {zop : Int32} {zbe : Int32} {zwi : Int32} {zhi : Int32} {zbk : Nat → Int32} {zot : Nat → Int32} {zer : Int32} {zen : Int32} {zpo : Nat → Int32} {zpi : Int32} {zgr : Int32} {zsh : Nat → Int32} {zsn : Int32} {o : Nat → Int64} (hfl : l.stackTraces = false) (hE : LE p s m meth c g b L xs xb r ob lim) (hi : 4 * i9 + 3 < L) (hC : CLS g xb lim q n rm sl sv tx ln H) (hR : ModAt g r q zsp rm (nI n) sl sv tx (nI ln) zth zsg zbg zwd zhg zin zop zbe zwi zhi zbk zot zer zen zpo zpi zgr zsh zsn H) (hO : at_ g H ob (eL g 1 o)) (hTx : TxT tx ln) (hS : va_S (fun q9 => xb ≤ q9) s.heap H locs) (hl : lv_has ls 7 [(0, .ref b), (1, .ref xb), (2, .ref r), (3, .ref ob), (4, .int (nI (4 * i9)))]) (hce7 : ce7 + 30 ≤ 622861) (hsn7 : sn7 + 1100 ≤ 7227521) (f : Nat) (m0 : Nat) (p0 : Nat) (a1 : xs (4 * i9 + 1) = nI f) (a2 : xs (4 * i9 + 2) = nI m0) (a3 : xs (4 * i9 + 3) = nI p0) (hf : f < 3) (hm : m0 < nmQ q) (hp : p0 < 10000) (hs0 : ¬ (0 < szF q f ∧ swF q f = szF q f)) (kk : ∀ (H1 : Heap) (locs1 : List Loc) (ls1 : Array Slot), LI g xb r ob lim q n rm sl sv tx ln H1 → va_S (fun q9 => xb ≤ q9) s.heap H1 locs1 → lv_has ls1 7 [(0, .ref b), (1, .ref xb), (2, .ref r), (3, .ref ob), (4, .int (nI (4 * i9)))] → W p l e room_1 s m args below meth c H1 locs1 (ce7 + 30) (sn7 + 1100) Q (F0 m 1803 ls1 [])) : W p l e room_1 s m args below meth c H locs ce7 sn7 Q (F0 m 1343 ls []) := by
  obtain ⟨hB, hZ9, hX, hbl, hL9, hxs, hr9, hob9, hlm9⟩ := hE
  have hx := hB.x
  have hb := hB.b
  have hbA : ¬ (fun q9 => xb ≤ q9) b := fun y9 => by have y8 : xb ≤ b := y9; omega
  have hW := hC.wf
  have hn14 := hC.n14
  have hl6c := hC.l60
  have hnm5 := hW.2.2.1
  refine lv_aload_n hx hb dL_law_1343 rfl (lv_at hl 1 rfl) ?_
  refine lv_aload_n hx hb dL_law_1344 rfl (lv_at hl 0 rfl) ?_
  refine lv_iload hx hb dL_law_1345 (lv_at hl 4 rfl) ?_
  refine lv_iconst (v := nI 1) hx hb dL_law_1347 (by decide) ?_
  refine mn_iadd hB dL_law_1348 ?_
  refine va_sld hx hb hX hbl hbA hS (vp_in_nI (by omega) (by omega)) dL_law_1349 ?_
  refine mh_top (y := .int (nI f)) (by rw [nI_clamp (by omega), a1]) ?_
  refine lv_aload_n hx hb dL_law_1350 rfl (lv_at hl 0 rfl) ?_
  refine lv_iload hx hb dL_law_1351 (lv_at hl 4 rfl) ?_
  refine lv_iconst (v := nI 2) hx hb dL_law_1353 (by decide) ?_
  refine mn_iadd hB dL_law_1354 ?_
  refine va_sld hx hb hX hbl hbA hS (vp_in_nI (by omega) (by omega)) dL_law_1355 ?_
  refine mh_top (y := .int (nI m0)) (by rw [nI_clamp (by omega), a2]) ?_
  refine lv_aload_n hx hb dL_law_1356 rfl (lv_at hl 0 rfl) ?_
  refine lv_iload hx hb dL_law_1357 (lv_at hl 4 rfl) ?_
  refine lv_iconst (v := nI 3) hx hb dL_law_1359 (by decide) ?_
  refine mn_iadd hB dL_law_1360 ?_
  refine va_sld hx hb hX hbl hbA hS (vp_in_nI (by omega) (by omega)) dL_law_1361 ?_
  refine mh_top (y := .int (nI p0)) (by rw [nI_clamp (by omega), a3]) ?_
  refine lv_aload_n hx hb dL_law_1362 rfl (lv_at hl 3 rfl) ?_
  refine cw_173 (As := [.ref xb, .int (nI f), .int (nI m0), .int (nI p0), .ref ob]) (rest := []) hB (hZ9.at hS (fun _ h9 => h9)) (w_wouldGet_no l g H xb lim q n rm sl sv tx ln f m0 p0 ob o (hC) (hO) (hf) (hm) (hp) (hs0) (⟨by omega, by omega⟩) (hfl)) rfl hl.1 (Nat.le_of_ble_eq_true rfl) dL_law_1363 ⟨Nat.le_of_ble_eq_true rfl, Nat.le_of_ble_eq_true rfl⟩ ⟨by show (ce7) + 0 ≤ 622861; omega, by show (sn7) + 0 ≤ 7227521; omega⟩ hS (by have hz9 := hS.1; rintro q9 (h9 | h9) <;> first | exact h9.elim | (have h8 : r ≤ q9 ∧ q9 < r + 16 := h9; show xb ≤ q9; omega) | (have h8 : ((xb ≤ q9 ∧ q9 < xb + 68) ∨ lim ≤ q9) ∨ q9 = ob := h9; show xb ≤ q9; omega) | (have h8 : (xb ≤ q9 ∧ q9 < xb + 68) ∨ lim ≤ q9 := h9; show xb ≤ q9; omega) | (show xb ≤ q9; omega)) (fun v H1 locs hpo hfr hS => ?_)
  obtain ⟨rfl, hC, hO⟩ := hpo
  have hR := hR.keptF hfr (fun q9 h1 h2 y9 => by first | exact y9.elim | (have y8 : ((xb ≤ q9 ∧ q9 < xb + 68) ∨ lim ≤ q9) ∨ q9 = ob := y9; omega) | (have y8 : (xb ≤ q9 ∧ q9 < xb + 68) ∨ lim ≤ q9 := y9; omega))
  generalize H1 = H at hfr hS hR hX hC hO ⊢
  refine W.widen (k := ce7) (n := sn7) (by show (ce7) + 0 ≤ ce7; omega) (by show (sn7) + 0 ≤ sn7; omega) ?_
  refine lv_istore (lv' := [(5, .int (nI 0)), (0, .ref b), (1, .ref xb), (2, .ref r), (3, .ref ob), (4, .int (nI (4 * i9)))]) hx hb dL_law_1366 hl (by decide) rfl (fun ls hl => ?_)
  refine lv_aload_n hx hb dL_law_1368 rfl (lv_at hl 3 rfl) ?_
  refine lv_aload_n hx hb dL_law_1369 rfl (lv_at hl 1 rfl) ?_
  refine lv_iload hx hb dL_law_1370 (lv_at hl 5 rfl) ?_
  refine lv_iconst (v := nI 1) hx hb dL_law_1372 (by decide) ?_
  refine mn_iadd hB dL_law_1373 ?_
  refine va_sld hx hb hX hbl hbA hS (vp_in_nI (by omega) (by omega)) dL_law_1374 ?_
  refine mh_top (y := .int (nI f)) (by rw [nI_clamp (by omega), a1]) ?_
  refine lv_aload_n hx hb dL_law_1375 rfl (lv_at hl 1 rfl) ?_
  refine lv_iload hx hb dL_law_1376 (lv_at hl 5 rfl) ?_
  refine lv_iconst (v := nI 2) hx hb dL_law_1378 (by decide) ?_
  refine mn_iadd hB dL_law_1379 ?_
  refine va_sld hx hb hX hbl hbA hS (vp_in_nI (by omega) (by omega)) dL_law_1380 ?_
  refine mh_top (y := .int (nI m0)) (by rw [nI_clamp (by omega), a2]) ?_
  refine lv_aload_n hx hb dL_law_1381 rfl (lv_at hl 1 rfl) ?_
  refine lv_iload hx hb dL_law_1382 (lv_at hl 5 rfl) ?_
  refine lv_iconst (v := nI 3) hx hb dL_law_1384 (by decide) ?_
  refine mn_iadd hB dL_law_1385 ?_
  refine va_sld hx hb hX hbl hbA hS (vp_in_nI (by omega) (by omega)) dL_law_1386 ?_
  refine mh_top (y := .int (nI p0)) (by rw [nI_clamp (by omega), a3]) ?_
  refine cl_L_175 (As := [.int (nI f), .int (nI m0), .int (nI p0)]) (rest := []) hB (c_X11_wouldGet_no l g H r q zsp rm (nI n) sl sv tx (nI ln) zth zsg zbg zwd zhg zin zop zbe zwi zhi zbk zot zer zen zpo zpi zgr zsh zsn f m0 p0 hR (by first | assumption | omega) (hf) (hm) (hp) (hs0)) hR.o rfl hl.1 (Nat.le_of_ble_eq_true rfl) dL_law_1387 ⟨Nat.le_of_ble_eq_true rfl, Nat.le_of_ble_eq_true rfl⟩ ⟨by show (ce7) + 0 ≤ 622861; omega, by show (sn7) + 0 ≤ 7227521; omega⟩ hS (by have hz9 := hS.1; rintro q9 (h9 | h9) <;> first | exact h9.elim | (have h8 : r ≤ q9 ∧ q9 < r + 16 := h9; show xb ≤ q9; omega) | (have h8 : ((xb ≤ q9 ∧ q9 < xb + 68) ∨ lim ≤ q9) ∨ q9 = ob := h9; show xb ≤ q9; omega) | (have h8 : (xb ≤ q9 ∧ q9 < xb + 68) ∨ lim ≤ q9 := h9; show xb ≤ q9; omega) | (show xb ≤ q9; omega)) (fun v H1 locs hpo hfr hS => ?_)
  obtain ⟨rfl, hR⟩ := hpo
  have hC := hC.keptM hfr (fun a9 y9 => by first | exact y9.elim | (have y8 : r ≤ a9 ∧ a9 < r + 16 := y9; omega))
  have hO := Fr.keep hfr hO (fun y9 => by first | exact y9.elim | (have y8 : r ≤ ob ∧ ob < r + 16 := y9; omega) | (have y8 : (xb ≤ ob ∧ ob < xb + 68) ∨ lim ≤ ob := y9; omega))
  generalize H1 = H at hfr hS hX hC hO hR ⊢
  refine W.widen (k := ce7) (n := sn7) (by show (ce7) + 0 ≤ ce7; omega) (by show (sn7) + 0 ≤ sn7; omega) ?_
  refine lv_istore (lv' := [(6, .int (-9)), (5, .int (nI 0)), (0, .ref b), (1, .ref xb), (2, .ref r), (3, .ref ob), (4, .int (nI (4 * i9)))]) hx hb dL_law_1390 hl (by decide) rfl (fun ls hl => ?_)
  refine lv_aload_n hx hb dL_law_1392 rfl (lv_at hl 4 rfl) ?_
  refine cl_L_102 (As := []) (rest := []) hB (c_X11_thrown l g H r q zsp rm (nI n) sl sv tx (nI ln) (nI 0) zsg zbg zwd zhg zin zop zbe zwi zhi zbk zot zer zen zpo zpi zgr zsh zsn hR) hR.o rfl hl.1 (Nat.le_of_ble_eq_true rfl) dL_law_1393 ⟨Nat.le_of_ble_eq_true rfl, Nat.le_of_ble_eq_true rfl⟩ ⟨by show (ce7) + 0 ≤ 622861; omega, by show (sn7) + 0 ≤ 7227521; omega⟩ hS (by have hz9 := hS.1; rintro q9 (h9 | h9) <;> first | exact h9.elim | (have h8 : r ≤ q9 ∧ q9 < r + 16 := h9; show xb ≤ q9; omega) | (have h8 : ((xb ≤ q9 ∧ q9 < xb + 68) ∨ lim ≤ q9) ∨ q9 = ob := h9; show xb ≤ q9; omega) | (have h8 : (xb ≤ q9 ∧ q9 < xb + 68) ∨ lim ≤ q9 := h9; show xb ≤ q9; omega) | (show xb ≤ q9; omega)) (fun v H1 locs hpo hfr hS => ?_)
  obtain ⟨rfl, rfl⟩ := hpo
  refine W.widen (k := ce7) (n := sn7) (by show (ce7) + 0 ≤ ce7; omega) (by show (sn7) + 0 ≤ sn7; omega) ?_
  refine lv_iload hx hb dL_law_1396 (lv_at hl 1 rfl) ?_
  refine lv_icmp_eq (tgt := 1403) hx hb dL_law_1398 (by decide) (fun h_1398 => ?_) (fun h9 => absurd rfl h9)
  refine lv_iload hx hb dL_law_1403 (lv_at hl 1 rfl) ?_
  refine mn_if_ne (tgt := 1420) hB dL_law_1405 (by decide) (by omega) (fun h => by exfalso; omega) (fun h_1405 => ?_)
  refine lv_aload_n hx hb dL_law_1408 rfl (lv_at hl 5 rfl) ?_
  refine lv_iconst (v := nI 0) hx hb dL_law_1409 (by decide) ?_
  refine mn_lald hB hO (by omega) (by omega) dL_law_1410 ?_
  refine mh_top (y := .long (((-9)).toInt64)) (rfl) ?_
  refine lv_iload hx hb dL_law_1411 (lv_at hl 0 rfl) ?_
  refine lv_i2l (v := ((-9)).toInt64) hx hb dL_law_1413 rfl ?_
  refine W.lcmp hx hb dL_law_1414 ?_
  refine ml_if_eq (tgt := 1420) hB dL_law_1415 (by decide) (fun h_1415 => ?_) (fun h => absurd rfl h)
  refine lv_goto (tgt := 1803) hx hb dL_law_1420 (by decide) ?_
  refine W.widen (k := ce7 + 30) (n := sn7 + 1100) (by omega) (by omega) ?_
  exact kk _ _ _ ⟨hC, ⟨_, _, _, _, _, _, _, _, _, _, _, _, _, _, _, _, _, _, _, _, hR⟩, ⟨_, hO⟩, hTx⟩ hS (lv_sub hl [2, 3, 4, 5, 6] rfl)

set_option maxRecDepth 100000 in
set_option maxHeartbeats 800000 in
theorem s_wouldGet_ok {p : Program} {l : Launch} {e : Env} {s : State} {m : MethodId} {args : Array Value} {below : List Frame} {meth : Method} {c : Code} {H : Heap} {locs : List Loc} {ce7 sn7 : Nat} {Q : State → Prop} {g : GG} {b L xb r ob lim : Nat} {xs : Nat → Int32} {i9 : Nat} {ls : Array Slot} {q : Nat → Int32} {n : Nat} {rm sl sv tx : Nat → Int32} {ln : Nat} {zsp : Nat → Int32} {zth : Int32} {zsg : Nat → Int32} {zbg : Nat → Int32} {zwd : Nat → Int32} {zhg : Nat → Int32} {zin : Nat → Int32} {zop : Int32} {zbe : Int32} {zwi : Int32} {zhi : Int32} {zbk : Nat → Int32} {zot : Nat → Int32} {zer : Int32} {zen : Int32} {zpo : Nat → Int32} {zpi : Int32} {zgr : Int32} {zsh : Nat → Int32} {zsn : Int32} {o : Nat → Int64} (hfl : l.stackTraces = false) (hE : LE p s m meth c g b L xs xb r ob lim) (hi : 4 * i9 + 3 < L) (hC : CLS g xb lim q n rm sl sv tx ln H) (hR : ModAt g r q zsp rm (nI n) sl sv tx (nI ln) zth zsg zbg zwd zhg zin zop zbe zwi zhi zbk zot zer zen zpo zpi zgr zsh zsn H) (hO : at_ g H ob (eL g 1 o)) (hTx : TxT tx ln) (hS : va_S (fun q9 => xb ≤ q9) s.heap H locs) (hl : lv_has ls 7 [(0, .ref b), (1, .ref xb), (2, .ref r), (3, .ref ob), (4, .int (nI (4 * i9)))]) (hce7 : ce7 + 30 ≤ 622861) (hsn7 : sn7 + 1100 ≤ 7227521) (f : Nat) (m0 : Nat) (p0 : Nat) (a1 : xs (4 * i9 + 1) = nI f) (a2 : xs (4 * i9 + 2) = nI m0) (a3 : xs (4 * i9 + 3) = nI p0) (hf : f < 3) (hm : m0 < nmQ q) (hp : p0 < 10000) (hs0 : 0 < szF q f) (hs1 : swF q f = szF q f) (kk : ∀ (H1 : Heap) (locs1 : List Loc) (ls1 : Array Slot), LI g xb r ob lim q n rm sl sv tx ln H1 → va_S (fun q9 => xb ≤ q9) s.heap H1 locs1 → lv_has ls1 7 [(0, .ref b), (1, .ref xb), (2, .ref r), (3, .ref ob), (4, .int (nI (4 * i9)))] → W p l e room_1 s m args below meth c H1 locs1 (ce7 + 30) (sn7 + 1100) Q (F0 m 1803 ls1 [])) : W p l e room_1 s m args below meth c H locs ce7 sn7 Q (F0 m 1343 ls []) := by
  obtain ⟨hB, hZ9, hX, hbl, hL9, hxs, hr9, hob9, hlm9⟩ := hE
  have hx := hB.x
  have hb := hB.b
  have hbA : ¬ (fun q9 => xb ≤ q9) b := fun y9 => by have y8 : xb ≤ b := y9; omega
  have hW := hC.wf
  have hn14 := hC.n14
  have hl6c := hC.l60
  have hnm5 := hW.2.2.1
  refine lv_aload_n hx hb dL_law_1343 rfl (lv_at hl 1 rfl) ?_
  refine lv_aload_n hx hb dL_law_1344 rfl (lv_at hl 0 rfl) ?_
  refine lv_iload hx hb dL_law_1345 (lv_at hl 4 rfl) ?_
  refine lv_iconst (v := nI 1) hx hb dL_law_1347 (by decide) ?_
  refine mn_iadd hB dL_law_1348 ?_
  refine va_sld hx hb hX hbl hbA hS (vp_in_nI (by omega) (by omega)) dL_law_1349 ?_
  refine mh_top (y := .int (nI f)) (by rw [nI_clamp (by omega), a1]) ?_
  refine lv_aload_n hx hb dL_law_1350 rfl (lv_at hl 0 rfl) ?_
  refine lv_iload hx hb dL_law_1351 (lv_at hl 4 rfl) ?_
  refine lv_iconst (v := nI 2) hx hb dL_law_1353 (by decide) ?_
  refine mn_iadd hB dL_law_1354 ?_
  refine va_sld hx hb hX hbl hbA hS (vp_in_nI (by omega) (by omega)) dL_law_1355 ?_
  refine mh_top (y := .int (nI m0)) (by rw [nI_clamp (by omega), a2]) ?_
  refine lv_aload_n hx hb dL_law_1356 rfl (lv_at hl 0 rfl) ?_
  refine lv_iload hx hb dL_law_1357 (lv_at hl 4 rfl) ?_
  refine lv_iconst (v := nI 3) hx hb dL_law_1359 (by decide) ?_
  refine mn_iadd hB dL_law_1360 ?_
  refine va_sld hx hb hX hbl hbA hS (vp_in_nI (by omega) (by omega)) dL_law_1361 ?_
  refine mh_top (y := .int (nI p0)) (by rw [nI_clamp (by omega), a3]) ?_
  refine lv_aload_n hx hb dL_law_1362 rfl (lv_at hl 3 rfl) ?_
  refine cw_173 (As := [.ref xb, .int (nI f), .int (nI m0), .int (nI p0), .ref ob]) (rest := []) hB (hZ9.at hS (fun _ h9 => h9)) (w_wouldGet_ok l g H xb lim q n rm sl sv tx ln f m0 p0 ob o (hC) (hO) (hf) (hm) (hp) (hs0) (hs1) (⟨by omega, by omega⟩) (hfl)) rfl hl.1 (Nat.le_of_ble_eq_true rfl) dL_law_1363 ⟨Nat.le_of_ble_eq_true rfl, Nat.le_of_ble_eq_true rfl⟩ ⟨by show (ce7) + 0 ≤ 622861; omega, by show (sn7) + 0 ≤ 7227521; omega⟩ hS (by have hz9 := hS.1; rintro q9 (h9 | h9) <;> first | exact h9.elim | (have h8 : r ≤ q9 ∧ q9 < r + 16 := h9; show xb ≤ q9; omega) | (have h8 : ((xb ≤ q9 ∧ q9 < xb + 68) ∨ lim ≤ q9) ∨ q9 = ob := h9; show xb ≤ q9; omega) | (have h8 : (xb ≤ q9 ∧ q9 < xb + 68) ∨ lim ≤ q9 := h9; show xb ≤ q9; omega) | (show xb ≤ q9; omega)) (fun v H1 locs hpo hfr hS => ?_)
  obtain ⟨rfl, hC, hO⟩ := hpo
  have hR := hR.keptF hfr (fun q9 h1 h2 y9 => by first | exact y9.elim | (have y8 : ((xb ≤ q9 ∧ q9 < xb + 68) ∨ lim ≤ q9) ∨ q9 = ob := y9; omega) | (have y8 : (xb ≤ q9 ∧ q9 < xb + 68) ∨ lim ≤ q9 := y9; omega))
  generalize H1 = H at hfr hS hR hX hC hO ⊢
  refine W.widen (k := ce7) (n := sn7) (by show (ce7) + 0 ≤ ce7; omega) (by show (sn7) + 0 ≤ sn7; omega) ?_
  refine lv_istore (lv' := [(5, .int (nI 0)), (0, .ref b), (1, .ref xb), (2, .ref r), (3, .ref ob), (4, .int (nI (4 * i9)))]) hx hb dL_law_1366 hl (by decide) rfl (fun ls hl => ?_)
  refine lv_aload_n hx hb dL_law_1368 rfl (lv_at hl 3 rfl) ?_
  refine lv_aload_n hx hb dL_law_1369 rfl (lv_at hl 1 rfl) ?_
  refine lv_iload hx hb dL_law_1370 (lv_at hl 5 rfl) ?_
  refine lv_iconst (v := nI 1) hx hb dL_law_1372 (by decide) ?_
  refine mn_iadd hB dL_law_1373 ?_
  refine va_sld hx hb hX hbl hbA hS (vp_in_nI (by omega) (by omega)) dL_law_1374 ?_
  refine mh_top (y := .int (nI f)) (by rw [nI_clamp (by omega), a1]) ?_
  refine lv_aload_n hx hb dL_law_1375 rfl (lv_at hl 1 rfl) ?_
  refine lv_iload hx hb dL_law_1376 (lv_at hl 5 rfl) ?_
  refine lv_iconst (v := nI 2) hx hb dL_law_1378 (by decide) ?_
  refine mn_iadd hB dL_law_1379 ?_
  refine va_sld hx hb hX hbl hbA hS (vp_in_nI (by omega) (by omega)) dL_law_1380 ?_
  refine mh_top (y := .int (nI m0)) (by rw [nI_clamp (by omega), a2]) ?_
  refine lv_aload_n hx hb dL_law_1381 rfl (lv_at hl 1 rfl) ?_
  refine lv_iload hx hb dL_law_1382 (lv_at hl 5 rfl) ?_
  refine lv_iconst (v := nI 3) hx hb dL_law_1384 (by decide) ?_
  refine mn_iadd hB dL_law_1385 ?_
  refine va_sld hx hb hX hbl hbA hS (vp_in_nI (by omega) (by omega)) dL_law_1386 ?_
  refine mh_top (y := .int (nI p0)) (by rw [nI_clamp (by omega), a3]) ?_
  refine cl_L_175 (As := [.int (nI f), .int (nI m0), .int (nI p0)]) (rest := []) hB (c_X11_wouldGet l g H r q zsp rm (nI n) sl sv tx (nI ln) zth zsg zbg zwd zhg zin zop zbe zwi zhi zbk zot zer zen zpo zpi zgr zsh zsn f m0 p0 hR (by first | assumption | omega) (hf) (hm) (hp) (hs0) (hs1)) hR.o rfl hl.1 (Nat.le_of_ble_eq_true rfl) dL_law_1387 ⟨Nat.le_of_ble_eq_true rfl, Nat.le_of_ble_eq_true rfl⟩ ⟨by show (ce7) + 0 ≤ 622861; omega, by show (sn7) + 0 ≤ 7227521; omega⟩ hS (by have hz9 := hS.1; rintro q9 (h9 | h9) <;> first | exact h9.elim | (have h8 : r ≤ q9 ∧ q9 < r + 16 := h9; show xb ≤ q9; omega) | (have h8 : ((xb ≤ q9 ∧ q9 < xb + 68) ∨ lim ≤ q9) ∨ q9 = ob := h9; show xb ≤ q9; omega) | (have h8 : (xb ≤ q9 ∧ q9 < xb + 68) ∨ lim ≤ q9 := h9; show xb ≤ q9; omega) | (show xb ≤ q9; omega)) (fun v H1 locs hpo hfr hS => ?_)
  obtain ⟨rfl, hR⟩ := hpo
  have hC := hC.keptM hfr (fun a9 y9 => by first | exact y9.elim | (have y8 : r ≤ a9 ∧ a9 < r + 16 := y9; omega))
  have hO := Fr.keep hfr hO (fun y9 => by first | exact y9.elim | (have y8 : r ≤ ob ∧ ob < r + 16 := y9; omega) | (have y8 : (xb ≤ ob ∧ ob < xb + 68) ∨ lim ≤ ob := y9; omega))
  generalize H1 = H at hfr hS hX hC hO hR ⊢
  refine W.widen (k := ce7) (n := sn7) (by show (ce7) + 0 ≤ ce7; omega) (by show (sn7) + 0 ≤ sn7; omega) ?_
  refine lv_istore (lv' := [(6, .int (shrQ q f p0 m0)), (5, .int (nI 0)), (0, .ref b), (1, .ref xb), (2, .ref r), (3, .ref ob), (4, .int (nI (4 * i9)))]) hx hb dL_law_1390 hl (by decide) rfl (fun ls hl => ?_)
  refine lv_aload_n hx hb dL_law_1392 rfl (lv_at hl 4 rfl) ?_
  refine cl_L_102 (As := []) (rest := []) hB (c_X11_thrown l g H r q zsp rm (nI n) sl sv tx (nI ln) (nI 0) zsg zbg zwd zhg zin zop zbe zwi zhi zbk zot zer zen zpo zpi zgr (lowOf (shrQ q f p0) (lowOf (shr1 q f p0) zsh 5) 5) zsn hR) hR.o rfl hl.1 (Nat.le_of_ble_eq_true rfl) dL_law_1393 ⟨Nat.le_of_ble_eq_true rfl, Nat.le_of_ble_eq_true rfl⟩ ⟨by show (ce7) + 0 ≤ 622861; omega, by show (sn7) + 0 ≤ 7227521; omega⟩ hS (by have hz9 := hS.1; rintro q9 (h9 | h9) <;> first | exact h9.elim | (have h8 : r ≤ q9 ∧ q9 < r + 16 := h9; show xb ≤ q9; omega) | (have h8 : ((xb ≤ q9 ∧ q9 < xb + 68) ∨ lim ≤ q9) ∨ q9 = ob := h9; show xb ≤ q9; omega) | (have h8 : (xb ≤ q9 ∧ q9 < xb + 68) ∨ lim ≤ q9 := h9; show xb ≤ q9; omega) | (show xb ≤ q9; omega)) (fun v H1 locs hpo hfr hS => ?_)
  obtain ⟨rfl, rfl⟩ := hpo
  refine W.widen (k := ce7) (n := sn7) (by show (ce7) + 0 ≤ ce7; omega) (by show (sn7) + 0 ≤ sn7; omega) ?_
  refine lv_iload hx hb dL_law_1396 (lv_at hl 1 rfl) ?_
  refine lv_icmp_eq (tgt := 1403) hx hb dL_law_1398 (by decide) (fun h_1398 => ?_) (fun h9 => absurd rfl h9)
  refine lv_iload hx hb dL_law_1403 (lv_at hl 1 rfl) ?_
  refine mn_if_ne (tgt := 1420) hB dL_law_1405 (by decide) (by omega) (fun h => by exfalso; omega) (fun h_1405 => ?_)
  refine lv_aload_n hx hb dL_law_1408 rfl (lv_at hl 5 rfl) ?_
  refine lv_iconst (v := nI 0) hx hb dL_law_1409 (by decide) ?_
  refine mn_lald hB hO (by omega) (by omega) dL_law_1410 ?_
  refine mh_top (y := .long ((shrQ q f p0 m0).toInt64)) (rfl) ?_
  refine lv_iload hx hb dL_law_1411 (lv_at hl 0 rfl) ?_
  refine lv_i2l (v := (shrQ q f p0 m0).toInt64) hx hb dL_law_1413 rfl ?_
  refine W.lcmp hx hb dL_law_1414 ?_
  refine ml_if_eq (tgt := 1420) hB dL_law_1415 (by decide) (fun h_1415 => ?_) (fun h => absurd rfl h)
  refine lv_goto (tgt := 1803) hx hb dL_law_1420 (by decide) ?_
  refine W.widen (k := ce7 + 30) (n := sn7 + 1100) (by omega) (by omega) ?_
  exact kk _ _ _ ⟨hC, ⟨_, _, _, _, _, _, _, _, _, _, _, _, _, _, _, _, _, _, _, _, hR⟩, ⟨_, hO⟩, hTx⟩ hS (lv_sub hl [2, 3, 4, 5, 6] rfl)

set_option maxRecDepth 100000 in
set_option maxHeartbeats 800000 in
theorem s_becomes_t1 {p : Program} {l : Launch} {e : Env} {s : State} {m : MethodId} {args : Array Value} {below : List Frame} {meth : Method} {c : Code} {H : Heap} {locs : List Loc} {ce7 sn7 : Nat} {Q : State → Prop} {g : GG} {b L xb r ob lim : Nat} {xs : Nat → Int32} {i9 : Nat} {ls : Array Slot} {q : Nat → Int32} {n : Nat} {rm sl sv tx : Nat → Int32} {ln : Nat} {zsp : Nat → Int32} {zth : Int32} {zsg : Nat → Int32} {zbg : Nat → Int32} {zwd : Nat → Int32} {zhg : Nat → Int32} {zin : Nat → Int32} {zop : Int32} {zbe : Int32} {zwi : Int32} {zhi : Int32} {zbk : Nat → Int32} {zot : Nat → Int32} {zer : Int32} {zen : Int32} {zpo : Nat → Int32} {zpi : Int32} {zgr : Int32} {zsh : Nat → Int32} {zsn : Int32} {o : Nat → Int64} (hfl : l.stackTraces = false) (hE : LE p s m meth c g b L xs xb r ob lim) (hi : 4 * i9 + 3 < L) (hC : CLS g xb lim q n rm sl sv tx ln H) (hR : ModAt g r q zsp rm (nI n) sl sv tx (nI ln) zth zsg zbg zwd zhg zin zop zbe zwi zhi zbk zot zer zen zpo zpi zgr zsh zsn H) (hO : at_ g H ob (eL g 1 o)) (hTx : TxT tx ln) (hS : va_S (fun q9 => xb ≤ q9) s.heap H locs) (hl : lv_has ls 7 [(0, .ref b), (1, .ref xb), (2, .ref r), (3, .ref ob), (4, .int (nI (4 * i9)))]) (hce7 : ce7 + 30 ≤ 622861) (hsn7 : sn7 + 1100 ≤ 7227521) (x : Int32) (y : Int32) (a1 : xs (4 * i9 + 1) = x) (a2 : xs (4 * i9 + 2) = y) (hx1 : isIx x 3 = false) (kk : ∀ (H1 : Heap) (locs1 : List Loc) (ls1 : Array Slot), LI g xb r ob lim q n rm sl sv tx ln H1 → va_S (fun q9 => xb ≤ q9) s.heap H1 locs1 → lv_has ls1 7 [(0, .ref b), (1, .ref xb), (2, .ref r), (3, .ref ob), (4, .int (nI (4 * i9)))] → W p l e room_1 s m args below meth c H1 locs1 (ce7 + 30) (sn7 + 1100) Q (F0 m 1803 ls1 [])) : W p l e room_1 s m args below meth c H locs ce7 sn7 Q (F0 m 1423 ls []) := by
  obtain ⟨hB, hZ9, hX, hbl, hL9, hxs, hr9, hob9, hlm9⟩ := hE
  have hx := hB.x
  have hb := hB.b
  have hbA : ¬ (fun q9 => xb ≤ q9) b := fun y9 => by have y8 : xb ≤ b := y9; omega
  have hW := hC.wf
  have hn14 := hC.n14
  have hl6c := hC.l60
  have hnm5 := hW.2.2.1
  refine lv_aload_n hx hb dL_law_1423 rfl (lv_at hl 1 rfl) ?_
  refine lv_aload_n hx hb dL_law_1424 rfl (lv_at hl 0 rfl) ?_
  refine lv_iload hx hb dL_law_1425 (lv_at hl 4 rfl) ?_
  refine lv_iconst (v := nI 1) hx hb dL_law_1427 (by decide) ?_
  refine mn_iadd hB dL_law_1428 ?_
  refine va_sld hx hb hX hbl hbA hS (vp_in_nI (by omega) (by omega)) dL_law_1429 ?_
  refine mh_top (y := .int x) (by rw [nI_clamp (by omega), a1]) ?_
  refine lv_aload_n hx hb dL_law_1430 rfl (lv_at hl 0 rfl) ?_
  refine lv_iload hx hb dL_law_1431 (lv_at hl 4 rfl) ?_
  refine lv_iconst (v := nI 2) hx hb dL_law_1433 (by decide) ?_
  refine mn_iadd hB dL_law_1434 ?_
  refine va_sld hx hb hX hbl hbA hS (vp_in_nI (by omega) (by omega)) dL_law_1435 ?_
  refine mh_top (y := .int y) (by rw [nI_clamp (by omega), a2]) ?_
  refine lv_aload_n hx hb dL_law_1436 rfl (lv_at hl 3 rfl) ?_
  refine cw_176 (As := [.ref xb, .int x, .int y, .ref ob]) (rest := []) hB (hZ9.at hS (fun _ h9 => h9)) (w_becomes_t1 l g H xb lim q n rm sl sv tx ln x y ob o (hC) (hO) (hx1) (⟨by omega, by omega⟩) (hfl)) rfl hl.1 (Nat.le_of_ble_eq_true rfl) dL_law_1437 ⟨Nat.le_of_ble_eq_true rfl, Nat.le_of_ble_eq_true rfl⟩ ⟨by show (ce7) + 1 ≤ 622861; omega, by show (sn7) + 6 ≤ 7227521; omega⟩ hS (by have hz9 := hS.1; rintro q9 (h9 | h9) <;> first | exact h9.elim | (have h8 : r ≤ q9 ∧ q9 < r + 16 := h9; show xb ≤ q9; omega) | (have h8 : ((xb ≤ q9 ∧ q9 < xb + 68) ∨ lim ≤ q9) ∨ q9 = ob := h9; show xb ≤ q9; omega) | (have h8 : (xb ≤ q9 ∧ q9 < xb + 68) ∨ lim ≤ q9 := h9; show xb ≤ q9; omega) | (show xb ≤ q9; omega)) (fun v H1 locs hpo hfr hS => ?_)
  obtain ⟨rfl, hC, hO⟩ := hpo
  have hR := hR.keptF hfr (fun q9 h1 h2 y9 => by first | exact y9.elim | (have y8 : ((xb ≤ q9 ∧ q9 < xb + 68) ∨ lim ≤ q9) ∨ q9 = ob := y9; omega) | (have y8 : (xb ≤ q9 ∧ q9 < xb + 68) ∨ lim ≤ q9 := y9; omega))
  generalize H1 = H at hfr hS hR hX hC hO ⊢
  refine W.widen (k := ce7 + 1) (n := sn7 + 6) (by show (ce7) + 1 ≤ ce7 + 1; omega) (by show (sn7) + 6 ≤ sn7 + 6; omega) ?_
  refine lv_istore (lv' := [(5, .int (nI 1)), (0, .ref b), (1, .ref xb), (2, .ref r), (3, .ref ob), (4, .int (nI (4 * i9)))]) hx hb dL_law_1440 hl (by decide) rfl (fun ls hl => ?_)
  refine lv_aload_n hx hb dL_law_1442 rfl (lv_at hl 3 rfl) ?_
  refine lv_aload_n hx hb dL_law_1443 rfl (lv_at hl 1 rfl) ?_
  refine lv_iload hx hb dL_law_1444 (lv_at hl 5 rfl) ?_
  refine lv_iconst (v := nI 1) hx hb dL_law_1446 (by decide) ?_
  refine mn_iadd hB dL_law_1447 ?_
  refine va_sld hx hb hX hbl hbA hS (vp_in_nI (by omega) (by omega)) dL_law_1448 ?_
  refine mh_top (y := .int x) (by rw [nI_clamp (by omega), a1]) ?_
  refine lv_aload_n hx hb dL_law_1449 rfl (lv_at hl 1 rfl) ?_
  refine lv_iload hx hb dL_law_1450 (lv_at hl 5 rfl) ?_
  refine lv_iconst (v := nI 2) hx hb dL_law_1452 (by decide) ?_
  refine mn_iadd hB dL_law_1453 ?_
  refine va_sld hx hb hX hbl hbA hS (vp_in_nI (by omega) (by omega)) dL_law_1454 ?_
  refine mh_top (y := .int y) (by rw [nI_clamp (by omega), a2]) ?_
  refine cl_L_178 (As := [.int x, .int y]) (rest := []) hB (c_X11_becomes_t1 l g H r q zsp rm (nI n) sl sv tx (nI ln) zth zsg zbg zwd zhg zin zop zbe zwi zhi zbk zot zer zen zpo zpi zgr zsh zsn x y hR (Or.inl hx1)) hR.o rfl hl.1 (Nat.le_of_ble_eq_true rfl) dL_law_1455 ⟨Nat.le_of_ble_eq_true rfl, Nat.le_of_ble_eq_true rfl⟩ ⟨by show (ce7 + 1) + 0 ≤ 622861; omega, by show (sn7 + 6) + 0 ≤ 7227521; omega⟩ hS (by have hz9 := hS.1; rintro q9 (h9 | h9) <;> first | exact h9.elim | (have h8 : r ≤ q9 ∧ q9 < r + 16 := h9; show xb ≤ q9; omega) | (have h8 : ((xb ≤ q9 ∧ q9 < xb + 68) ∨ lim ≤ q9) ∨ q9 = ob := h9; show xb ≤ q9; omega) | (have h8 : (xb ≤ q9 ∧ q9 < xb + 68) ∨ lim ≤ q9 := h9; show xb ≤ q9; omega) | (show xb ≤ q9; omega)) (fun v H1 locs hpo hfr hS => ?_)
  obtain ⟨rfl, hR⟩ := hpo
  have hC := hC.keptM hfr (fun a9 y9 => by first | exact y9.elim | (have y8 : r ≤ a9 ∧ a9 < r + 16 := y9; omega))
  have hO := Fr.keep hfr hO (fun y9 => by first | exact y9.elim | (have y8 : r ≤ ob ∧ ob < r + 16 := y9; omega) | (have y8 : (xb ≤ ob ∧ ob < xb + 68) ∨ lim ≤ ob := y9; omega))
  generalize H1 = H at hfr hS hX hC hO hR ⊢
  refine W.widen (k := ce7 + 1) (n := sn7 + 6) (by show (ce7 + 1) + 0 ≤ ce7 + 1; omega) (by show (sn7 + 6) + 0 ≤ sn7 + 6; omega) ?_
  refine lv_istore (lv' := [(6, .int (nI 0)), (5, .int (nI 1)), (0, .ref b), (1, .ref xb), (2, .ref r), (3, .ref ob), (4, .int (nI (4 * i9)))]) hx hb dL_law_1458 hl (by decide) rfl (fun ls hl => ?_)
  refine lv_aload_n hx hb dL_law_1460 rfl (lv_at hl 4 rfl) ?_
  refine cl_L_102 (As := []) (rest := []) hB (c_X11_thrown l g H r q zsp rm (nI n) sl sv tx (nI ln) (nI 1) zsg zbg zwd zhg zin zop zbe zwi zhi zbk zot zer zen zpo zpi zgr zsh zsn hR) hR.o rfl hl.1 (Nat.le_of_ble_eq_true rfl) dL_law_1461 ⟨Nat.le_of_ble_eq_true rfl, Nat.le_of_ble_eq_true rfl⟩ ⟨by show (ce7 + 1) + 0 ≤ 622861; omega, by show (sn7 + 6) + 0 ≤ 7227521; omega⟩ hS (by have hz9 := hS.1; rintro q9 (h9 | h9) <;> first | exact h9.elim | (have h8 : r ≤ q9 ∧ q9 < r + 16 := h9; show xb ≤ q9; omega) | (have h8 : ((xb ≤ q9 ∧ q9 < xb + 68) ∨ lim ≤ q9) ∨ q9 = ob := h9; show xb ≤ q9; omega) | (have h8 : (xb ≤ q9 ∧ q9 < xb + 68) ∨ lim ≤ q9 := h9; show xb ≤ q9; omega) | (show xb ≤ q9; omega)) (fun v H1 locs hpo hfr hS => ?_)
  obtain ⟨rfl, rfl⟩ := hpo
  refine W.widen (k := ce7 + 1) (n := sn7 + 6) (by show (ce7 + 1) + 0 ≤ ce7 + 1; omega) (by show (sn7 + 6) + 0 ≤ sn7 + 6; omega) ?_
  refine lv_iload hx hb dL_law_1464 (lv_at hl 1 rfl) ?_
  refine lv_icmp_eq (tgt := 1471) hx hb dL_law_1466 (by decide) (fun h_1466 => ?_) (fun h9 => absurd rfl h9)
  refine lv_iload hx hb dL_law_1471 (lv_at hl 1 rfl) ?_
  refine mn_if_ne (tgt := 1488) hB dL_law_1473 (by decide) (by omega) (fun h_1473 => ?_) (fun h => by exfalso; omega)
  refine lv_goto (tgt := 1803) hx hb dL_law_1488 (by decide) ?_
  refine W.widen (k := ce7 + 30) (n := sn7 + 1100) (by omega) (by omega) ?_
  exact kk _ _ _ ⟨hC, ⟨_, _, _, _, _, _, _, _, _, _, _, _, _, _, _, _, _, _, _, _, hR⟩, ⟨_, hO⟩, hTx⟩ hS (lv_sub hl [2, 3, 4, 5, 6] rfl)

set_option maxRecDepth 100000 in
set_option maxHeartbeats 800000 in
theorem s_becomes_t1b {p : Program} {l : Launch} {e : Env} {s : State} {m : MethodId} {args : Array Value} {below : List Frame} {meth : Method} {c : Code} {H : Heap} {locs : List Loc} {ce7 sn7 : Nat} {Q : State → Prop} {g : GG} {b L xb r ob lim : Nat} {xs : Nat → Int32} {i9 : Nat} {ls : Array Slot} {q : Nat → Int32} {n : Nat} {rm sl sv tx : Nat → Int32} {ln : Nat} {zsp : Nat → Int32} {zth : Int32} {zsg : Nat → Int32} {zbg : Nat → Int32} {zwd : Nat → Int32} {zhg : Nat → Int32} {zin : Nat → Int32} {zop : Int32} {zbe : Int32} {zwi : Int32} {zhi : Int32} {zbk : Nat → Int32} {zot : Nat → Int32} {zer : Int32} {zen : Int32} {zpo : Nat → Int32} {zpi : Int32} {zgr : Int32} {zsh : Nat → Int32} {zsn : Int32} {o : Nat → Int64} (hfl : l.stackTraces = false) (hE : LE p s m meth c g b L xs xb r ob lim) (hi : 4 * i9 + 3 < L) (hC : CLS g xb lim q n rm sl sv tx ln H) (hR : ModAt g r q zsp rm (nI n) sl sv tx (nI ln) zth zsg zbg zwd zhg zin zop zbe zwi zhi zbk zot zer zen zpo zpi zgr zsh zsn H) (hO : at_ g H ob (eL g 1 o)) (hTx : TxT tx ln) (hS : va_S (fun q9 => xb ≤ q9) s.heap H locs) (hl : lv_has ls 7 [(0, .ref b), (1, .ref xb), (2, .ref r), (3, .ref ob), (4, .int (nI (4 * i9)))]) (hce7 : ce7 + 30 ≤ 622861) (hsn7 : sn7 + 1100 ≤ 7227521) (f : Nat) (y : Int32) (a1 : xs (4 * i9 + 1) = nI f) (a2 : xs (4 * i9 + 2) = y) (hf : f < 3) (hx1 : isIx y 3 = false) (kk : ∀ (H1 : Heap) (locs1 : List Loc) (ls1 : Array Slot), LI g xb r ob lim q n rm sl sv tx ln H1 → va_S (fun q9 => xb ≤ q9) s.heap H1 locs1 → lv_has ls1 7 [(0, .ref b), (1, .ref xb), (2, .ref r), (3, .ref ob), (4, .int (nI (4 * i9)))] → W p l e room_1 s m args below meth c H1 locs1 (ce7 + 30) (sn7 + 1100) Q (F0 m 1803 ls1 [])) : W p l e room_1 s m args below meth c H locs ce7 sn7 Q (F0 m 1423 ls []) := by
  obtain ⟨hB, hZ9, hX, hbl, hL9, hxs, hr9, hob9, hlm9⟩ := hE
  have hx := hB.x
  have hb := hB.b
  have hbA : ¬ (fun q9 => xb ≤ q9) b := fun y9 => by have y8 : xb ≤ b := y9; omega
  have hW := hC.wf
  have hn14 := hC.n14
  have hl6c := hC.l60
  have hnm5 := hW.2.2.1
  refine lv_aload_n hx hb dL_law_1423 rfl (lv_at hl 1 rfl) ?_
  refine lv_aload_n hx hb dL_law_1424 rfl (lv_at hl 0 rfl) ?_
  refine lv_iload hx hb dL_law_1425 (lv_at hl 4 rfl) ?_
  refine lv_iconst (v := nI 1) hx hb dL_law_1427 (by decide) ?_
  refine mn_iadd hB dL_law_1428 ?_
  refine va_sld hx hb hX hbl hbA hS (vp_in_nI (by omega) (by omega)) dL_law_1429 ?_
  refine mh_top (y := .int (nI f)) (by rw [nI_clamp (by omega), a1]) ?_
  refine lv_aload_n hx hb dL_law_1430 rfl (lv_at hl 0 rfl) ?_
  refine lv_iload hx hb dL_law_1431 (lv_at hl 4 rfl) ?_
  refine lv_iconst (v := nI 2) hx hb dL_law_1433 (by decide) ?_
  refine mn_iadd hB dL_law_1434 ?_
  refine va_sld hx hb hX hbl hbA hS (vp_in_nI (by omega) (by omega)) dL_law_1435 ?_
  refine mh_top (y := .int y) (by rw [nI_clamp (by omega), a2]) ?_
  refine lv_aload_n hx hb dL_law_1436 rfl (lv_at hl 3 rfl) ?_
  refine cw_176 (As := [.ref xb, .int (nI f), .int y, .ref ob]) (rest := []) hB (hZ9.at hS (fun _ h9 => h9)) (w_becomes_t1b l g H xb lim q n rm sl sv tx ln f y ob o (hC) (hO) (hf) (hx1) (⟨by omega, by omega⟩) (hfl)) rfl hl.1 (Nat.le_of_ble_eq_true rfl) dL_law_1437 ⟨Nat.le_of_ble_eq_true rfl, Nat.le_of_ble_eq_true rfl⟩ ⟨by show (ce7) + 1 ≤ 622861; omega, by show (sn7) + 6 ≤ 7227521; omega⟩ hS (by have hz9 := hS.1; rintro q9 (h9 | h9) <;> first | exact h9.elim | (have h8 : r ≤ q9 ∧ q9 < r + 16 := h9; show xb ≤ q9; omega) | (have h8 : ((xb ≤ q9 ∧ q9 < xb + 68) ∨ lim ≤ q9) ∨ q9 = ob := h9; show xb ≤ q9; omega) | (have h8 : (xb ≤ q9 ∧ q9 < xb + 68) ∨ lim ≤ q9 := h9; show xb ≤ q9; omega) | (show xb ≤ q9; omega)) (fun v H1 locs hpo hfr hS => ?_)
  obtain ⟨rfl, hC, hO⟩ := hpo
  have hR := hR.keptF hfr (fun q9 h1 h2 y9 => by first | exact y9.elim | (have y8 : ((xb ≤ q9 ∧ q9 < xb + 68) ∨ lim ≤ q9) ∨ q9 = ob := y9; omega) | (have y8 : (xb ≤ q9 ∧ q9 < xb + 68) ∨ lim ≤ q9 := y9; omega))
  generalize H1 = H at hfr hS hR hX hC hO ⊢
  refine W.widen (k := ce7 + 1) (n := sn7 + 6) (by show (ce7) + 1 ≤ ce7 + 1; omega) (by show (sn7) + 6 ≤ sn7 + 6; omega) ?_
  refine lv_istore (lv' := [(5, .int (nI 1)), (0, .ref b), (1, .ref xb), (2, .ref r), (3, .ref ob), (4, .int (nI (4 * i9)))]) hx hb dL_law_1440 hl (by decide) rfl (fun ls hl => ?_)
  refine lv_aload_n hx hb dL_law_1442 rfl (lv_at hl 3 rfl) ?_
  refine lv_aload_n hx hb dL_law_1443 rfl (lv_at hl 1 rfl) ?_
  refine lv_iload hx hb dL_law_1444 (lv_at hl 5 rfl) ?_
  refine lv_iconst (v := nI 1) hx hb dL_law_1446 (by decide) ?_
  refine mn_iadd hB dL_law_1447 ?_
  refine va_sld hx hb hX hbl hbA hS (vp_in_nI (by omega) (by omega)) dL_law_1448 ?_
  refine mh_top (y := .int (nI f)) (by rw [nI_clamp (by omega), a1]) ?_
  refine lv_aload_n hx hb dL_law_1449 rfl (lv_at hl 1 rfl) ?_
  refine lv_iload hx hb dL_law_1450 (lv_at hl 5 rfl) ?_
  refine lv_iconst (v := nI 2) hx hb dL_law_1452 (by decide) ?_
  refine mn_iadd hB dL_law_1453 ?_
  refine va_sld hx hb hX hbl hbA hS (vp_in_nI (by omega) (by omega)) dL_law_1454 ?_
  refine mh_top (y := .int y) (by rw [nI_clamp (by omega), a2]) ?_
  refine cl_L_178 (As := [.int (nI f), .int y]) (rest := []) hB (c_X11_becomes_t1 l g H r q zsp rm (nI n) sl sv tx (nI ln) zth zsg zbg zwd zhg zin zop zbe zwi zhi zbk zot zer zen zpo zpi zgr zsh zsn (nI f) y hR (Or.inr hx1)) hR.o rfl hl.1 (Nat.le_of_ble_eq_true rfl) dL_law_1455 ⟨Nat.le_of_ble_eq_true rfl, Nat.le_of_ble_eq_true rfl⟩ ⟨by show (ce7 + 1) + 0 ≤ 622861; omega, by show (sn7 + 6) + 0 ≤ 7227521; omega⟩ hS (by have hz9 := hS.1; rintro q9 (h9 | h9) <;> first | exact h9.elim | (have h8 : r ≤ q9 ∧ q9 < r + 16 := h9; show xb ≤ q9; omega) | (have h8 : ((xb ≤ q9 ∧ q9 < xb + 68) ∨ lim ≤ q9) ∨ q9 = ob := h9; show xb ≤ q9; omega) | (have h8 : (xb ≤ q9 ∧ q9 < xb + 68) ∨ lim ≤ q9 := h9; show xb ≤ q9; omega) | (show xb ≤ q9; omega)) (fun v H1 locs hpo hfr hS => ?_)
  obtain ⟨rfl, hR⟩ := hpo
  have hC := hC.keptM hfr (fun a9 y9 => by first | exact y9.elim | (have y8 : r ≤ a9 ∧ a9 < r + 16 := y9; omega))
  have hO := Fr.keep hfr hO (fun y9 => by first | exact y9.elim | (have y8 : r ≤ ob ∧ ob < r + 16 := y9; omega) | (have y8 : (xb ≤ ob ∧ ob < xb + 68) ∨ lim ≤ ob := y9; omega))
  generalize H1 = H at hfr hS hX hC hO hR ⊢
  refine W.widen (k := ce7 + 1) (n := sn7 + 6) (by show (ce7 + 1) + 0 ≤ ce7 + 1; omega) (by show (sn7 + 6) + 0 ≤ sn7 + 6; omega) ?_
  refine lv_istore (lv' := [(6, .int (nI 0)), (5, .int (nI 1)), (0, .ref b), (1, .ref xb), (2, .ref r), (3, .ref ob), (4, .int (nI (4 * i9)))]) hx hb dL_law_1458 hl (by decide) rfl (fun ls hl => ?_)
  refine lv_aload_n hx hb dL_law_1460 rfl (lv_at hl 4 rfl) ?_
  refine cl_L_102 (As := []) (rest := []) hB (c_X11_thrown l g H r q zsp rm (nI n) sl sv tx (nI ln) (nI 1) zsg zbg zwd zhg zin zop zbe zwi zhi zbk zot zer zen zpo zpi zgr zsh zsn hR) hR.o rfl hl.1 (Nat.le_of_ble_eq_true rfl) dL_law_1461 ⟨Nat.le_of_ble_eq_true rfl, Nat.le_of_ble_eq_true rfl⟩ ⟨by show (ce7 + 1) + 0 ≤ 622861; omega, by show (sn7 + 6) + 0 ≤ 7227521; omega⟩ hS (by have hz9 := hS.1; rintro q9 (h9 | h9) <;> first | exact h9.elim | (have h8 : r ≤ q9 ∧ q9 < r + 16 := h9; show xb ≤ q9; omega) | (have h8 : ((xb ≤ q9 ∧ q9 < xb + 68) ∨ lim ≤ q9) ∨ q9 = ob := h9; show xb ≤ q9; omega) | (have h8 : (xb ≤ q9 ∧ q9 < xb + 68) ∨ lim ≤ q9 := h9; show xb ≤ q9; omega) | (show xb ≤ q9; omega)) (fun v H1 locs hpo hfr hS => ?_)
  obtain ⟨rfl, rfl⟩ := hpo
  refine W.widen (k := ce7 + 1) (n := sn7 + 6) (by show (ce7 + 1) + 0 ≤ ce7 + 1; omega) (by show (sn7 + 6) + 0 ≤ sn7 + 6; omega) ?_
  refine lv_iload hx hb dL_law_1464 (lv_at hl 1 rfl) ?_
  refine lv_icmp_eq (tgt := 1471) hx hb dL_law_1466 (by decide) (fun h_1466 => ?_) (fun h9 => absurd rfl h9)
  refine lv_iload hx hb dL_law_1471 (lv_at hl 1 rfl) ?_
  refine mn_if_ne (tgt := 1488) hB dL_law_1473 (by decide) (by omega) (fun h_1473 => ?_) (fun h => by exfalso; omega)
  refine lv_goto (tgt := 1803) hx hb dL_law_1488 (by decide) ?_
  refine W.widen (k := ce7 + 30) (n := sn7 + 1100) (by omega) (by omega) ?_
  exact kk _ _ _ ⟨hC, ⟨_, _, _, _, _, _, _, _, _, _, _, _, _, _, _, _, _, _, _, _, hR⟩, ⟨_, hO⟩, hTx⟩ hS (lv_sub hl [2, 3, 4, 5, 6] rfl)

set_option maxRecDepth 100000 in
set_option maxHeartbeats 800000 in
theorem s_becomes_ok {p : Program} {l : Launch} {e : Env} {s : State} {m : MethodId} {args : Array Value} {below : List Frame} {meth : Method} {c : Code} {H : Heap} {locs : List Loc} {ce7 sn7 : Nat} {Q : State → Prop} {g : GG} {b L xb r ob lim : Nat} {xs : Nat → Int32} {i9 : Nat} {ls : Array Slot} {q : Nat → Int32} {n : Nat} {rm sl sv tx : Nat → Int32} {ln : Nat} {zsp : Nat → Int32} {zth : Int32} {zsg : Nat → Int32} {zbg : Nat → Int32} {zwd : Nat → Int32} {zhg : Nat → Int32} {zin : Nat → Int32} {zop : Int32} {zbe : Int32} {zwi : Int32} {zhi : Int32} {zbk : Nat → Int32} {zot : Nat → Int32} {zer : Int32} {zen : Int32} {zpo : Nat → Int32} {zpi : Int32} {zgr : Int32} {zsh : Nat → Int32} {zsn : Int32} {o : Nat → Int64} (hfl : l.stackTraces = false) (hE : LE p s m meth c g b L xs xb r ob lim) (hi : 4 * i9 + 3 < L) (hC : CLS g xb lim q n rm sl sv tx ln H) (hR : ModAt g r q zsp rm (nI n) sl sv tx (nI ln) zth zsg zbg zwd zhg zin zop zbe zwi zhi zbk zot zer zen zpo zpi zgr zsh zsn H) (hO : at_ g H ob (eL g 1 o)) (hTx : TxT tx ln) (hS : va_S (fun q9 => xb ≤ q9) s.heap H locs) (hl : lv_has ls 7 [(0, .ref b), (1, .ref xb), (2, .ref r), (3, .ref ob), (4, .int (nI (4 * i9)))]) (hce7 : ce7 + 30 ≤ 622861) (hsn7 : sn7 + 1100 ≤ 7227521) (f : Nat) (g0 : Nat) (a1 : xs (4 * i9 + 1) = nI f) (a2 : xs (4 * i9 + 2) = nI g0) (hf : f < 3) (hg : g0 < 3) (kk : ∀ (H1 : Heap) (locs1 : List Loc) (ls1 : Array Slot), LI g xb r ob lim q n rm sl sv tx ln H1 → va_S (fun q9 => xb ≤ q9) s.heap H1 locs1 → lv_has ls1 7 [(0, .ref b), (1, .ref xb), (2, .ref r), (3, .ref ob), (4, .int (nI (4 * i9)))] → W p l e room_1 s m args below meth c H1 locs1 (ce7 + 30) (sn7 + 1100) Q (F0 m 1803 ls1 [])) : W p l e room_1 s m args below meth c H locs ce7 sn7 Q (F0 m 1423 ls []) := by
  obtain ⟨hB, hZ9, hX, hbl, hL9, hxs, hr9, hob9, hlm9⟩ := hE
  have hx := hB.x
  have hb := hB.b
  have hbA : ¬ (fun q9 => xb ≤ q9) b := fun y9 => by have y8 : xb ≤ b := y9; omega
  have hW := hC.wf
  have hn14 := hC.n14
  have hl6c := hC.l60
  have hnm5 := hW.2.2.1
  refine lv_aload_n hx hb dL_law_1423 rfl (lv_at hl 1 rfl) ?_
  refine lv_aload_n hx hb dL_law_1424 rfl (lv_at hl 0 rfl) ?_
  refine lv_iload hx hb dL_law_1425 (lv_at hl 4 rfl) ?_
  refine lv_iconst (v := nI 1) hx hb dL_law_1427 (by decide) ?_
  refine mn_iadd hB dL_law_1428 ?_
  refine va_sld hx hb hX hbl hbA hS (vp_in_nI (by omega) (by omega)) dL_law_1429 ?_
  refine mh_top (y := .int (nI f)) (by rw [nI_clamp (by omega), a1]) ?_
  refine lv_aload_n hx hb dL_law_1430 rfl (lv_at hl 0 rfl) ?_
  refine lv_iload hx hb dL_law_1431 (lv_at hl 4 rfl) ?_
  refine lv_iconst (v := nI 2) hx hb dL_law_1433 (by decide) ?_
  refine mn_iadd hB dL_law_1434 ?_
  refine va_sld hx hb hX hbl hbA hS (vp_in_nI (by omega) (by omega)) dL_law_1435 ?_
  refine mh_top (y := .int (nI g0)) (by rw [nI_clamp (by omega), a2]) ?_
  refine lv_aload_n hx hb dL_law_1436 rfl (lv_at hl 3 rfl) ?_
  refine cw_176 (As := [.ref xb, .int (nI f), .int (nI g0), .ref ob]) (rest := []) hB (hZ9.at hS (fun _ h9 => h9)) (w_becomes_ok l g H xb lim q n rm sl sv tx ln f g0 ob o (hC) (hO) (hf) (hg) (⟨by omega, by omega⟩) (hfl)) rfl hl.1 (Nat.le_of_ble_eq_true rfl) dL_law_1437 ⟨Nat.le_of_ble_eq_true rfl, Nat.le_of_ble_eq_true rfl⟩ ⟨by show (ce7) + 0 ≤ 622861; omega, by show (sn7) + 0 ≤ 7227521; omega⟩ hS (by have hz9 := hS.1; rintro q9 (h9 | h9) <;> first | exact h9.elim | (have h8 : r ≤ q9 ∧ q9 < r + 16 := h9; show xb ≤ q9; omega) | (have h8 : ((xb ≤ q9 ∧ q9 < xb + 68) ∨ lim ≤ q9) ∨ q9 = ob := h9; show xb ≤ q9; omega) | (have h8 : (xb ≤ q9 ∧ q9 < xb + 68) ∨ lim ≤ q9 := h9; show xb ≤ q9; omega) | (show xb ≤ q9; omega)) (fun v H1 locs hpo hfr hS => ?_)
  obtain ⟨rfl, hC, hO⟩ := hpo
  have hR := hR.keptF hfr (fun q9 h1 h2 y9 => by first | exact y9.elim | (have y8 : ((xb ≤ q9 ∧ q9 < xb + 68) ∨ lim ≤ q9) ∨ q9 = ob := y9; omega) | (have y8 : (xb ≤ q9 ∧ q9 < xb + 68) ∨ lim ≤ q9 := y9; omega))
  generalize H1 = H at hfr hS hR hX hC hO ⊢
  refine W.widen (k := ce7) (n := sn7) (by show (ce7) + 0 ≤ ce7; omega) (by show (sn7) + 0 ≤ sn7; omega) ?_
  refine lv_istore (lv' := [(5, .int (nI 0)), (0, .ref b), (1, .ref xb), (2, .ref r), (3, .ref ob), (4, .int (nI (4 * i9)))]) hx hb dL_law_1440 hl (by decide) rfl (fun ls hl => ?_)
  refine lv_aload_n hx hb dL_law_1442 rfl (lv_at hl 3 rfl) ?_
  refine lv_aload_n hx hb dL_law_1443 rfl (lv_at hl 1 rfl) ?_
  refine lv_iload hx hb dL_law_1444 (lv_at hl 5 rfl) ?_
  refine lv_iconst (v := nI 1) hx hb dL_law_1446 (by decide) ?_
  refine mn_iadd hB dL_law_1447 ?_
  refine va_sld hx hb hX hbl hbA hS (vp_in_nI (by omega) (by omega)) dL_law_1448 ?_
  refine mh_top (y := .int (nI f)) (by rw [nI_clamp (by omega), a1]) ?_
  refine lv_aload_n hx hb dL_law_1449 rfl (lv_at hl 1 rfl) ?_
  refine lv_iload hx hb dL_law_1450 (lv_at hl 5 rfl) ?_
  refine lv_iconst (v := nI 2) hx hb dL_law_1452 (by decide) ?_
  refine mn_iadd hB dL_law_1453 ?_
  refine va_sld hx hb hX hbl hbA hS (vp_in_nI (by omega) (by omega)) dL_law_1454 ?_
  refine mh_top (y := .int (nI g0)) (by rw [nI_clamp (by omega), a2]) ?_
  refine cl_L_178 (As := [.int (nI f), .int (nI g0)]) (rest := []) hB (c_X11_becomes l g H r q zsp rm (nI n) sl sv tx (nI ln) zth zsg zbg zwd zhg zin zop zbe zwi zhi zbk zot zer zen zpo zpi zgr zsh zsn f g0 hR (by first | assumption | omega) (hf) (hg)) hR.o rfl hl.1 (Nat.le_of_ble_eq_true rfl) dL_law_1455 ⟨Nat.le_of_ble_eq_true rfl, Nat.le_of_ble_eq_true rfl⟩ ⟨by show (ce7) + 0 ≤ 622861; omega, by show (sn7) + 0 ≤ 7227521; omega⟩ hS (by have hz9 := hS.1; rintro q9 (h9 | h9) <;> first | exact h9.elim | (have h8 : r ≤ q9 ∧ q9 < r + 16 := h9; show xb ≤ q9; omega) | (have h8 : ((xb ≤ q9 ∧ q9 < xb + 68) ∨ lim ≤ q9) ∨ q9 = ob := h9; show xb ≤ q9; omega) | (have h8 : (xb ≤ q9 ∧ q9 < xb + 68) ∨ lim ≤ q9 := h9; show xb ≤ q9; omega) | (show xb ≤ q9; omega)) (fun v H1 locs hpo hfr hS => ?_)
  obtain ⟨rfl, wi2_1, hi2_2, bk2_3, ot2_4, hR⟩ := hpo
  have hC := hC.keptM hfr (fun a9 y9 => by first | exact y9.elim | (have y8 : r ≤ a9 ∧ a9 < r + 16 := y9; omega))
  have hO := Fr.keep hfr hO (fun y9 => by first | exact y9.elim | (have y8 : r ≤ ob ∧ ob < r + 16 := y9; omega) | (have y8 : (xb ≤ ob ∧ ob < xb + 68) ∨ lim ≤ ob := y9; omega))
  generalize H1 = H at hfr hS hX hC hO hR ⊢
  refine W.widen (k := ce7) (n := sn7) (by show (ce7) + 0 ≤ ce7; omega) (by show (sn7) + 0 ≤ sn7; omega) ?_
  refine lv_istore (lv' := [(6, .int (becV q f g0)), (5, .int (nI 0)), (0, .ref b), (1, .ref xb), (2, .ref r), (3, .ref ob), (4, .int (nI (4 * i9)))]) hx hb dL_law_1458 hl (by decide) rfl (fun ls hl => ?_)
  refine lv_aload_n hx hb dL_law_1460 rfl (lv_at hl 4 rfl) ?_
  refine cl_L_102 (As := []) (rest := []) hB (c_X11_thrown l g H r q zsp rm (nI n) sl sv tx (nI ln) (nI 0) zsg zbg zwd zhg zin zop zbe wi2_1 hi2_2 bk2_3 ot2_4 zer zen zpo zpi zgr zsh zsn hR) hR.o rfl hl.1 (Nat.le_of_ble_eq_true rfl) dL_law_1461 ⟨Nat.le_of_ble_eq_true rfl, Nat.le_of_ble_eq_true rfl⟩ ⟨by show (ce7) + 0 ≤ 622861; omega, by show (sn7) + 0 ≤ 7227521; omega⟩ hS (by have hz9 := hS.1; rintro q9 (h9 | h9) <;> first | exact h9.elim | (have h8 : r ≤ q9 ∧ q9 < r + 16 := h9; show xb ≤ q9; omega) | (have h8 : ((xb ≤ q9 ∧ q9 < xb + 68) ∨ lim ≤ q9) ∨ q9 = ob := h9; show xb ≤ q9; omega) | (have h8 : (xb ≤ q9 ∧ q9 < xb + 68) ∨ lim ≤ q9 := h9; show xb ≤ q9; omega) | (show xb ≤ q9; omega)) (fun v H1 locs hpo hfr hS => ?_)
  obtain ⟨rfl, rfl⟩ := hpo
  refine W.widen (k := ce7) (n := sn7) (by show (ce7) + 0 ≤ ce7; omega) (by show (sn7) + 0 ≤ sn7; omega) ?_
  refine lv_iload hx hb dL_law_1464 (lv_at hl 1 rfl) ?_
  refine lv_icmp_eq (tgt := 1471) hx hb dL_law_1466 (by decide) (fun h_1466 => ?_) (fun h9 => absurd rfl h9)
  refine lv_iload hx hb dL_law_1471 (lv_at hl 1 rfl) ?_
  refine mn_if_ne (tgt := 1488) hB dL_law_1473 (by decide) (by omega) (fun h => by exfalso; omega) (fun h_1473 => ?_)
  refine lv_aload_n hx hb dL_law_1476 rfl (lv_at hl 5 rfl) ?_
  refine lv_iconst (v := nI 0) hx hb dL_law_1477 (by decide) ?_
  refine mn_lald hB hO (by omega) (by omega) dL_law_1478 ?_
  refine mh_top (y := .long ((becV q f g0).toInt64)) (rfl) ?_
  refine lv_iload hx hb dL_law_1479 (lv_at hl 0 rfl) ?_
  refine lv_i2l (v := (becV q f g0).toInt64) hx hb dL_law_1481 rfl ?_
  refine W.lcmp hx hb dL_law_1482 ?_
  refine ml_if_eq (tgt := 1488) hB dL_law_1483 (by decide) (fun h_1483 => ?_) (fun h => absurd rfl h)
  refine lv_goto (tgt := 1803) hx hb dL_law_1488 (by decide) ?_
  refine W.widen (k := ce7 + 30) (n := sn7 + 1100) (by omega) (by omega) ?_
  exact kk _ _ _ ⟨hC, ⟨_, _, _, _, _, _, _, _, _, _, _, _, _, _, _, _, _, _, _, _, hR⟩, ⟨_, hO⟩, hTx⟩ hS (lv_sub hl [2, 3, 4, 5, 6] rfl)
