/-! the law, call by call -/
/-- what stays as it is all through the law -/
def LE (p : Program) (s : State) (m : MethodId) (meth : Method) (c : Code) (g : GG) (b L : Nat) (xs : Nat → Int32) (xb r ob lim : Nat) : Prop := Bd p s m meth c cL_law 7 ret RL g ∧ ZZ xb s s.heap ∧ va_X b L xs s s.heap ∧ b < s.heap.size ∧ L ≤ 2048 ∧ s.heap.size = xb ∧ r = xb + 68 ∧ xb + 84 ≤ ob ∧ lim = ob + 1
set_option maxRecDepth 100000 in
set_option maxHeartbeats 800000 in
theorem s_append_t1 {p : Program} {l : Launch} {e : Env} {s : State} {m : MethodId} {args : Array Value} {below : List Frame} {meth : Method} {c : Code} {H : Heap} {locs : List Loc} {ce7 sn7 : Nat} {Q : State → Prop} {g : GG} {b L xb r ob lim : Nat} {xs : Nat → Int32} {i9 : Nat} {ls : Array Slot} {q : Nat → Int32} {n : Nat} {rm sl sv tx : Nat → Int32} {ln : Nat} {zsp : Nat → Int32} {zth : Int32} {zsg : Nat → Int32} {zbg : Nat → Int32} {zwd : Nat → Int32} {zhg : Nat → Int32} {zin : Nat → Int32} {zop : Int32} {zbe : Int32} {zwi : Int32} {zhi : Int32} {zbk : Nat → Int32} {zot : Nat → Int32} {zer : Int32} {zen : Int32} {zpo : Nat → Int32} {zpi : Int32} {zgr : Int32} {zsh : Nat → Int32} {zsn : Int32} {o : Nat → Int64} (hfl : l.stackTraces = false) (hE : LE p s m meth c g b L xs xb r ob lim) (hi : 4 * i9 + 3 < L) (hC : CLS g xb lim q n rm sl sv tx ln H) (hR : ModAt g r q zsp rm (nI n) sl sv tx (nI ln) zth zsg zbg zwd zhg zin zop zbe zwi zhi zbk zot zer zen zpo zpi zgr zsh zsn H) (hO : at_ g H ob (eL g 1 o)) (hTx : TxT tx ln) (hS : va_S (fun q9 => xb ≤ q9) s.heap H locs) (hl : lv_has ls 7 [(0, .ref b), (1, .ref xb), (2, .ref r), (3, .ref ob), (4, .int (nI (4 * i9)))]) (hce7 : ce7 + 30 ≤ 622861) (hsn7 : sn7 + 1100 ≤ 7227521) (x : Int32) (a1 : xs (4 * i9 + 1) = x) (hx1 : isIx x 256 = false) (kk : ∀ (H1 : Heap) (locs1 : List Loc) (ls1 : Array Slot), LI g xb r ob lim q n rm sl sv tx ln H1 → va_S (fun q9 => xb ≤ q9) s.heap H1 locs1 → lv_has ls1 7 [(0, .ref b), (1, .ref xb), (2, .ref r), (3, .ref ob), (4, .int (nI (4 * i9)))] → W p l e room_1 s m args below meth c H1 locs1 (ce7 + 30) (sn7 + 1100) Q (F0 m 1803 ls1 [])) : W p l e room_1 s m args below meth c H locs ce7 sn7 Q (F0 m 160 ls []) := by
  obtain ⟨hB, hZ9, hX, hbl, hL9, hxs, hr9, hob9, hlm9⟩ := hE
  have hx := hB.x
  have hb := hB.b
  have hbA : ¬ (fun q9 => xb ≤ q9) b := fun y9 => by have y8 : xb ≤ b := y9; omega
  have hW := hC.wf
  have hn14 := hC.n14
  have hl6c := hC.l60
  have hnm5 := hW.2.2.1
  refine lv_aload_n hx hb dL_law_160 rfl (lv_at hl 1 rfl) ?_
  refine lv_aload_n hx hb dL_law_161 rfl (lv_at hl 0 rfl) ?_
  refine lv_iload hx hb dL_law_162 (lv_at hl 4 rfl) ?_
  refine lv_iconst (v := nI 1) hx hb dL_law_164 (by decide) ?_
  refine mn_iadd hB dL_law_165 ?_
  refine va_sld hx hb hX hbl hbA hS (vp_in_nI (by omega) (by omega)) dL_law_166 ?_
  refine mh_top (y := .int x) (by rw [nI_clamp (by omega), a1]) ?_
  refine lv_aload_n hx hb dL_law_167 rfl (lv_at hl 3 rfl) ?_
  refine cw_96 (As := [.ref xb, .int x, .ref ob]) (rest := []) hB (hZ9.at hS (fun _ h9 => h9)) (w_append_t1 l g H xb lim q n rm sl sv tx ln x ob o (hC) (hO) (hx1) (⟨by omega, by omega⟩) (hfl)) rfl hl.1 (Nat.le_of_ble_eq_true rfl) dL_law_168 ⟨Nat.le_of_ble_eq_true rfl, Nat.le_of_ble_eq_true rfl⟩ ⟨by show (ce7) + 1 ≤ 622861; omega, by show (sn7) + 6 ≤ 7227521; omega⟩ hS (by have hz9 := hS.1; rintro q9 (h9 | h9) <;> first | exact h9.elim | (have h8 : r ≤ q9 ∧ q9 < r + 16 := h9; show xb ≤ q9; omega) | (have h8 : ((xb ≤ q9 ∧ q9 < xb + 68) ∨ lim ≤ q9) ∨ q9 = ob := h9; show xb ≤ q9; omega) | (have h8 : (xb ≤ q9 ∧ q9 < xb + 68) ∨ lim ≤ q9 := h9; show xb ≤ q9; omega) | (show xb ≤ q9; omega)) (fun v H1 locs hpo hfr hS => ?_)
  obtain ⟨rfl, hC, hO⟩ := hpo
  have hR := hR.keptF hfr (fun q9 h1 h2 y9 => by first | exact y9.elim | (have y8 : ((xb ≤ q9 ∧ q9 < xb + 68) ∨ lim ≤ q9) ∨ q9 = ob := y9; omega) | (have y8 : (xb ≤ q9 ∧ q9 < xb + 68) ∨ lim ≤ q9 := y9; omega))
  generalize H1 = H at hfr hS hR hX hC hO ⊢
  refine W.widen (k := ce7 + 1) (n := sn7 + 6) (by show (ce7) + 1 ≤ ce7 + 1; omega) (by show (sn7) + 6 ≤ sn7 + 6; omega) ?_
  refine lv_istore (lv' := [(5, .int (nI 1)), (0, .ref b), (1, .ref xb), (2, .ref r), (3, .ref ob), (4, .int (nI (4 * i9)))]) hx hb dL_law_171 hl (by decide) rfl (fun ls hl => ?_)
  refine lv_aload_n hx hb dL_law_173 rfl (lv_at hl 3 rfl) ?_
  refine lv_aload_n hx hb dL_law_174 rfl (lv_at hl 1 rfl) ?_
  refine lv_iload hx hb dL_law_175 (lv_at hl 5 rfl) ?_
  refine lv_iconst (v := nI 1) hx hb dL_law_177 (by decide) ?_
  refine mn_iadd hB dL_law_178 ?_
  refine va_sld hx hb hX hbl hbA hS (vp_in_nI (by omega) (by omega)) dL_law_179 ?_
  refine mh_top (y := .int x) (by rw [nI_clamp (by omega), a1]) ?_
  refine cl_L_101 (As := [.int x]) (rest := []) hB (c_X11_append_t1 l g H r q zsp rm (nI n) sl sv tx zth zsg zbg zwd zhg zin zop zbe zwi zhi zbk zot zer zen zpo zpi zgr zsh zsn ln x hR (hx1)) hR.o rfl hl.1 (Nat.le_of_ble_eq_true rfl) dL_law_180 ⟨Nat.le_of_ble_eq_true rfl, Nat.le_of_ble_eq_true rfl⟩ ⟨by show (ce7 + 1) + 0 ≤ 622861; omega, by show (sn7 + 6) + 0 ≤ 7227521; omega⟩ hS (by have hz9 := hS.1; rintro q9 (h9 | h9) <;> first | exact h9.elim | (have h8 : r ≤ q9 ∧ q9 < r + 16 := h9; show xb ≤ q9; omega) | (have h8 : ((xb ≤ q9 ∧ q9 < xb + 68) ∨ lim ≤ q9) ∨ q9 = ob := h9; show xb ≤ q9; omega) | (have h8 : (xb ≤ q9 ∧ q9 < xb + 68) ∨ lim ≤ q9 := h9; show xb ≤ q9; omega) | (show xb ≤ q9; omega)) (fun v H1 locs hpo hfr hS => ?_)
  obtain ⟨rfl, hR⟩ := hpo
  have hC := hC.keptM hfr (fun a9 y9 => by first | exact y9.elim | (have y8 : r ≤ a9 ∧ a9 < r + 16 := y9; omega))
  have hO := Fr.keep hfr hO (fun y9 => by first | exact y9.elim | (have y8 : r ≤ ob ∧ ob < r + 16 := y9; omega) | (have y8 : (xb ≤ ob ∧ ob < xb + 68) ∨ lim ≤ ob := y9; omega))
  generalize H1 = H at hfr hS hX hC hO hR ⊢
  refine W.widen (k := ce7 + 1) (n := sn7 + 6) (by show (ce7 + 1) + 0 ≤ ce7 + 1; omega) (by show (sn7 + 6) + 0 ≤ sn7 + 6; omega) ?_
  refine lv_istore (lv' := [(6, .int (nI 0)), (5, .int (nI 1)), (0, .ref b), (1, .ref xb), (2, .ref r), (3, .ref ob), (4, .int (nI (4 * i9)))]) hx hb dL_law_183 hl (by decide) rfl (fun ls hl => ?_)
  refine lv_aload_n hx hb dL_law_185 rfl (lv_at hl 4 rfl) ?_
  refine cl_L_102 (As := []) (rest := []) hB (c_X11_thrown l g H r q zsp rm (nI n) sl sv tx (nI ln) (nI 1) zsg zbg zwd zhg zin zop zbe zwi zhi zbk zot zer zen zpo zpi zgr zsh zsn hR) hR.o rfl hl.1 (Nat.le_of_ble_eq_true rfl) dL_law_186 ⟨Nat.le_of_ble_eq_true rfl, Nat.le_of_ble_eq_true rfl⟩ ⟨by show (ce7 + 1) + 0 ≤ 622861; omega, by show (sn7 + 6) + 0 ≤ 7227521; omega⟩ hS (by have hz9 := hS.1; rintro q9 (h9 | h9) <;> first | exact h9.elim | (have h8 : r ≤ q9 ∧ q9 < r + 16 := h9; show xb ≤ q9; omega) | (have h8 : ((xb ≤ q9 ∧ q9 < xb + 68) ∨ lim ≤ q9) ∨ q9 = ob := h9; show xb ≤ q9; omega) | (have h8 : (xb ≤ q9 ∧ q9 < xb + 68) ∨ lim ≤ q9 := h9; show xb ≤ q9; omega) | (show xb ≤ q9; omega)) (fun v H1 locs hpo hfr hS => ?_)
  obtain ⟨rfl, rfl⟩ := hpo
  refine W.widen (k := ce7 + 1) (n := sn7 + 6) (by show (ce7 + 1) + 0 ≤ ce7 + 1; omega) (by show (sn7 + 6) + 0 ≤ sn7 + 6; omega) ?_
  refine lv_iload hx hb dL_law_189 (lv_at hl 1 rfl) ?_
  refine lv_icmp_eq (tgt := 196) hx hb dL_law_191 (by decide) (fun h_191 => ?_) (fun h9 => absurd rfl h9)
  refine lv_iload hx hb dL_law_196 (lv_at hl 1 rfl) ?_
  refine mn_if_ne (tgt := 213) hB dL_law_198 (by decide) (by omega) (fun h_198 => ?_) (fun h => by exfalso; omega)
  refine lv_goto (tgt := 1803) hx hb dL_law_213 (by decide) ?_
  refine W.widen (k := ce7 + 30) (n := sn7 + 1100) (by omega) (by omega) ?_
  exact kk _ _ _ ⟨hC, ⟨_, _, _, _, _, _, _, _, _, _, _, _, _, _, _, _, _, _, _, _, hR⟩, ⟨_, hO⟩, hTx⟩ hS (lv_sub hl [2, 3, 4, 5, 6] rfl)

set_option maxRecDepth 100000 in
set_option maxHeartbeats 800000 in
theorem s_append_t2 {p : Program} {l : Launch} {e : Env} {s : State} {m : MethodId} {args : Array Value} {below : List Frame} {meth : Method} {c : Code} {H : Heap} {locs : List Loc} {ce7 sn7 : Nat} {Q : State → Prop} {g : GG} {b L xb r ob lim : Nat} {xs : Nat → Int32} {i9 : Nat} {ls : Array Slot} {q : Nat → Int32} {n : Nat} {rm sl sv tx : Nat → Int32} {ln : Nat} {zsp : Nat → Int32} {zth : Int32} {zsg : Nat → Int32} {zbg : Nat → Int32} {zwd : Nat → Int32} {zhg : Nat → Int32} {zin : Nat → Int32} {zop : Int32} {zbe : Int32} {zwi : Int32} {zhi : Int32} {zbk : Nat → Int32} {zot : Nat → Int32} {zer : Int32} {zen : Int32} {zpo : Nat → Int32} {zpi : Int32} {zgr : Int32} {zsh : Nat → Int32} {zsn : Int32} {o : Nat → Int64} (hfl : l.stackTraces = false) (hE : LE p s m meth c g b L xs xb r ob lim) (hi : 4 * i9 + 3 < L) (hC : CLS g xb lim q n rm sl sv tx ln H) (hR : ModAt g r q zsp rm (nI n) sl sv tx (nI ln) zth zsg zbg zwd zhg zin zop zbe zwi zhi zbk zot zer zen zpo zpi zgr zsh zsn H) (hO : at_ g H ob (eL g 1 o)) (hTx : TxT tx ln) (hS : va_S (fun q9 => xb ≤ q9) s.heap H locs) (hl : lv_has ls 7 [(0, .ref b), (1, .ref xb), (2, .ref r), (3, .ref ob), (4, .int (nI (4 * i9)))]) (hce7 : ce7 + 30 ≤ 622861) (hsn7 : sn7 + 1100 ≤ 7227521) (k : Nat) (a1 : xs (4 * i9 + 1) = nI k) (hk : k < 256) (hl60 : ln = 60) (kk : ∀ (H1 : Heap) (locs1 : List Loc) (ls1 : Array Slot), LI g xb r ob lim q n rm sl sv tx ln H1 → va_S (fun q9 => xb ≤ q9) s.heap H1 locs1 → lv_has ls1 7 [(0, .ref b), (1, .ref xb), (2, .ref r), (3, .ref ob), (4, .int (nI (4 * i9)))] → W p l e room_1 s m args below meth c H1 locs1 (ce7 + 30) (sn7 + 1100) Q (F0 m 1803 ls1 [])) : W p l e room_1 s m args below meth c H locs ce7 sn7 Q (F0 m 160 ls []) := by
  obtain ⟨hB, hZ9, hX, hbl, hL9, hxs, hr9, hob9, hlm9⟩ := hE
  have hx := hB.x
  have hb := hB.b
  have hbA : ¬ (fun q9 => xb ≤ q9) b := fun y9 => by have y8 : xb ≤ b := y9; omega
  have hW := hC.wf
  have hn14 := hC.n14
  have hl6c := hC.l60
  have hnm5 := hW.2.2.1
  refine lv_aload_n hx hb dL_law_160 rfl (lv_at hl 1 rfl) ?_
  refine lv_aload_n hx hb dL_law_161 rfl (lv_at hl 0 rfl) ?_
  refine lv_iload hx hb dL_law_162 (lv_at hl 4 rfl) ?_
  refine lv_iconst (v := nI 1) hx hb dL_law_164 (by decide) ?_
  refine mn_iadd hB dL_law_165 ?_
  refine va_sld hx hb hX hbl hbA hS (vp_in_nI (by omega) (by omega)) dL_law_166 ?_
  refine mh_top (y := .int (nI k)) (by rw [nI_clamp (by omega), a1]) ?_
  refine lv_aload_n hx hb dL_law_167 rfl (lv_at hl 3 rfl) ?_
  refine cw_96 (As := [.ref xb, .int (nI k), .ref ob]) (rest := []) hB (hZ9.at hS (fun _ h9 => h9)) (w_append_t2 l g H xb lim q n rm sl sv tx ln k ob o (hC) (hO) (hk) (hl60) (⟨by omega, by omega⟩) (hfl)) rfl hl.1 (Nat.le_of_ble_eq_true rfl) dL_law_168 ⟨Nat.le_of_ble_eq_true rfl, Nat.le_of_ble_eq_true rfl⟩ ⟨by show (ce7) + 1 ≤ 622861; omega, by show (sn7) + 6 ≤ 7227521; omega⟩ hS (by have hz9 := hS.1; rintro q9 (h9 | h9) <;> first | exact h9.elim | (have h8 : r ≤ q9 ∧ q9 < r + 16 := h9; show xb ≤ q9; omega) | (have h8 : ((xb ≤ q9 ∧ q9 < xb + 68) ∨ lim ≤ q9) ∨ q9 = ob := h9; show xb ≤ q9; omega) | (have h8 : (xb ≤ q9 ∧ q9 < xb + 68) ∨ lim ≤ q9 := h9; show xb ≤ q9; omega) | (show xb ≤ q9; omega)) (fun v H1 locs hpo hfr hS => ?_)
  obtain ⟨rfl, hC, hO⟩ := hpo
  have hR := hR.keptF hfr (fun q9 h1 h2 y9 => by first | exact y9.elim | (have y8 : ((xb ≤ q9 ∧ q9 < xb + 68) ∨ lim ≤ q9) ∨ q9 = ob := y9; omega) | (have y8 : (xb ≤ q9 ∧ q9 < xb + 68) ∨ lim ≤ q9 := y9; omega))
  generalize H1 = H at hfr hS hR hX hC hO ⊢
  refine W.widen (k := ce7 + 1) (n := sn7 + 6) (by show (ce7) + 1 ≤ ce7 + 1; omega) (by show (sn7) + 6 ≤ sn7 + 6; omega) ?_
  refine lv_istore (lv' := [(5, .int (nI 2)), (0, .ref b), (1, .ref xb), (2, .ref r), (3, .ref ob), (4, .int (nI (4 * i9)))]) hx hb dL_law_171 hl (by decide) rfl (fun ls hl => ?_)
  refine lv_aload_n hx hb dL_law_173 rfl (lv_at hl 3 rfl) ?_
  refine lv_aload_n hx hb dL_law_174 rfl (lv_at hl 1 rfl) ?_
  refine lv_iload hx hb dL_law_175 (lv_at hl 5 rfl) ?_
  refine lv_iconst (v := nI 1) hx hb dL_law_177 (by decide) ?_
  refine mn_iadd hB dL_law_178 ?_
  refine va_sld hx hb hX hbl hbA hS (vp_in_nI (by omega) (by omega)) dL_law_179 ?_
  refine mh_top (y := .int (nI k)) (by rw [nI_clamp (by omega), a1]) ?_
  refine cl_L_101 (As := [.int (nI k)]) (rest := []) hB (c_X11_append_t2 l g H r q zsp rm (nI n) sl sv tx zth zsg zbg zwd zhg zin zop zbe zwi zhi zbk zot zer zen zpo zpi zgr zsh zsn ln k hR (hk) (by first | assumption | omega)) hR.o rfl hl.1 (Nat.le_of_ble_eq_true rfl) dL_law_180 ⟨Nat.le_of_ble_eq_true rfl, Nat.le_of_ble_eq_true rfl⟩ ⟨by show (ce7 + 1) + 0 ≤ 622861; omega, by show (sn7 + 6) + 0 ≤ 7227521; omega⟩ hS (by have hz9 := hS.1; rintro q9 (h9 | h9) <;> first | exact h9.elim | (have h8 : r ≤ q9 ∧ q9 < r + 16 := h9; show xb ≤ q9; omega) | (have h8 : ((xb ≤ q9 ∧ q9 < xb + 68) ∨ lim ≤ q9) ∨ q9 = ob := h9; show xb ≤ q9; omega) | (have h8 : (xb ≤ q9 ∧ q9 < xb + 68) ∨ lim ≤ q9 := h9; show xb ≤ q9; omega) | (show xb ≤ q9; omega)) (fun v H1 locs hpo hfr hS => ?_)
  obtain ⟨rfl, hR⟩ := hpo
  have hC := hC.keptM hfr (fun a9 y9 => by first | exact y9.elim | (have y8 : r ≤ a9 ∧ a9 < r + 16 := y9; omega))
  have hO := Fr.keep hfr hO (fun y9 => by first | exact y9.elim | (have y8 : r ≤ ob ∧ ob < r + 16 := y9; omega) | (have y8 : (xb ≤ ob ∧ ob < xb + 68) ∨ lim ≤ ob := y9; omega))
  generalize H1 = H at hfr hS hX hC hO hR ⊢
  refine W.widen (k := ce7 + 1) (n := sn7 + 6) (by show (ce7 + 1) + 0 ≤ ce7 + 1; omega) (by show (sn7 + 6) + 0 ≤ sn7 + 6; omega) ?_
  refine lv_istore (lv' := [(6, .int (nI 0)), (5, .int (nI 2)), (0, .ref b), (1, .ref xb), (2, .ref r), (3, .ref ob), (4, .int (nI (4 * i9)))]) hx hb dL_law_183 hl (by decide) rfl (fun ls hl => ?_)
  refine lv_aload_n hx hb dL_law_185 rfl (lv_at hl 4 rfl) ?_
  refine cl_L_102 (As := []) (rest := []) hB (c_X11_thrown l g H r q zsp rm (nI n) sl sv tx (nI ln) (nI 2) zsg zbg zwd zhg zin zop zbe zwi zhi zbk zot zer zen zpo zpi zgr zsh zsn hR) hR.o rfl hl.1 (Nat.le_of_ble_eq_true rfl) dL_law_186 ⟨Nat.le_of_ble_eq_true rfl, Nat.le_of_ble_eq_true rfl⟩ ⟨by show (ce7 + 1) + 0 ≤ 622861; omega, by show (sn7 + 6) + 0 ≤ 7227521; omega⟩ hS (by have hz9 := hS.1; rintro q9 (h9 | h9) <;> first | exact h9.elim | (have h8 : r ≤ q9 ∧ q9 < r + 16 := h9; show xb ≤ q9; omega) | (have h8 : ((xb ≤ q9 ∧ q9 < xb + 68) ∨ lim ≤ q9) ∨ q9 = ob := h9; show xb ≤ q9; omega) | (have h8 : (xb ≤ q9 ∧ q9 < xb + 68) ∨ lim ≤ q9 := h9; show xb ≤ q9; omega) | (show xb ≤ q9; omega)) (fun v H1 locs hpo hfr hS => ?_)
  obtain ⟨rfl, rfl⟩ := hpo
  refine W.widen (k := ce7 + 1) (n := sn7 + 6) (by show (ce7 + 1) + 0 ≤ ce7 + 1; omega) (by show (sn7 + 6) + 0 ≤ sn7 + 6; omega) ?_
  refine lv_iload hx hb dL_law_189 (lv_at hl 1 rfl) ?_
  refine lv_icmp_eq (tgt := 196) hx hb dL_law_191 (by decide) (fun h_191 => ?_) (fun h9 => absurd rfl h9)
  refine lv_iload hx hb dL_law_196 (lv_at hl 1 rfl) ?_
  refine mn_if_ne (tgt := 213) hB dL_law_198 (by decide) (by omega) (fun h_198 => ?_) (fun h => by exfalso; omega)
  refine lv_goto (tgt := 1803) hx hb dL_law_213 (by decide) ?_
  refine W.widen (k := ce7 + 30) (n := sn7 + 1100) (by omega) (by omega) ?_
  exact kk _ _ _ ⟨hC, ⟨_, _, _, _, _, _, _, _, _, _, _, _, _, _, _, _, _, _, _, _, hR⟩, ⟨_, hO⟩, hTx⟩ hS (lv_sub hl [2, 3, 4, 5, 6] rfl)

set_option maxRecDepth 100000 in
set_option maxHeartbeats 800000 in
theorem s_append_ok {p : Program} {l : Launch} {e : Env} {s : State} {m : MethodId} {args : Array Value} {below : List Frame} {meth : Method} {c : Code} {H : Heap} {locs : List Loc} {ce7 sn7 : Nat} {Q : State → Prop} {g : GG} {b L xb r ob lim : Nat} {xs : Nat → Int32} {i9 : Nat} {ls : Array Slot} {q : Nat → Int32} {n : Nat} {rm sl sv tx : Nat → Int32} {ln : Nat} {zsp : Nat → Int32} {zth : Int32} {zsg : Nat → Int32} {zbg : Nat → Int32} {zwd : Nat → Int32} {zhg : Nat → Int32} {zin : Nat → Int32} {zop : Int32} {zbe : Int32} {zwi : Int32} {zhi : Int32} {zbk : Nat → Int32} {zot : Nat → Int32} {zer : Int32} {zen : Int32} {zpo : Nat → Int32} {zpi : Int32} {zgr : Int32} {zsh : Nat → Int32} {zsn : Int32} {o : Nat → Int64} (hfl : l.stackTraces = false) (hE : LE p s m meth c g b L xs xb r ob lim) (hi : 4 * i9 + 3 < L) (hC : CLS g xb lim q n rm sl sv tx ln H) (hR : ModAt g r q zsp rm (nI n) sl sv tx (nI ln) zth zsg zbg zwd zhg zin zop zbe zwi zhi zbk zot zer zen zpo zpi zgr zsh zsn H) (hO : at_ g H ob (eL g 1 o)) (hTx : TxT tx ln) (hS : va_S (fun q9 => xb ≤ q9) s.heap H locs) (hl : lv_has ls 7 [(0, .ref b), (1, .ref xb), (2, .ref r), (3, .ref ob), (4, .int (nI (4 * i9)))]) (hce7 : ce7 + 30 ≤ 622861) (hsn7 : sn7 + 1100 ≤ 7227521) (k : Nat) (a1 : xs (4 * i9 + 1) = nI k) (hk : k < 256) (hl60 : ln < 60) (kk : ∀ (H1 : Heap) (locs1 : List Loc) (ls1 : Array Slot), LI g xb r ob lim q n rm sl sv (upd tx ln (nI k)) (ln + 1) H1 → va_S (fun q9 => xb ≤ q9) s.heap H1 locs1 → lv_has ls1 7 [(0, .ref b), (1, .ref xb), (2, .ref r), (3, .ref ob), (4, .int (nI (4 * i9)))] → W p l e room_1 s m args below meth c H1 locs1 (ce7 + 30) (sn7 + 1100) Q (F0 m 1803 ls1 [])) : W p l e room_1 s m args below meth c H locs ce7 sn7 Q (F0 m 160 ls []) := by
  obtain ⟨hB, hZ9, hX, hbl, hL9, hxs, hr9, hob9, hlm9⟩ := hE
  have hx := hB.x
  have hb := hB.b
  have hbA : ¬ (fun q9 => xb ≤ q9) b := fun y9 => by have y8 : xb ≤ b := y9; omega
  have hW := hC.wf
  have hn14 := hC.n14
  have hl6c := hC.l60
  have hnm5 := hW.2.2.1
  refine lv_aload_n hx hb dL_law_160 rfl (lv_at hl 1 rfl) ?_
  refine lv_aload_n hx hb dL_law_161 rfl (lv_at hl 0 rfl) ?_
  refine lv_iload hx hb dL_law_162 (lv_at hl 4 rfl) ?_
  refine lv_iconst (v := nI 1) hx hb dL_law_164 (by decide) ?_
  refine mn_iadd hB dL_law_165 ?_
  refine va_sld hx hb hX hbl hbA hS (vp_in_nI (by omega) (by omega)) dL_law_166 ?_
  refine mh_top (y := .int (nI k)) (by rw [nI_clamp (by omega), a1]) ?_
  refine lv_aload_n hx hb dL_law_167 rfl (lv_at hl 3 rfl) ?_
  refine cw_96 (As := [.ref xb, .int (nI k), .ref ob]) (rest := []) hB (hZ9.at hS (fun _ h9 => h9)) (w_append_ok l g H xb lim q n rm sl sv tx ln k ob o (hC) (hO) (hk) (hl60) (⟨by omega, by omega⟩) (hfl)) rfl hl.1 (Nat.le_of_ble_eq_true rfl) dL_law_168 ⟨Nat.le_of_ble_eq_true rfl, Nat.le_of_ble_eq_true rfl⟩ ⟨by show (ce7) + 0 ≤ 622861; omega, by show (sn7) + 0 ≤ 7227521; omega⟩ hS (by have hz9 := hS.1; rintro q9 (h9 | h9) <;> first | exact h9.elim | (have h8 : r ≤ q9 ∧ q9 < r + 16 := h9; show xb ≤ q9; omega) | (have h8 : ((xb ≤ q9 ∧ q9 < xb + 68) ∨ lim ≤ q9) ∨ q9 = ob := h9; show xb ≤ q9; omega) | (have h8 : (xb ≤ q9 ∧ q9 < xb + 68) ∨ lim ≤ q9 := h9; show xb ≤ q9; omega) | (show xb ≤ q9; omega)) (fun v H1 locs hpo hfr hS => ?_)
  obtain ⟨rfl, hC, hO⟩ := hpo
  have hR := hR.keptF hfr (fun q9 h1 h2 y9 => by first | exact y9.elim | (have y8 : ((xb ≤ q9 ∧ q9 < xb + 68) ∨ lim ≤ q9) ∨ q9 = ob := y9; omega) | (have y8 : (xb ≤ q9 ∧ q9 < xb + 68) ∨ lim ≤ q9 := y9; omega))
  generalize H1 = H at hfr hS hR hX hC hO ⊢
  refine W.widen (k := ce7) (n := sn7) (by show (ce7) + 0 ≤ ce7; omega) (by show (sn7) + 0 ≤ sn7; omega) ?_
  refine lv_istore (lv' := [(5, .int (nI 0)), (0, .ref b), (1, .ref xb), (2, .ref r), (3, .ref ob), (4, .int (nI (4 * i9)))]) hx hb dL_law_171 hl (by decide) rfl (fun ls hl => ?_)
  refine lv_aload_n hx hb dL_law_173 rfl (lv_at hl 3 rfl) ?_
  refine lv_aload_n hx hb dL_law_174 rfl (lv_at hl 1 rfl) ?_
  refine lv_iload hx hb dL_law_175 (lv_at hl 5 rfl) ?_
  refine lv_iconst (v := nI 1) hx hb dL_law_177 (by decide) ?_
  refine mn_iadd hB dL_law_178 ?_
  refine va_sld hx hb hX hbl hbA hS (vp_in_nI (by omega) (by omega)) dL_law_179 ?_
  refine mh_top (y := .int (nI k)) (by rw [nI_clamp (by omega), a1]) ?_
  refine cl_L_101 (As := [.int (nI k)]) (rest := []) hB (c_X11_append l g H r q zsp rm (nI n) sl sv tx zth zsg zbg zwd zhg zin zop zbe zwi zhi zbk zot zer zen zpo zpi zgr zsh zsn ln k hR (hk) (by first | assumption | omega)) hR.o rfl hl.1 (Nat.le_of_ble_eq_true rfl) dL_law_180 ⟨Nat.le_of_ble_eq_true rfl, Nat.le_of_ble_eq_true rfl⟩ ⟨by show (ce7) + 0 ≤ 622861; omega, by show (sn7) + 0 ≤ 7227521; omega⟩ hS (by have hz9 := hS.1; rintro q9 (h9 | h9) <;> first | exact h9.elim | (have h8 : r ≤ q9 ∧ q9 < r + 16 := h9; show xb ≤ q9; omega) | (have h8 : ((xb ≤ q9 ∧ q9 < xb + 68) ∨ lim ≤ q9) ∨ q9 = ob := h9; show xb ≤ q9; omega) | (have h8 : (xb ≤ q9 ∧ q9 < xb + 68) ∨ lim ≤ q9 := h9; show xb ≤ q9; omega) | (show xb ≤ q9; omega)) (fun v H1 locs hpo hfr hS => ?_)
  obtain ⟨rfl, hR⟩ := hpo
  have hC := hC.keptM hfr (fun a9 y9 => by first | exact y9.elim | (have y8 : r ≤ a9 ∧ a9 < r + 16 := y9; omega))
  have hO := Fr.keep hfr hO (fun y9 => by first | exact y9.elim | (have y8 : r ≤ ob ∧ ob < r + 16 := y9; omega) | (have y8 : (xb ≤ ob ∧ ob < xb + 68) ∨ lim ≤ ob := y9; omega))
  generalize H1 = H at hfr hS hX hC hO hR ⊢
  refine W.widen (k := ce7) (n := sn7) (by show (ce7) + 0 ≤ ce7; omega) (by show (sn7) + 0 ≤ sn7; omega) ?_
  refine lv_istore (lv' := [(6, .int (nI (ln + 1))), (5, .int (nI 0)), (0, .ref b), (1, .ref xb), (2, .ref r), (3, .ref ob), (4, .int (nI (4 * i9)))]) hx hb dL_law_183 hl (by decide) rfl (fun ls hl => ?_)
  refine lv_aload_n hx hb dL_law_185 rfl (lv_at hl 4 rfl) ?_
  refine cl_L_102 (As := []) (rest := []) hB (c_X11_thrown l g H r q zsp rm (nI n) sl sv (upd tx ln (nI k)) (nI (ln + 1)) (nI 0) zsg zbg zwd zhg zin zop zbe zwi zhi zbk zot zer zen zpo zpi zgr zsh zsn hR) hR.o rfl hl.1 (Nat.le_of_ble_eq_true rfl) dL_law_186 ⟨Nat.le_of_ble_eq_true rfl, Nat.le_of_ble_eq_true rfl⟩ ⟨by show (ce7) + 0 ≤ 622861; omega, by show (sn7) + 0 ≤ 7227521; omega⟩ hS (by have hz9 := hS.1; rintro q9 (h9 | h9) <;> first | exact h9.elim | (have h8 : r ≤ q9 ∧ q9 < r + 16 := h9; show xb ≤ q9; omega) | (have h8 : ((xb ≤ q9 ∧ q9 < xb + 68) ∨ lim ≤ q9) ∨ q9 = ob := h9; show xb ≤ q9; omega) | (have h8 : (xb ≤ q9 ∧ q9 < xb + 68) ∨ lim ≤ q9 := h9; show xb ≤ q9; omega) | (show xb ≤ q9; omega)) (fun v H1 locs hpo hfr hS => ?_)
  obtain ⟨rfl, rfl⟩ := hpo
  refine W.widen (k := ce7) (n := sn7) (by show (ce7) + 0 ≤ ce7; omega) (by show (sn7) + 0 ≤ sn7; omega) ?_
  refine lv_iload hx hb dL_law_189 (lv_at hl 1 rfl) ?_
  refine lv_icmp_eq (tgt := 196) hx hb dL_law_191 (by decide) (fun h_191 => ?_) (fun h9 => absurd rfl h9)
  refine lv_iload hx hb dL_law_196 (lv_at hl 1 rfl) ?_
  refine mn_if_ne (tgt := 213) hB dL_law_198 (by decide) (by omega) (fun h => by exfalso; omega) (fun h_198 => ?_)
  refine lv_aload_n hx hb dL_law_201 rfl (lv_at hl 5 rfl) ?_
  refine lv_iconst (v := nI 0) hx hb dL_law_202 (by decide) ?_
  refine mn_lald hB hO (by omega) (by omega) dL_law_203 ?_
  refine mh_top (y := .long ((nI (ln + 1)).toInt64)) (rfl) ?_
  refine lv_iload hx hb dL_law_204 (lv_at hl 0 rfl) ?_
  refine lv_i2l (v := (nI (ln + 1)).toInt64) hx hb dL_law_206 rfl ?_
  refine W.lcmp hx hb dL_law_207 ?_
  refine ml_if_eq (tgt := 213) hB dL_law_208 (by decide) (fun h_208 => ?_) (fun h => absurd rfl h)
  refine lv_goto (tgt := 1803) hx hb dL_law_213 (by decide) ?_
  refine W.widen (k := ce7 + 30) (n := sn7 + 1100) (by omega) (by omega) ?_
  exact kk _ _ _ ⟨hC, ⟨_, _, _, _, _, _, _, _, _, _, _, _, _, _, _, _, _, _, _, _, hR⟩, ⟨_, hO⟩, txt_app hTx hk⟩ hS (lv_sub hl [2, 3, 4, 5, 6] rfl)

set_option maxRecDepth 100000 in
set_option maxHeartbeats 800000 in
theorem s_clearText_ok {p : Program} {l : Launch} {e : Env} {s : State} {m : MethodId} {args : Array Value} {below : List Frame} {meth : Method} {c : Code} {H : Heap} {locs : List Loc} {ce7 sn7 : Nat} {Q : State → Prop} {g : GG} {b L xb r ob lim : Nat} {xs : Nat → Int32} {i9 : Nat} {ls : Array Slot} {q : Nat → Int32} {n : Nat} {rm sl sv tx : Nat → Int32} {ln : Nat} {zsp : Nat → Int32} {zth : Int32} {zsg : Nat → Int32} {zbg : Nat → Int32} {zwd : Nat → Int32} {zhg : Nat → Int32} {zin : Nat → Int32} {zop : Int32} {zbe : Int32} {zwi : Int32} {zhi : Int32} {zbk : Nat → Int32} {zot : Nat → Int32} {zer : Int32} {zen : Int32} {zpo : Nat → Int32} {zpi : Int32} {zgr : Int32} {zsh : Nat → Int32} {zsn : Int32} {o : Nat → Int64} (hfl : l.stackTraces = false) (hE : LE p s m meth c g b L xs xb r ob lim) (hi : 4 * i9 + 3 < L) (hC : CLS g xb lim q n rm sl sv tx ln H) (hR : ModAt g r q zsp rm (nI n) sl sv tx (nI ln) zth zsg zbg zwd zhg zin zop zbe zwi zhi zbk zot zer zen zpo zpi zgr zsh zsn H) (hO : at_ g H ob (eL g 1 o)) (hTx : TxT tx ln) (hS : va_S (fun q9 => xb ≤ q9) s.heap H locs) (hl : lv_has ls 7 [(0, .ref b), (1, .ref xb), (2, .ref r), (3, .ref ob), (4, .int (nI (4 * i9)))]) (hce7 : ce7 + 30 ≤ 622861) (hsn7 : sn7 + 1100 ≤ 7227521) (kk : ∀ (H1 : Heap) (locs1 : List Loc) (ls1 : Array Slot), LI g xb r ob lim q n rm sl sv tx 0 H1 → va_S (fun q9 => xb ≤ q9) s.heap H1 locs1 → lv_has ls1 7 [(0, .ref b), (1, .ref xb), (2, .ref r), (3, .ref ob), (4, .int (nI (4 * i9)))] → W p l e room_1 s m args below meth c H1 locs1 (ce7 + 30) (sn7 + 1100) Q (F0 m 1803 ls1 [])) : W p l e room_1 s m args below meth c H locs ce7 sn7 Q (F0 m 216 ls []) := by
  obtain ⟨hB, hZ9, hX, hbl, hL9, hxs, hr9, hob9, hlm9⟩ := hE
  have hx := hB.x
  have hb := hB.b
  have hbA : ¬ (fun q9 => xb ≤ q9) b := fun y9 => by have y8 : xb ≤ b := y9; omega
  have hW := hC.wf
  have hn14 := hC.n14
  have hl6c := hC.l60
  have hnm5 := hW.2.2.1
  refine lv_aload_n hx hb dL_law_216 rfl (lv_at hl 1 rfl) ?_
  refine cl_L_105 (As := []) (rest := []) hB (f_X10_clearText l g H xb lim q n rm sl sv tx ln (hC)) hC.ob rfl hl.1 (Nat.le_of_ble_eq_true rfl) dL_law_217 ⟨Nat.le_of_ble_eq_true rfl, Nat.le_of_ble_eq_true rfl⟩ ⟨by show (ce7) + 0 ≤ 622861; omega, by show (sn7) + 0 ≤ 7227521; omega⟩ hS (by have hz9 := hS.1; rintro q9 (h9 | h9) <;> first | exact h9.elim | (have h8 : r ≤ q9 ∧ q9 < r + 16 := h9; show xb ≤ q9; omega) | (have h8 : ((xb ≤ q9 ∧ q9 < xb + 68) ∨ lim ≤ q9) ∨ q9 = ob := h9; show xb ≤ q9; omega) | (have h8 : (xb ≤ q9 ∧ q9 < xb + 68) ∨ lim ≤ q9 := h9; show xb ≤ q9; omega) | (show xb ≤ q9; omega)) (fun v H1 locs hpo hfr hS => ?_)
  obtain ⟨rfl, hC⟩ := hpo
  have hR := hR.keptF hfr (fun q9 h1 h2 y9 => by first | exact y9.elim | (have y8 : ((xb ≤ q9 ∧ q9 < xb + 68) ∨ lim ≤ q9) ∨ q9 = ob := y9; omega) | (have y8 : (xb ≤ q9 ∧ q9 < xb + 68) ∨ lim ≤ q9 := y9; omega))
  have hO := Fr.keep hfr hO (fun y9 => by first | exact y9.elim | (have y8 : r ≤ ob ∧ ob < r + 16 := y9; omega) | (have y8 : (xb ≤ ob ∧ ob < xb + 68) ∨ lim ≤ ob := y9; omega))
  generalize H1 = H at hfr hS hR hO hX hC ⊢
  refine W.widen (k := ce7) (n := sn7) (by show (ce7) + 0 ≤ ce7; omega) (by show (sn7) + 0 ≤ sn7; omega) ?_
  refine lv_aload_n hx hb dL_law_220 rfl (lv_at hl 2 rfl) ?_
  refine cl_L_108 (As := []) (rest := [.int (nI ln)]) hB (c_X11_clearText l g H r q zsp rm (nI n) sl sv tx zth zsg zbg zwd zhg zin zop zbe zwi zhi zbk zot zer zen zpo zpi zgr zsh zsn ln hR) hR.o rfl hl.1 (Nat.le_of_ble_eq_true rfl) dL_law_221 ⟨Nat.le_of_ble_eq_true rfl, Nat.le_of_ble_eq_true rfl⟩ ⟨by show (ce7) + 0 ≤ 622861; omega, by show (sn7) + 0 ≤ 7227521; omega⟩ hS (by have hz9 := hS.1; rintro q9 (h9 | h9) <;> first | exact h9.elim | (have h8 : r ≤ q9 ∧ q9 < r + 16 := h9; show xb ≤ q9; omega) | (have h8 : ((xb ≤ q9 ∧ q9 < xb + 68) ∨ lim ≤ q9) ∨ q9 = ob := h9; show xb ≤ q9; omega) | (have h8 : (xb ≤ q9 ∧ q9 < xb + 68) ∨ lim ≤ q9 := h9; show xb ≤ q9; omega) | (show xb ≤ q9; omega)) (fun v H1 locs hpo hfr hS => ?_)
  obtain ⟨rfl, hR⟩ := hpo
  have hO := Fr.keep hfr hO (fun y9 => by first | exact y9.elim | (have y8 : r ≤ ob ∧ ob < r + 16 := y9; omega) | (have y8 : (xb ≤ ob ∧ ob < xb + 68) ∨ lim ≤ ob := y9; omega))
  have hC := hC.keptM hfr (fun a9 y9 => by first | exact y9.elim | (have y8 : r ≤ a9 ∧ a9 < r + 16 := y9; omega))
  generalize H1 = H at hfr hS hO hX hC hR ⊢
  refine W.widen (k := ce7) (n := sn7) (by show (ce7) + 0 ≤ ce7; omega) (by show (sn7) + 0 ≤ sn7; omega) ?_
  refine lv_icmp_eq (tgt := 1803) hx hb dL_law_224 (by decide) (fun h_224 => ?_) (fun h9 => absurd rfl h9)
  refine W.widen (k := ce7 + 30) (n := sn7 + 1100) (by omega) (by omega) ?_
  exact kk _ _ _ ⟨hC, ⟨_, _, _, _, _, _, _, _, _, _, _, _, _, _, _, _, _, _, _, _, hR⟩, ⟨_, hO⟩, fun j9 h9 => absurd h9 (Nat.not_lt_zero _)⟩ hS (lv_sub hl [0, 1, 2, 3, 4] rfl)

set_option maxRecDepth 100000 in
set_option maxHeartbeats 800000 in
theorem s_errorPosition_e {p : Program} {l : Launch} {e : Env} {s : State} {m : MethodId} {args : Array Value} {below : List Frame} {meth : Method} {c : Code} {H : Heap} {locs : List Loc} {ce7 sn7 : Nat} {Q : State → Prop} {g : GG} {b L xb r ob lim : Nat} {xs : Nat → Int32} {i9 : Nat} {ls : Array Slot} {q : Nat → Int32} {n : Nat} {rm sl sv tx : Nat → Int32} {ln : Nat} {zsp : Nat → Int32} {zth : Int32} {zsg : Nat → Int32} {zbg : Nat → Int32} {zwd : Nat → Int32} {zhg : Nat → Int32} {zin : Nat → Int32} {zop : Int32} {zbe : Int32} {zwi : Int32} {zhi : Int32} {zbk : Nat → Int32} {zot : Nat → Int32} {zer : Int32} {zen : Int32} {zpo : Nat → Int32} {zpi : Int32} {zgr : Int32} {zsh : Nat → Int32} {zsn : Int32} {o : Nat → Int64} (hfl : l.stackTraces = false) (hE : LE p s m meth c g b L xs xb r ob lim) (hi : 4 * i9 + 3 < L) (hC : CLS g xb lim q n rm sl sv tx ln H) (hR : ModAt g r q zsp rm (nI n) sl sv tx (nI ln) zth zsg zbg zwd zhg zin zop zbe zwi zhi zbk zot zer zen zpo zpi zgr zsh zsn H) (hO : at_ g H ob (eL g 1 o)) (hTx : TxT tx ln) (hS : va_S (fun q9 => xb ≤ q9) s.heap H locs) (hl : lv_has ls 7 [(0, .ref b), (1, .ref xb), (2, .ref r), (3, .ref ob), (4, .int (nI (4 * i9)))]) (hce7 : ce7 + 30 ≤ 622861) (hsn7 : sn7 + 1100 ≤ 7227521) (e9 : Nat) (hw : wholeS (qn tx) ln = .inl e9) (kk : ∀ (H1 : Heap) (locs1 : List Loc) (ls1 : Array Slot), LI g xb r ob lim q n rm sl sv tx ln H1 → va_S (fun q9 => xb ≤ q9) s.heap H1 locs1 → lv_has ls1 7 [(0, .ref b), (1, .ref xb), (2, .ref r), (3, .ref ob), (4, .int (nI (4 * i9)))] → W p l e room_1 s m args below meth c H1 locs1 (ce7 + 30) (sn7 + 1100) Q (F0 m 1803 ls1 [])) : W p l e room_1 s m args below meth c H locs ce7 sn7 Q (F0 m 229 ls []) := by
  obtain ⟨hB, hZ9, hX, hbl, hL9, hxs, hr9, hob9, hlm9⟩ := hE
  have hx := hB.x
  have hb := hB.b
  have hbA : ¬ (fun q9 => xb ≤ q9) b := fun y9 => by have y8 : xb ≤ b := y9; omega
  have hW := hC.wf
  have hn14 := hC.n14
  have hl6c := hC.l60
  have hnm5 := hW.2.2.1
  have he60 := whole_le hl6c hw
  refine lv_aload_n hx hb dL_law_229 rfl (lv_at hl 1 rfl) ?_
  refine cl_L_109 (As := []) (rest := []) hB (f_X10_errorPosition l g H xb lim q n rm sl sv tx ln (qn tx) (hC) (hTx)) hC.ob rfl hl.1 (Nat.le_of_ble_eq_true rfl) dL_law_230 ⟨Nat.le_of_ble_eq_true rfl, Nat.le_of_ble_eq_true rfl⟩ ⟨by show (ce7) + 0 ≤ 622861; omega, by show (sn7) + 0 ≤ 7227521; omega⟩ hS (by have hz9 := hS.1; rintro q9 (h9 | h9) <;> first | exact h9.elim | (have h8 : r ≤ q9 ∧ q9 < r + 16 := h9; show xb ≤ q9; omega) | (have h8 : ((xb ≤ q9 ∧ q9 < xb + 68) ∨ lim ≤ q9) ∨ q9 = ob := h9; show xb ≤ q9; omega) | (have h8 : (xb ≤ q9 ∧ q9 < xb + 68) ∨ lim ≤ q9 := h9; show xb ≤ q9; omega) | (show xb ≤ q9; omega)) (fun v H1 locs hpo hfr hS => ?_)
  obtain ⟨rfl, hC⟩ := hpo
  have hR := hR.keptF hfr (fun q9 h1 h2 y9 => by first | exact y9.elim | (have y8 : ((xb ≤ q9 ∧ q9 < xb + 68) ∨ lim ≤ q9) ∨ q9 = ob := y9; omega) | (have y8 : (xb ≤ q9 ∧ q9 < xb + 68) ∨ lim ≤ q9 := y9; omega))
  have hO := Fr.keep hfr hO (fun y9 => by first | exact y9.elim | (have y8 : r ≤ ob ∧ ob < r + 16 := y9; omega) | (have y8 : (xb ≤ ob ∧ ob < xb + 68) ∨ lim ≤ ob := y9; omega))
  generalize H1 = H at hfr hS hR hO hX hC ⊢
  refine W.widen (k := ce7) (n := sn7) (by show (ce7) + 0 ≤ ce7; omega) (by show (sn7) + 0 ≤ sn7; omega) ?_
  refine mh_top (y := .int (nI e9)) (by rw [hw]; rfl) ?_
  refine lv_aload_n hx hb dL_law_233 rfl (lv_at hl 2 rfl) ?_
  refine cl_L_112 (As := []) (rest := [.int (nI e9)]) hB (c_X11_errorPosition_e l g H r q zsp rm (nI n) sl sv tx zth zsg zbg zwd zhg zin zop zbe zwi zhi zbk zot zer zen zpo zpi zgr zsh zsn (qn tx) ln e9 hR (by first | assumption | omega) (hTx) (hw)) hR.o rfl hl.1 (Nat.le_of_ble_eq_true rfl) dL_law_234 ⟨Nat.le_of_ble_eq_true rfl, Nat.le_of_ble_eq_true rfl⟩ ⟨by show (ce7) + 0 ≤ 622861; omega, by show (sn7) + 0 ≤ 7227521; omega⟩ hS (by have hz9 := hS.1; rintro q9 (h9 | h9) <;> first | exact h9.elim | (have h8 : r ≤ q9 ∧ q9 < r + 16 := h9; show xb ≤ q9; omega) | (have h8 : ((xb ≤ q9 ∧ q9 < xb + 68) ∨ lim ≤ q9) ∨ q9 = ob := h9; show xb ≤ q9; omega) | (have h8 : (xb ≤ q9 ∧ q9 < xb + 68) ∨ lim ≤ q9 := h9; show xb ≤ q9; omega) | (show xb ≤ q9; omega)) (fun v H1 locs hpo hfr hS => ?_)
  obtain ⟨rfl, op2_1, be2_2, wi2_3, hi2_4, bk2_5, ot2_6, wd2_7, hg2_8, in2_9, er2_10, en2_11, sg2_12, bg2_13, hR⟩ := hpo
  have hO := Fr.keep hfr hO (fun y9 => by first | exact y9.elim | (have y8 : r ≤ ob ∧ ob < r + 16 := y9; omega) | (have y8 : (xb ≤ ob ∧ ob < xb + 68) ∨ lim ≤ ob := y9; omega))
  have hC := hC.keptM hfr (fun a9 y9 => by first | exact y9.elim | (have y8 : r ≤ a9 ∧ a9 < r + 16 := y9; omega))
  generalize H1 = H at hfr hS hO hX hC hR ⊢
  refine W.widen (k := ce7) (n := sn7) (by show (ce7) + 0 ≤ ce7; omega) (by show (sn7) + 0 ≤ sn7; omega) ?_
  refine lv_icmp_eq (tgt := 1803) hx hb dL_law_237 (by decide) (fun h_237 => ?_) (fun h9 => absurd rfl h9)
  refine W.widen (k := ce7 + 30) (n := sn7 + 1100) (by omega) (by omega) ?_
  exact kk _ _ _ ⟨hC, ⟨_, _, _, _, _, _, _, _, _, _, _, _, _, _, _, _, _, _, _, _, hR⟩, ⟨_, hO⟩, hTx⟩ hS (lv_sub hl [0, 1, 2, 3, 4] rfl)

set_option maxRecDepth 100000 in
set_option maxHeartbeats 800000 in
theorem s_errorPosition_o {p : Program} {l : Launch} {e : Env} {s : State} {m : MethodId} {args : Array Value} {below : List Frame} {meth : Method} {c : Code} {H : Heap} {locs : List Loc} {ce7 sn7 : Nat} {Q : State → Prop} {g : GG} {b L xb r ob lim : Nat} {xs : Nat → Int32} {i9 : Nat} {ls : Array Slot} {q : Nat → Int32} {n : Nat} {rm sl sv tx : Nat → Int32} {ln : Nat} {zsp : Nat → Int32} {zth : Int32} {zsg : Nat → Int32} {zbg : Nat → Int32} {zwd : Nat → Int32} {zhg : Nat → Int32} {zin : Nat → Int32} {zop : Int32} {zbe : Int32} {zwi : Int32} {zhi : Int32} {zbk : Nat → Int32} {zot : Nat → Int32} {zer : Int32} {zen : Int32} {zpo : Nat → Int32} {zpi : Int32} {zgr : Int32} {zsh : Nat → Int32} {zsn : Int32} {o : Nat → Int64} (hfl : l.stackTraces = false) (hE : LE p s m meth c g b L xs xb r ob lim) (hi : 4 * i9 + 3 < L) (hC : CLS g xb lim q n rm sl sv tx ln H) (hR : ModAt g r q zsp rm (nI n) sl sv tx (nI ln) zth zsg zbg zwd zhg zin zop zbe zwi zhi zbk zot zer zen zpo zpi zgr zsh zsn H) (hO : at_ g H ob (eL g 1 o)) (hTx : TxT tx ln) (hS : va_S (fun q9 => xb ≤ q9) s.heap H locs) (hl : lv_has ls 7 [(0, .ref b), (1, .ref xb), (2, .ref r), (3, .ref ob), (4, .int (nI (4 * i9)))]) (hce7 : ce7 + 30 ≤ 622861) (hsn7 : sn7 + 1100 ≤ 7227521) (b1 : PBl) (hw : wholeS (qn tx) ln = .inr b1) (kk : ∀ (H1 : Heap) (locs1 : List Loc) (ls1 : Array Slot), LI g xb r ob lim q n rm sl sv tx ln H1 → va_S (fun q9 => xb ≤ q9) s.heap H1 locs1 → lv_has ls1 7 [(0, .ref b), (1, .ref xb), (2, .ref r), (3, .ref ob), (4, .int (nI (4 * i9)))] → W p l e room_1 s m args below meth c H1 locs1 (ce7 + 30) (sn7 + 1100) Q (F0 m 1803 ls1 [])) : W p l e room_1 s m args below meth c H locs ce7 sn7 Q (F0 m 229 ls []) := by
  obtain ⟨hB, hZ9, hX, hbl, hL9, hxs, hr9, hob9, hlm9⟩ := hE
  have hx := hB.x
  have hb := hB.b
  have hbA : ¬ (fun q9 => xb ≤ q9) b := fun y9 => by have y8 : xb ≤ b := y9; omega
  have hW := hC.wf
  have hn14 := hC.n14
  have hl6c := hC.l60
  have hnm5 := hW.2.2.1
  refine lv_aload_n hx hb dL_law_229 rfl (lv_at hl 1 rfl) ?_
  refine cl_L_109 (As := []) (rest := []) hB (f_X10_errorPosition l g H xb lim q n rm sl sv tx ln (qn tx) (hC) (hTx)) hC.ob rfl hl.1 (Nat.le_of_ble_eq_true rfl) dL_law_230 ⟨Nat.le_of_ble_eq_true rfl, Nat.le_of_ble_eq_true rfl⟩ ⟨by show (ce7) + 0 ≤ 622861; omega, by show (sn7) + 0 ≤ 7227521; omega⟩ hS (by have hz9 := hS.1; rintro q9 (h9 | h9) <;> first | exact h9.elim | (have h8 : r ≤ q9 ∧ q9 < r + 16 := h9; show xb ≤ q9; omega) | (have h8 : ((xb ≤ q9 ∧ q9 < xb + 68) ∨ lim ≤ q9) ∨ q9 = ob := h9; show xb ≤ q9; omega) | (have h8 : (xb ≤ q9 ∧ q9 < xb + 68) ∨ lim ≤ q9 := h9; show xb ≤ q9; omega) | (show xb ≤ q9; omega)) (fun v H1 locs hpo hfr hS => ?_)
  obtain ⟨rfl, hC⟩ := hpo
  have hR := hR.keptF hfr (fun q9 h1 h2 y9 => by first | exact y9.elim | (have y8 : ((xb ≤ q9 ∧ q9 < xb + 68) ∨ lim ≤ q9) ∨ q9 = ob := y9; omega) | (have y8 : (xb ≤ q9 ∧ q9 < xb + 68) ∨ lim ≤ q9 := y9; omega))
  have hO := Fr.keep hfr hO (fun y9 => by first | exact y9.elim | (have y8 : r ≤ ob ∧ ob < r + 16 := y9; omega) | (have y8 : (xb ≤ ob ∧ ob < xb + 68) ∨ lim ≤ ob := y9; omega))
  generalize H1 = H at hfr hS hR hO hX hC ⊢
  refine W.widen (k := ce7) (n := sn7) (by show (ce7) + 0 ≤ ce7; omega) (by show (sn7) + 0 ≤ sn7; omega) ?_
  refine mh_top (y := .int (-9)) (by rw [hw]; rfl) ?_
  refine lv_aload_n hx hb dL_law_233 rfl (lv_at hl 2 rfl) ?_
  refine cl_L_112 (As := []) (rest := [.int (-9)]) hB (c_X11_errorPosition_o l g H r q zsp rm (nI n) sl sv tx zth zsg zbg zwd zhg zin zop zbe zwi zhi zbk zot zer zen zpo zpi zgr zsh zsn (qn tx) ln b1 hR (by first | assumption | omega) (hTx) (hw)) hR.o rfl hl.1 (Nat.le_of_ble_eq_true rfl) dL_law_234 ⟨Nat.le_of_ble_eq_true rfl, Nat.le_of_ble_eq_true rfl⟩ ⟨by show (ce7) + 0 ≤ 622861; omega, by show (sn7) + 0 ≤ 7227521; omega⟩ hS (by have hz9 := hS.1; rintro q9 (h9 | h9) <;> first | exact h9.elim | (have h8 : r ≤ q9 ∧ q9 < r + 16 := h9; show xb ≤ q9; omega) | (have h8 : ((xb ≤ q9 ∧ q9 < xb + 68) ∨ lim ≤ q9) ∨ q9 = ob := h9; show xb ≤ q9; omega) | (have h8 : (xb ≤ q9 ∧ q9 < xb + 68) ∨ lim ≤ q9 := h9; show xb ≤ q9; omega) | (show xb ≤ q9; omega)) (fun v H1 locs hpo hfr hS => ?_)
  obtain ⟨rfl, op2_1, be2_2, wi2_3, hi2_4, bk2_5, ot2_6, wd2_7, hg2_8, in2_9, er2_10, en2_11, sg2_12, bg2_13, hR⟩ := hpo
  have hO := Fr.keep hfr hO (fun y9 => by first | exact y9.elim | (have y8 : r ≤ ob ∧ ob < r + 16 := y9; omega) | (have y8 : (xb ≤ ob ∧ ob < xb + 68) ∨ lim ≤ ob := y9; omega))
  have hC := hC.keptM hfr (fun a9 y9 => by first | exact y9.elim | (have y8 : r ≤ a9 ∧ a9 < r + 16 := y9; omega))
  generalize H1 = H at hfr hS hO hX hC hR ⊢
  refine W.widen (k := ce7) (n := sn7) (by show (ce7) + 0 ≤ ce7; omega) (by show (sn7) + 0 ≤ sn7; omega) ?_
  refine lv_icmp_eq (tgt := 1803) hx hb dL_law_237 (by decide) (fun h_237 => ?_) (fun h9 => absurd rfl h9)
  refine W.widen (k := ce7 + 30) (n := sn7 + 1100) (by omega) (by omega) ?_
  exact kk _ _ _ ⟨hC, ⟨_, _, _, _, _, _, _, _, _, _, _, _, _, _, _, _, _, _, _, _, hR⟩, ⟨_, hO⟩, hTx⟩ hS (lv_sub hl [0, 1, 2, 3, 4] rfl)

set_option maxRecDepth 100000 in
set_option maxHeartbeats 800000 in
theorem s_about_t1 {p : Program} {l : Launch} {e : Env} {s : State} {m : MethodId} {args : Array Value} {below : List Frame} {meth : Method} {c : Code} {H : Heap} {locs : List Loc} {ce7 sn7 : Nat} {Q : State → Prop} {g : GG} {b L xb r ob lim : Nat} {xs : Nat → Int32} {i9 : Nat} {ls : Array Slot} {q : Nat → Int32} {n : Nat} {rm sl sv tx : Nat → Int32} {ln : Nat} {zsp : Nat → Int32} {zth : Int32} {zsg : Nat → Int32} {zbg : Nat → Int32} {zwd : Nat → Int32} {zhg : Nat → Int32} {zin : Nat → Int32} {zop : Int32} {zbe : Int32} {zwi : Int32} {zhi : Int32} {zbk : Nat → Int32} {zot : Nat → Int32} {zer : Int32} {zen : Int32} {zpo : Nat → Int32} {zpi : Int32} {zgr : Int32} {zsh : Nat → Int32} {zsn : Int32} {o : Nat → Int64} (hfl : l.stackTraces = false) (hE : LE p s m meth c g b L xs xb r ob lim) (hi : 4 * i9 + 3 < L) (hC : CLS g xb lim q n rm sl sv tx ln H) (hR : ModAt g r q zsp rm (nI n) sl sv tx (nI ln) zth zsg zbg zwd zhg zin zop zbe zwi zhi zbk zot zer zen zpo zpi zgr zsh zsn H) (hO : at_ g H ob (eL g 1 o)) (hTx : TxT tx ln) (hS : va_S (fun q9 => xb ≤ q9) s.heap H locs) (hl : lv_has ls 7 [(0, .ref b), (1, .ref xb), (2, .ref r), (3, .ref ob), (4, .int (nI (4 * i9)))]) (hce7 : ce7 + 30 ≤ 622861) (hsn7 : sn7 + 1100 ≤ 7227521) (x : Int32) (a1 : xs (4 * i9 + 1) = x) (hx1 : isIx x 9 = false) (kk : ∀ (H1 : Heap) (locs1 : List Loc) (ls1 : Array Slot), LI g xb r ob lim q n rm sl sv tx ln H1 → va_S (fun q9 => xb ≤ q9) s.heap H1 locs1 → lv_has ls1 7 [(0, .ref b), (1, .ref xb), (2, .ref r), (3, .ref ob), (4, .int (nI (4 * i9)))] → W p l e room_1 s m args below meth c H1 locs1 (ce7 + 30) (sn7 + 1100) Q (F0 m 1803 ls1 [])) : W p l e room_1 s m args below meth c H locs ce7 sn7 Q (F0 m 242 ls []) := by
  obtain ⟨hB, hZ9, hX, hbl, hL9, hxs, hr9, hob9, hlm9⟩ := hE
  have hx := hB.x
  have hb := hB.b
  have hbA : ¬ (fun q9 => xb ≤ q9) b := fun y9 => by have y8 : xb ≤ b := y9; omega
  have hW := hC.wf
  have hn14 := hC.n14
  have hl6c := hC.l60
  have hnm5 := hW.2.2.1
  refine lv_aload_n hx hb dL_law_242 rfl (lv_at hl 1 rfl) ?_
  refine lv_aload_n hx hb dL_law_243 rfl (lv_at hl 0 rfl) ?_
  refine lv_iload hx hb dL_law_244 (lv_at hl 4 rfl) ?_
  refine lv_iconst (v := nI 1) hx hb dL_law_246 (by decide) ?_
  refine mn_iadd hB dL_law_247 ?_
  refine va_sld hx hb hX hbl hbA hS (vp_in_nI (by omega) (by omega)) dL_law_248 ?_
  refine mh_top (y := .int x) (by rw [nI_clamp (by omega), a1]) ?_
  refine lv_aload_n hx hb dL_law_249 rfl (lv_at hl 3 rfl) ?_
  refine cw_113 (As := [.ref xb, .int x, .ref ob]) (rest := []) hB (hZ9.at hS (fun _ h9 => h9)) (w_about_t1 l g H xb lim q n rm sl sv tx ln x ob o (hC) (hO) (hx1) (⟨by omega, by omega⟩) (hfl)) rfl hl.1 (Nat.le_of_ble_eq_true rfl) dL_law_250 ⟨Nat.le_of_ble_eq_true rfl, Nat.le_of_ble_eq_true rfl⟩ ⟨by show (ce7) + 1 ≤ 622861; omega, by show (sn7) + 6 ≤ 7227521; omega⟩ hS (by have hz9 := hS.1; rintro q9 (h9 | h9) <;> first | exact h9.elim | (have h8 : r ≤ q9 ∧ q9 < r + 16 := h9; show xb ≤ q9; omega) | (have h8 : ((xb ≤ q9 ∧ q9 < xb + 68) ∨ lim ≤ q9) ∨ q9 = ob := h9; show xb ≤ q9; omega) | (have h8 : (xb ≤ q9 ∧ q9 < xb + 68) ∨ lim ≤ q9 := h9; show xb ≤ q9; omega) | (show xb ≤ q9; omega)) (fun v H1 locs hpo hfr hS => ?_)
  obtain ⟨rfl, hC, hO⟩ := hpo
  have hR := hR.keptF hfr (fun q9 h1 h2 y9 => by first | exact y9.elim | (have y8 : ((xb ≤ q9 ∧ q9 < xb + 68) ∨ lim ≤ q9) ∨ q9 = ob := y9; omega) | (have y8 : (xb ≤ q9 ∧ q9 < xb + 68) ∨ lim ≤ q9 := y9; omega))
  generalize H1 = H at hfr hS hR hX hC hO ⊢
  refine W.widen (k := ce7 + 1) (n := sn7 + 6) (by show (ce7) + 1 ≤ ce7 + 1; omega) (by show (sn7) + 6 ≤ sn7 + 6; omega) ?_
  refine lv_istore (lv' := [(5, .int (nI 1)), (0, .ref b), (1, .ref xb), (2, .ref r), (3, .ref ob), (4, .int (nI (4 * i9)))]) hx hb dL_law_253 hl (by decide) rfl (fun ls hl => ?_)
  refine lv_aload_n hx hb dL_law_255 rfl (lv_at hl 3 rfl) ?_
  refine lv_aload_n hx hb dL_law_256 rfl (lv_at hl 1 rfl) ?_
  refine lv_iload hx hb dL_law_257 (lv_at hl 5 rfl) ?_
  refine lv_iconst (v := nI 1) hx hb dL_law_259 (by decide) ?_
  refine mn_iadd hB dL_law_260 ?_
  refine va_sld hx hb hX hbl hbA hS (vp_in_nI (by omega) (by omega)) dL_law_261 ?_
  refine mh_top (y := .int x) (by rw [nI_clamp (by omega), a1]) ?_
  refine cl_L_115 (As := [.int x]) (rest := []) hB (c_X11_about_t1 l g H r q zsp rm (nI n) sl sv tx (nI ln) zth zsg zbg zwd zhg zin zop zbe zwi zhi zbk zot zer zen zpo zpi zgr zsh zsn x hR (hx1) (by first | assumption | omega)) hR.o rfl hl.1 (Nat.le_of_ble_eq_true rfl) dL_law_262 ⟨Nat.le_of_ble_eq_true rfl, Nat.le_of_ble_eq_true rfl⟩ ⟨by show (ce7 + 1) + 0 ≤ 622861; omega, by show (sn7 + 6) + 0 ≤ 7227521; omega⟩ hS (by have hz9 := hS.1; rintro q9 (h9 | h9) <;> first | exact h9.elim | (have h8 : r ≤ q9 ∧ q9 < r + 16 := h9; show xb ≤ q9; omega) | (have h8 : ((xb ≤ q9 ∧ q9 < xb + 68) ∨ lim ≤ q9) ∨ q9 = ob := h9; show xb ≤ q9; omega) | (have h8 : (xb ≤ q9 ∧ q9 < xb + 68) ∨ lim ≤ q9 := h9; show xb ≤ q9; omega) | (show xb ≤ q9; omega)) (fun v H1 locs hpo hfr hS => ?_)
  obtain ⟨rfl, hR⟩ := hpo
  have hC := hC.keptM hfr (fun a9 y9 => by first | exact y9.elim | (have y8 : r ≤ a9 ∧ a9 < r + 16 := y9; omega))
  have hO := Fr.keep hfr hO (fun y9 => by first | exact y9.elim | (have y8 : r ≤ ob ∧ ob < r + 16 := y9; omega) | (have y8 : (xb ≤ ob ∧ ob < xb + 68) ∨ lim ≤ ob := y9; omega))
  generalize H1 = H at hfr hS hX hC hO hR ⊢
  refine W.widen (k := ce7 + 1) (n := sn7 + 6) (by show (ce7 + 1) + 0 ≤ ce7 + 1; omega) (by show (sn7 + 6) + 0 ≤ sn7 + 6; omega) ?_
  refine lv_istore (lv' := [(6, .int (nI 0)), (5, .int (nI 1)), (0, .ref b), (1, .ref xb), (2, .ref r), (3, .ref ob), (4, .int (nI (4 * i9)))]) hx hb dL_law_265 hl (by decide) rfl (fun ls hl => ?_)
  refine lv_aload_n hx hb dL_law_267 rfl (lv_at hl 4 rfl) ?_
  refine cl_L_102 (As := []) (rest := []) hB (c_X11_thrown l g H r q zsp rm (nI n) sl sv tx (nI ln) (nI 1) zsg zbg zwd zhg zin zop zbe zwi zhi zbk zot zer zen zpo zpi zgr zsh zsn hR) hR.o rfl hl.1 (Nat.le_of_ble_eq_true rfl) dL_law_268 ⟨Nat.le_of_ble_eq_true rfl, Nat.le_of_ble_eq_true rfl⟩ ⟨by show (ce7 + 1) + 0 ≤ 622861; omega, by show (sn7 + 6) + 0 ≤ 7227521; omega⟩ hS (by have hz9 := hS.1; rintro q9 (h9 | h9) <;> first | exact h9.elim | (have h8 : r ≤ q9 ∧ q9 < r + 16 := h9; show xb ≤ q9; omega) | (have h8 : ((xb ≤ q9 ∧ q9 < xb + 68) ∨ lim ≤ q9) ∨ q9 = ob := h9; show xb ≤ q9; omega) | (have h8 : (xb ≤ q9 ∧ q9 < xb + 68) ∨ lim ≤ q9 := h9; show xb ≤ q9; omega) | (show xb ≤ q9; omega)) (fun v H1 locs hpo hfr hS => ?_)
  obtain ⟨rfl, rfl⟩ := hpo
  refine W.widen (k := ce7 + 1) (n := sn7 + 6) (by show (ce7 + 1) + 0 ≤ ce7 + 1; omega) (by show (sn7 + 6) + 0 ≤ sn7 + 6; omega) ?_
  refine lv_iload hx hb dL_law_271 (lv_at hl 1 rfl) ?_
  refine lv_icmp_eq (tgt := 278) hx hb dL_law_273 (by decide) (fun h_273 => ?_) (fun h9 => absurd rfl h9)
  refine lv_iload hx hb dL_law_278 (lv_at hl 1 rfl) ?_
  refine mn_if_ne (tgt := 295) hB dL_law_280 (by decide) (by omega) (fun h_280 => ?_) (fun h => by exfalso; omega)
  refine lv_goto (tgt := 1803) hx hb dL_law_295 (by decide) ?_
  refine W.widen (k := ce7 + 30) (n := sn7 + 1100) (by omega) (by omega) ?_
  exact kk _ _ _ ⟨hC, ⟨_, _, _, _, _, _, _, _, _, _, _, _, _, _, _, _, _, _, _, _, hR⟩, ⟨_, hO⟩, hTx⟩ hS (lv_sub hl [2, 3, 4, 5, 6] rfl)

set_option maxRecDepth 100000 in
set_option maxHeartbeats 800000 in
theorem s_about_w0 {p : Program} {l : Launch} {e : Env} {s : State} {m : MethodId} {args : Array Value} {below : List Frame} {meth : Method} {c : Code} {H : Heap} {locs : List Loc} {ce7 sn7 : Nat} {Q : State → Prop} {g : GG} {b L xb r ob lim : Nat} {xs : Nat → Int32} {i9 : Nat} {ls : Array Slot} {q : Nat → Int32} {n : Nat} {rm sl sv tx : Nat → Int32} {ln : Nat} {zsp : Nat → Int32} {zth : Int32} {zsg : Nat → Int32} {zbg : Nat → Int32} {zwd : Nat → Int32} {zhg : Nat → Int32} {zin : Nat → Int32} {zop : Int32} {zbe : Int32} {zwi : Int32} {zhi : Int32} {zbk : Nat → Int32} {zot : Nat → Int32} {zer : Int32} {zen : Int32} {zpo : Nat → Int32} {zpi : Int32} {zgr : Int32} {zsh : Nat → Int32} {zsn : Int32} {o : Nat → Int64} (hfl : l.stackTraces = false) (hE : LE p s m meth c g b L xs xb r ob lim) (hi : 4 * i9 + 3 < L) (hC : CLS g xb lim q n rm sl sv tx ln H) (hR : ModAt g r q zsp rm (nI n) sl sv tx (nI ln) zth zsg zbg zwd zhg zin zop zbe zwi zhi zbk zot zer zen zpo zpi zgr zsh zsn H) (hO : at_ g H ob (eL g 1 o)) (hTx : TxT tx ln) (hS : va_S (fun q9 => xb ≤ q9) s.heap H locs) (hl : lv_has ls 7 [(0, .ref b), (1, .ref xb), (2, .ref r), (3, .ref ob), (4, .int (nI (4 * i9)))]) (hce7 : ce7 + 30 ≤ 622861) (hsn7 : sn7 + 1100 ≤ 7227521) (a1 : xs (4 * i9 + 1) = nI 0) (kk : ∀ (H1 : Heap) (locs1 : List Loc) (ls1 : Array Slot), LI g xb r ob lim q n rm sl sv tx ln H1 → va_S (fun q9 => xb ≤ q9) s.heap H1 locs1 → lv_has ls1 7 [(0, .ref b), (1, .ref xb), (2, .ref r), (3, .ref ob), (4, .int (nI (4 * i9)))] → W p l e room_1 s m args below meth c H1 locs1 (ce7 + 30) (sn7 + 1100) Q (F0 m 1803 ls1 [])) : W p l e room_1 s m args below meth c H locs ce7 sn7 Q (F0 m 242 ls []) := by
  obtain ⟨hB, hZ9, hX, hbl, hL9, hxs, hr9, hob9, hlm9⟩ := hE
  have hx := hB.x
  have hb := hB.b
  have hbA : ¬ (fun q9 => xb ≤ q9) b := fun y9 => by have y8 : xb ≤ b := y9; omega
  have hW := hC.wf
  have hn14 := hC.n14
  have hl6c := hC.l60
  have hnm5 := hW.2.2.1
  refine lv_aload_n hx hb dL_law_242 rfl (lv_at hl 1 rfl) ?_
  refine lv_aload_n hx hb dL_law_243 rfl (lv_at hl 0 rfl) ?_
  refine lv_iload hx hb dL_law_244 (lv_at hl 4 rfl) ?_
  refine lv_iconst (v := nI 1) hx hb dL_law_246 (by decide) ?_
  refine mn_iadd hB dL_law_247 ?_
  refine va_sld hx hb hX hbl hbA hS (vp_in_nI (by omega) (by omega)) dL_law_248 ?_
  refine mh_top (y := .int (nI 0)) (by rw [nI_clamp (by omega), a1]) ?_
  refine lv_aload_n hx hb dL_law_249 rfl (lv_at hl 3 rfl) ?_
  refine cw_113 (As := [.ref xb, .int (nI 0), .ref ob]) (rest := []) hB (hZ9.at hS (fun _ h9 => h9)) (w_about_w0 l g H xb lim q n rm sl sv tx ln ob o (hC) (hO) (⟨by omega, by omega⟩) (hfl)) rfl hl.1 (Nat.le_of_ble_eq_true rfl) dL_law_250 ⟨Nat.le_of_ble_eq_true rfl, Nat.le_of_ble_eq_true rfl⟩ ⟨by show (ce7) + 0 ≤ 622861; omega, by show (sn7) + 0 ≤ 7227521; omega⟩ hS (by have hz9 := hS.1; rintro q9 (h9 | h9) <;> first | exact h9.elim | (have h8 : r ≤ q9 ∧ q9 < r + 16 := h9; show xb ≤ q9; omega) | (have h8 : ((xb ≤ q9 ∧ q9 < xb + 68) ∨ lim ≤ q9) ∨ q9 = ob := h9; show xb ≤ q9; omega) | (have h8 : (xb ≤ q9 ∧ q9 < xb + 68) ∨ lim ≤ q9 := h9; show xb ≤ q9; omega) | (show xb ≤ q9; omega)) (fun v H1 locs hpo hfr hS => ?_)
  obtain ⟨rfl, hC, hO⟩ := hpo
  have hR := hR.keptF hfr (fun q9 h1 h2 y9 => by first | exact y9.elim | (have y8 : ((xb ≤ q9 ∧ q9 < xb + 68) ∨ lim ≤ q9) ∨ q9 = ob := y9; omega) | (have y8 : (xb ≤ q9 ∧ q9 < xb + 68) ∨ lim ≤ q9 := y9; omega))
  generalize H1 = H at hfr hS hR hX hC hO ⊢
  refine W.widen (k := ce7) (n := sn7) (by show (ce7) + 0 ≤ ce7; omega) (by show (sn7) + 0 ≤ sn7; omega) ?_
  refine lv_istore (lv' := [(5, .int (nI 0)), (0, .ref b), (1, .ref xb), (2, .ref r), (3, .ref ob), (4, .int (nI (4 * i9)))]) hx hb dL_law_253 hl (by decide) rfl (fun ls hl => ?_)
  refine lv_aload_n hx hb dL_law_255 rfl (lv_at hl 3 rfl) ?_
  refine lv_aload_n hx hb dL_law_256 rfl (lv_at hl 1 rfl) ?_
  refine lv_iload hx hb dL_law_257 (lv_at hl 5 rfl) ?_
  refine lv_iconst (v := nI 1) hx hb dL_law_259 (by decide) ?_
  refine mn_iadd hB dL_law_260 ?_
  refine va_sld hx hb hX hbl hbA hS (vp_in_nI (by omega) (by omega)) dL_law_261 ?_
  refine mh_top (y := .int (nI 0)) (by rw [nI_clamp (by omega), a1]) ?_
  refine cl_L_115 (As := [.int (nI 0)]) (rest := []) hB (c_X11_about l g H r q zsp rm (nI n) sl sv tx (nI ln) zth zsg zbg zwd zhg zin zop zbe zwi zhi zbk zot zer zen zpo zpi zgr zsh zsn 0 hR (by omega) (by first | assumption | omega)) hR.o rfl hl.1 (Nat.le_of_ble_eq_true rfl) dL_law_262 ⟨Nat.le_of_ble_eq_true rfl, Nat.le_of_ble_eq_true rfl⟩ ⟨by show (ce7) + 0 ≤ 622861; omega, by show (sn7) + 0 ≤ 7227521; omega⟩ hS (by have hz9 := hS.1; rintro q9 (h9 | h9) <;> first | exact h9.elim | (have h8 : r ≤ q9 ∧ q9 < r + 16 := h9; show xb ≤ q9; omega) | (have h8 : ((xb ≤ q9 ∧ q9 < xb + 68) ∨ lim ≤ q9) ∨ q9 = ob := h9; show xb ≤ q9; omega) | (have h8 : (xb ≤ q9 ∧ q9 < xb + 68) ∨ lim ≤ q9 := h9; show xb ≤ q9; omega) | (show xb ≤ q9; omega)) (fun v H1 locs hpo hfr hS => ?_)
  obtain ⟨rfl, hR⟩ := hpo
  have hC := hC.keptM hfr (fun a9 y9 => by first | exact y9.elim | (have y8 : r ≤ a9 ∧ a9 < r + 16 := y9; omega))
  have hO := Fr.keep hfr hO (fun y9 => by first | exact y9.elim | (have y8 : r ≤ ob ∧ ob < r + 16 := y9; omega) | (have y8 : (xb ≤ ob ∧ ob < xb + 68) ∨ lim ≤ ob := y9; omega))
  generalize H1 = H at hfr hS hX hC hO hR ⊢
  refine W.widen (k := ce7) (n := sn7) (by show (ce7) + 0 ≤ ce7; omega) (by show (sn7) + 0 ≤ sn7; omega) ?_
  refine lv_istore (lv' := [(6, .int (abV q 0)), (5, .int (nI 0)), (0, .ref b), (1, .ref xb), (2, .ref r), (3, .ref ob), (4, .int (nI (4 * i9)))]) hx hb dL_law_265 hl (by decide) rfl (fun ls hl => ?_)
  refine lv_aload_n hx hb dL_law_267 rfl (lv_at hl 4 rfl) ?_
  refine cl_L_102 (As := []) (rest := []) hB (c_X11_thrown l g H r q zsp rm (nI n) sl sv tx (nI ln) (nI 0) zsg zbg zwd zhg zin zop zbe zwi zhi zbk zot zer zen zpo zpi zgr zsh zsn hR) hR.o rfl hl.1 (Nat.le_of_ble_eq_true rfl) dL_law_268 ⟨Nat.le_of_ble_eq_true rfl, Nat.le_of_ble_eq_true rfl⟩ ⟨by show (ce7) + 0 ≤ 622861; omega, by show (sn7) + 0 ≤ 7227521; omega⟩ hS (by have hz9 := hS.1; rintro q9 (h9 | h9) <;> first | exact h9.elim | (have h8 : r ≤ q9 ∧ q9 < r + 16 := h9; show xb ≤ q9; omega) | (have h8 : ((xb ≤ q9 ∧ q9 < xb + 68) ∨ lim ≤ q9) ∨ q9 = ob := h9; show xb ≤ q9; omega) | (have h8 : (xb ≤ q9 ∧ q9 < xb + 68) ∨ lim ≤ q9 := h9; show xb ≤ q9; omega) | (show xb ≤ q9; omega)) (fun v H1 locs hpo hfr hS => ?_)
  obtain ⟨rfl, rfl⟩ := hpo
  refine W.widen (k := ce7) (n := sn7) (by show (ce7) + 0 ≤ ce7; omega) (by show (sn7) + 0 ≤ sn7; omega) ?_
  refine lv_iload hx hb dL_law_271 (lv_at hl 1 rfl) ?_
  refine lv_icmp_eq (tgt := 278) hx hb dL_law_273 (by decide) (fun h_273 => ?_) (fun h9 => absurd rfl h9)
  refine lv_iload hx hb dL_law_278 (lv_at hl 1 rfl) ?_
  refine mn_if_ne (tgt := 295) hB dL_law_280 (by decide) (by omega) (fun h => by exfalso; omega) (fun h_280 => ?_)
  refine lv_aload_n hx hb dL_law_283 rfl (lv_at hl 5 rfl) ?_
  refine lv_iconst (v := nI 0) hx hb dL_law_284 (by decide) ?_
  refine mn_lald hB hO (by omega) (by omega) dL_law_285 ?_
  refine mh_top (y := .long ((abV q 0).toInt64)) (rfl) ?_
  refine lv_iload hx hb dL_law_286 (lv_at hl 0 rfl) ?_
  refine lv_i2l (v := (abV q 0).toInt64) hx hb dL_law_288 rfl ?_
  refine W.lcmp hx hb dL_law_289 ?_
  refine ml_if_eq (tgt := 295) hB dL_law_290 (by decide) (fun h_290 => ?_) (fun h => absurd rfl h)
  refine lv_goto (tgt := 1803) hx hb dL_law_295 (by decide) ?_
  refine W.widen (k := ce7 + 30) (n := sn7 + 1100) (by omega) (by omega) ?_
  exact kk _ _ _ ⟨hC, ⟨_, _, _, _, _, _, _, _, _, _, _, _, _, _, _, _, _, _, _, _, hR⟩, ⟨_, hO⟩, hTx⟩ hS (lv_sub hl [2, 3, 4, 5, 6] rfl)

set_option maxRecDepth 100000 in
set_option maxHeartbeats 800000 in
theorem s_about_w1 {p : Program} {l : Launch} {e : Env} {s : State} {m : MethodId} {args : Array Value} {below : List Frame} {meth : Method} {c : Code} {H : Heap} {locs : List Loc} {ce7 sn7 : Nat} {Q : State → Prop} {g : GG} {b L xb r ob lim : Nat} {xs : Nat → Int32} {i9 : Nat} {ls : Array Slot} {q : Nat → Int32} {n : Nat} {rm sl sv tx : Nat → Int32} {ln : Nat} {zsp : Nat → Int32} {zth : Int32} {zsg : Nat → Int32} {zbg : Nat → Int32} {zwd : Nat → Int32} {zhg : Nat → Int32} {zin : Nat → Int32} {zop : Int32} {zbe : Int32} {zwi : Int32} {zhi : Int32} {zbk : Nat → Int32} {zot : Nat → Int32} {zer : Int32} {zen : Int32} {zpo : Nat → Int32} {zpi : Int32} {zgr : Int32} {zsh : Nat → Int32} {zsn : Int32} {o : Nat → Int64} (hfl : l.stackTraces = false) (hE : LE p s m meth c g b L xs xb r ob lim) (hi : 4 * i9 + 3 < L) (hC : CLS g xb lim q n rm sl sv tx ln H) (hR : ModAt g r q zsp rm (nI n) sl sv tx (nI ln) zth zsg zbg zwd zhg zin zop zbe zwi zhi zbk zot zer zen zpo zpi zgr zsh zsn H) (hO : at_ g H ob (eL g 1 o)) (hTx : TxT tx ln) (hS : va_S (fun q9 => xb ≤ q9) s.heap H locs) (hl : lv_has ls 7 [(0, .ref b), (1, .ref xb), (2, .ref r), (3, .ref ob), (4, .int (nI (4 * i9)))]) (hce7 : ce7 + 30 ≤ 622861) (hsn7 : sn7 + 1100 ≤ 7227521) (a1 : xs (4 * i9 + 1) = nI 1) (kk : ∀ (H1 : Heap) (locs1 : List Loc) (ls1 : Array Slot), LI g xb r ob lim q n rm sl sv tx ln H1 → va_S (fun q9 => xb ≤ q9) s.heap H1 locs1 → lv_has ls1 7 [(0, .ref b), (1, .ref xb), (2, .ref r), (3, .ref ob), (4, .int (nI (4 * i9)))] → W p l e room_1 s m args below meth c H1 locs1 (ce7 + 30) (sn7 + 1100) Q (F0 m 1803 ls1 [])) : W p l e room_1 s m args below meth c H locs ce7 sn7 Q (F0 m 242 ls []) := by
  obtain ⟨hB, hZ9, hX, hbl, hL9, hxs, hr9, hob9, hlm9⟩ := hE
  have hx := hB.x
  have hb := hB.b
  have hbA : ¬ (fun q9 => xb ≤ q9) b := fun y9 => by have y8 : xb ≤ b := y9; omega
  have hW := hC.wf
  have hn14 := hC.n14
  have hl6c := hC.l60
  have hnm5 := hW.2.2.1
  refine lv_aload_n hx hb dL_law_242 rfl (lv_at hl 1 rfl) ?_
  refine lv_aload_n hx hb dL_law_243 rfl (lv_at hl 0 rfl) ?_
  refine lv_iload hx hb dL_law_244 (lv_at hl 4 rfl) ?_
  refine lv_iconst (v := nI 1) hx hb dL_law_246 (by decide) ?_
  refine mn_iadd hB dL_law_247 ?_
  refine va_sld hx hb hX hbl hbA hS (vp_in_nI (by omega) (by omega)) dL_law_248 ?_
  refine mh_top (y := .int (nI 1)) (by rw [nI_clamp (by omega), a1]) ?_
  refine lv_aload_n hx hb dL_law_249 rfl (lv_at hl 3 rfl) ?_
  refine cw_113 (As := [.ref xb, .int (nI 1), .ref ob]) (rest := []) hB (hZ9.at hS (fun _ h9 => h9)) (w_about_w1 l g H xb lim q n rm sl sv tx ln ob o (hC) (hO) (⟨by omega, by omega⟩) (hfl)) rfl hl.1 (Nat.le_of_ble_eq_true rfl) dL_law_250 ⟨Nat.le_of_ble_eq_true rfl, Nat.le_of_ble_eq_true rfl⟩ ⟨by show (ce7) + 0 ≤ 622861; omega, by show (sn7) + 0 ≤ 7227521; omega⟩ hS (by have hz9 := hS.1; rintro q9 (h9 | h9) <;> first | exact h9.elim | (have h8 : r ≤ q9 ∧ q9 < r + 16 := h9; show xb ≤ q9; omega) | (have h8 : ((xb ≤ q9 ∧ q9 < xb + 68) ∨ lim ≤ q9) ∨ q9 = ob := h9; show xb ≤ q9; omega) | (have h8 : (xb ≤ q9 ∧ q9 < xb + 68) ∨ lim ≤ q9 := h9; show xb ≤ q9; omega) | (show xb ≤ q9; omega)) (fun v H1 locs hpo hfr hS => ?_)
  obtain ⟨rfl, hC, hO⟩ := hpo
  have hR := hR.keptF hfr (fun q9 h1 h2 y9 => by first | exact y9.elim | (have y8 : ((xb ≤ q9 ∧ q9 < xb + 68) ∨ lim ≤ q9) ∨ q9 = ob := y9; omega) | (have y8 : (xb ≤ q9 ∧ q9 < xb + 68) ∨ lim ≤ q9 := y9; omega))
  generalize H1 = H at hfr hS hR hX hC hO ⊢
  refine W.widen (k := ce7) (n := sn7) (by show (ce7) + 0 ≤ ce7; omega) (by show (sn7) + 0 ≤ sn7; omega) ?_
  refine lv_istore (lv' := [(5, .int (nI 0)), (0, .ref b), (1, .ref xb), (2, .ref r), (3, .ref ob), (4, .int (nI (4 * i9)))]) hx hb dL_law_253 hl (by decide) rfl (fun ls hl => ?_)
  refine lv_aload_n hx hb dL_law_255 rfl (lv_at hl 3 rfl) ?_
  refine lv_aload_n hx hb dL_law_256 rfl (lv_at hl 1 rfl) ?_
  refine lv_iload hx hb dL_law_257 (lv_at hl 5 rfl) ?_
  refine lv_iconst (v := nI 1) hx hb dL_law_259 (by decide) ?_
  refine mn_iadd hB dL_law_260 ?_
  refine va_sld hx hb hX hbl hbA hS (vp_in_nI (by omega) (by omega)) dL_law_261 ?_
  refine mh_top (y := .int (nI 1)) (by rw [nI_clamp (by omega), a1]) ?_
  refine cl_L_115 (As := [.int (nI 1)]) (rest := []) hB (c_X11_about l g H r q zsp rm (nI n) sl sv tx (nI ln) zth zsg zbg zwd zhg zin zop zbe zwi zhi zbk zot zer zen zpo zpi zgr zsh zsn 1 hR (by omega) (by first | assumption | omega)) hR.o rfl hl.1 (Nat.le_of_ble_eq_true rfl) dL_law_262 ⟨Nat.le_of_ble_eq_true rfl, Nat.le_of_ble_eq_true rfl⟩ ⟨by show (ce7) + 0 ≤ 622861; omega, by show (sn7) + 0 ≤ 7227521; omega⟩ hS (by have hz9 := hS.1; rintro q9 (h9 | h9) <;> first | exact h9.elim | (have h8 : r ≤ q9 ∧ q9 < r + 16 := h9; show xb ≤ q9; omega) | (have h8 : ((xb ≤ q9 ∧ q9 < xb + 68) ∨ lim ≤ q9) ∨ q9 = ob := h9; show xb ≤ q9; omega) | (have h8 : (xb ≤ q9 ∧ q9 < xb + 68) ∨ lim ≤ q9 := h9; show xb ≤ q9; omega) | (show xb ≤ q9; omega)) (fun v H1 locs hpo hfr hS => ?_)
  obtain ⟨rfl, hR⟩ := hpo
  have hC := hC.keptM hfr (fun a9 y9 => by first | exact y9.elim | (have y8 : r ≤ a9 ∧ a9 < r + 16 := y9; omega))
  have hO := Fr.keep hfr hO (fun y9 => by first | exact y9.elim | (have y8 : r ≤ ob ∧ ob < r + 16 := y9; omega) | (have y8 : (xb ≤ ob ∧ ob < xb + 68) ∨ lim ≤ ob := y9; omega))
  generalize H1 = H at hfr hS hX hC hO hR ⊢
  refine W.widen (k := ce7) (n := sn7) (by show (ce7) + 0 ≤ ce7; omega) (by show (sn7) + 0 ≤ sn7; omega) ?_
  refine lv_istore (lv' := [(6, .int (abV q 1)), (5, .int (nI 0)), (0, .ref b), (1, .ref xb), (2, .ref r), (3, .ref ob), (4, .int (nI (4 * i9)))]) hx hb dL_law_265 hl (by decide) rfl (fun ls hl => ?_)
  refine lv_aload_n hx hb dL_law_267 rfl (lv_at hl 4 rfl) ?_
  refine cl_L_102 (As := []) (rest := []) hB (c_X11_thrown l g H r q zsp rm (nI n) sl sv tx (nI ln) (nI 0) zsg zbg zwd zhg zin zop zbe zwi zhi zbk zot zer zen zpo zpi zgr zsh zsn hR) hR.o rfl hl.1 (Nat.le_of_ble_eq_true rfl) dL_law_268 ⟨Nat.le_of_ble_eq_true rfl, Nat.le_of_ble_eq_true rfl⟩ ⟨by show (ce7) + 0 ≤ 622861; omega, by show (sn7) + 0 ≤ 7227521; omega⟩ hS (by have hz9 := hS.1; rintro q9 (h9 | h9) <;> first | exact h9.elim | (have h8 : r ≤ q9 ∧ q9 < r + 16 := h9; show xb ≤ q9; omega) | (have h8 : ((xb ≤ q9 ∧ q9 < xb + 68) ∨ lim ≤ q9) ∨ q9 = ob := h9; show xb ≤ q9; omega) | (have h8 : (xb ≤ q9 ∧ q9 < xb + 68) ∨ lim ≤ q9 := h9; show xb ≤ q9; omega) | (show xb ≤ q9; omega)) (fun v H1 locs hpo hfr hS => ?_)
  obtain ⟨rfl, rfl⟩ := hpo
  refine W.widen (k := ce7) (n := sn7) (by show (ce7) + 0 ≤ ce7; omega) (by show (sn7) + 0 ≤ sn7; omega) ?_
  refine lv_iload hx hb dL_law_271 (lv_at hl 1 rfl) ?_
  refine lv_icmp_eq (tgt := 278) hx hb dL_law_273 (by decide) (fun h_273 => ?_) (fun h9 => absurd rfl h9)
  refine lv_iload hx hb dL_law_278 (lv_at hl 1 rfl) ?_
  refine mn_if_ne (tgt := 295) hB dL_law_280 (by decide) (by omega) (fun h => by exfalso; omega) (fun h_280 => ?_)
  refine lv_aload_n hx hb dL_law_283 rfl (lv_at hl 5 rfl) ?_
  refine lv_iconst (v := nI 0) hx hb dL_law_284 (by decide) ?_
  refine mn_lald hB hO (by omega) (by omega) dL_law_285 ?_
  refine mh_top (y := .long ((abV q 1).toInt64)) (rfl) ?_
  refine lv_iload hx hb dL_law_286 (lv_at hl 0 rfl) ?_
  refine lv_i2l (v := (abV q 1).toInt64) hx hb dL_law_288 rfl ?_
  refine W.lcmp hx hb dL_law_289 ?_
  refine ml_if_eq (tgt := 295) hB dL_law_290 (by decide) (fun h_290 => ?_) (fun h => absurd rfl h)
  refine lv_goto (tgt := 1803) hx hb dL_law_295 (by decide) ?_
  refine W.widen (k := ce7 + 30) (n := sn7 + 1100) (by omega) (by omega) ?_
  exact kk _ _ _ ⟨hC, ⟨_, _, _, _, _, _, _, _, _, _, _, _, _, _, _, _, _, _, _, _, hR⟩, ⟨_, hO⟩, hTx⟩ hS (lv_sub hl [2, 3, 4, 5, 6] rfl)

set_option maxRecDepth 100000 in
set_option maxHeartbeats 800000 in
theorem s_about_w2 {p : Program} {l : Launch} {e : Env} {s : State} {m : MethodId} {args : Array Value} {below : List Frame} {meth : Method} {c : Code} {H : Heap} {locs : List Loc} {ce7 sn7 : Nat} {Q : State → Prop} {g : GG} {b L xb r ob lim : Nat} {xs : Nat → Int32} {i9 : Nat} {ls : Array Slot} {q : Nat → Int32} {n : Nat} {rm sl sv tx : Nat → Int32} {ln : Nat} {zsp : Nat → Int32} {zth : Int32} {zsg : Nat → Int32} {zbg : Nat → Int32} {zwd : Nat → Int32} {zhg : Nat → Int32} {zin : Nat → Int32} {zop : Int32} {zbe : Int32} {zwi : Int32} {zhi : Int32} {zbk : Nat → Int32} {zot : Nat → Int32} {zer : Int32} {zen : Int32} {zpo : Nat → Int32} {zpi : Int32} {zgr : Int32} {zsh : Nat → Int32} {zsn : Int32} {o : Nat → Int64} (hfl : l.stackTraces = false) (hE : LE p s m meth c g b L xs xb r ob lim) (hi : 4 * i9 + 3 < L) (hC : CLS g xb lim q n rm sl sv tx ln H) (hR : ModAt g r q zsp rm (nI n) sl sv tx (nI ln) zth zsg zbg zwd zhg zin zop zbe zwi zhi zbk zot zer zen zpo zpi zgr zsh zsn H) (hO : at_ g H ob (eL g 1 o)) (hTx : TxT tx ln) (hS : va_S (fun q9 => xb ≤ q9) s.heap H locs) (hl : lv_has ls 7 [(0, .ref b), (1, .ref xb), (2, .ref r), (3, .ref ob), (4, .int (nI (4 * i9)))]) (hce7 : ce7 + 30 ≤ 622861) (hsn7 : sn7 + 1100 ≤ 7227521) (a1 : xs (4 * i9 + 1) = nI 2) (kk : ∀ (H1 : Heap) (locs1 : List Loc) (ls1 : Array Slot), LI g xb r ob lim q n rm sl sv tx ln H1 → va_S (fun q9 => xb ≤ q9) s.heap H1 locs1 → lv_has ls1 7 [(0, .ref b), (1, .ref xb), (2, .ref r), (3, .ref ob), (4, .int (nI (4 * i9)))] → W p l e room_1 s m args below meth c H1 locs1 (ce7 + 30) (sn7 + 1100) Q (F0 m 1803 ls1 [])) : W p l e room_1 s m args below meth c H locs ce7 sn7 Q (F0 m 242 ls []) := by
  obtain ⟨hB, hZ9, hX, hbl, hL9, hxs, hr9, hob9, hlm9⟩ := hE
  have hx := hB.x
  have hb := hB.b
  have hbA : ¬ (fun q9 => xb ≤ q9) b := fun y9 => by have y8 : xb ≤ b := y9; omega
  have hW := hC.wf
  have hn14 := hC.n14
  have hl6c := hC.l60
  have hnm5 := hW.2.2.1
  refine lv_aload_n hx hb dL_law_242 rfl (lv_at hl 1 rfl) ?_
  refine lv_aload_n hx hb dL_law_243 rfl (lv_at hl 0 rfl) ?_
  refine lv_iload hx hb dL_law_244 (lv_at hl 4 rfl) ?_
  refine lv_iconst (v := nI 1) hx hb dL_law_246 (by decide) ?_
  refine mn_iadd hB dL_law_247 ?_
  refine va_sld hx hb hX hbl hbA hS (vp_in_nI (by omega) (by omega)) dL_law_248 ?_
  refine mh_top (y := .int (nI 2)) (by rw [nI_clamp (by omega), a1]) ?_
  refine lv_aload_n hx hb dL_law_249 rfl (lv_at hl 3 rfl) ?_
  refine cw_113 (As := [.ref xb, .int (nI 2), .ref ob]) (rest := []) hB (hZ9.at hS (fun _ h9 => h9)) (w_about_w2 l g H xb lim q n rm sl sv tx ln ob o (hC) (hO) (⟨by omega, by omega⟩) (hfl)) rfl hl.1 (Nat.le_of_ble_eq_true rfl) dL_law_250 ⟨Nat.le_of_ble_eq_true rfl, Nat.le_of_ble_eq_true rfl⟩ ⟨by show (ce7) + 0 ≤ 622861; omega, by show (sn7) + 0 ≤ 7227521; omega⟩ hS (by have hz9 := hS.1; rintro q9 (h9 | h9) <;> first | exact h9.elim | (have h8 : r ≤ q9 ∧ q9 < r + 16 := h9; show xb ≤ q9; omega) | (have h8 : ((xb ≤ q9 ∧ q9 < xb + 68) ∨ lim ≤ q9) ∨ q9 = ob := h9; show xb ≤ q9; omega) | (have h8 : (xb ≤ q9 ∧ q9 < xb + 68) ∨ lim ≤ q9 := h9; show xb ≤ q9; omega) | (show xb ≤ q9; omega)) (fun v H1 locs hpo hfr hS => ?_)
  obtain ⟨rfl, hC, hO⟩ := hpo
  have hR := hR.keptF hfr (fun q9 h1 h2 y9 => by first | exact y9.elim | (have y8 : ((xb ≤ q9 ∧ q9 < xb + 68) ∨ lim ≤ q9) ∨ q9 = ob := y9; omega) | (have y8 : (xb ≤ q9 ∧ q9 < xb + 68) ∨ lim ≤ q9 := y9; omega))
  generalize H1 = H at hfr hS hR hX hC hO ⊢
  refine W.widen (k := ce7) (n := sn7) (by show (ce7) + 0 ≤ ce7; omega) (by show (sn7) + 0 ≤ sn7; omega) ?_
  refine lv_istore (lv' := [(5, .int (nI 0)), (0, .ref b), (1, .ref xb), (2, .ref r), (3, .ref ob), (4, .int (nI (4 * i9)))]) hx hb dL_law_253 hl (by decide) rfl (fun ls hl => ?_)
  refine lv_aload_n hx hb dL_law_255 rfl (lv_at hl 3 rfl) ?_
  refine lv_aload_n hx hb dL_law_256 rfl (lv_at hl 1 rfl) ?_
  refine lv_iload hx hb dL_law_257 (lv_at hl 5 rfl) ?_
  refine lv_iconst (v := nI 1) hx hb dL_law_259 (by decide) ?_
  refine mn_iadd hB dL_law_260 ?_
  refine va_sld hx hb hX hbl hbA hS (vp_in_nI (by omega) (by omega)) dL_law_261 ?_
  refine mh_top (y := .int (nI 2)) (by rw [nI_clamp (by omega), a1]) ?_
  refine cl_L_115 (As := [.int (nI 2)]) (rest := []) hB (c_X11_about l g H r q zsp rm (nI n) sl sv tx (nI ln) zth zsg zbg zwd zhg zin zop zbe zwi zhi zbk zot zer zen zpo zpi zgr zsh zsn 2 hR (by omega) (by first | assumption | omega)) hR.o rfl hl.1 (Nat.le_of_ble_eq_true rfl) dL_law_262 ⟨Nat.le_of_ble_eq_true rfl, Nat.le_of_ble_eq_true rfl⟩ ⟨by show (ce7) + 0 ≤ 622861; omega, by show (sn7) + 0 ≤ 7227521; omega⟩ hS (by have hz9 := hS.1; rintro q9 (h9 | h9) <;> first | exact h9.elim | (have h8 : r ≤ q9 ∧ q9 < r + 16 := h9; show xb ≤ q9; omega) | (have h8 : ((xb ≤ q9 ∧ q9 < xb + 68) ∨ lim ≤ q9) ∨ q9 = ob := h9; show xb ≤ q9; omega) | (have h8 : (xb ≤ q9 ∧ q9 < xb + 68) ∨ lim ≤ q9 := h9; show xb ≤ q9; omega) | (show xb ≤ q9; omega)) (fun v H1 locs hpo hfr hS => ?_)
  obtain ⟨rfl, hR⟩ := hpo
  have hC := hC.keptM hfr (fun a9 y9 => by first | exact y9.elim | (have y8 : r ≤ a9 ∧ a9 < r + 16 := y9; omega))
  have hO := Fr.keep hfr hO (fun y9 => by first | exact y9.elim | (have y8 : r ≤ ob ∧ ob < r + 16 := y9; omega) | (have y8 : (xb ≤ ob ∧ ob < xb + 68) ∨ lim ≤ ob := y9; omega))
  generalize H1 = H at hfr hS hX hC hO hR ⊢
  refine W.widen (k := ce7) (n := sn7) (by show (ce7) + 0 ≤ ce7; omega) (by show (sn7) + 0 ≤ sn7; omega) ?_
  refine lv_istore (lv' := [(6, .int (abV q 2)), (5, .int (nI 0)), (0, .ref b), (1, .ref xb), (2, .ref r), (3, .ref ob), (4, .int (nI (4 * i9)))]) hx hb dL_law_265 hl (by decide) rfl (fun ls hl => ?_)
  refine lv_aload_n hx hb dL_law_267 rfl (lv_at hl 4 rfl) ?_
  refine cl_L_102 (As := []) (rest := []) hB (c_X11_thrown l g H r q zsp rm (nI n) sl sv tx (nI ln) (nI 0) zsg zbg zwd zhg zin zop zbe zwi zhi zbk zot zer zen zpo zpi zgr zsh zsn hR) hR.o rfl hl.1 (Nat.le_of_ble_eq_true rfl) dL_law_268 ⟨Nat.le_of_ble_eq_true rfl, Nat.le_of_ble_eq_true rfl⟩ ⟨by show (ce7) + 0 ≤ 622861; omega, by show (sn7) + 0 ≤ 7227521; omega⟩ hS (by have hz9 := hS.1; rintro q9 (h9 | h9) <;> first | exact h9.elim | (have h8 : r ≤ q9 ∧ q9 < r + 16 := h9; show xb ≤ q9; omega) | (have h8 : ((xb ≤ q9 ∧ q9 < xb + 68) ∨ lim ≤ q9) ∨ q9 = ob := h9; show xb ≤ q9; omega) | (have h8 : (xb ≤ q9 ∧ q9 < xb + 68) ∨ lim ≤ q9 := h9; show xb ≤ q9; omega) | (show xb ≤ q9; omega)) (fun v H1 locs hpo hfr hS => ?_)
  obtain ⟨rfl, rfl⟩ := hpo
  refine W.widen (k := ce7) (n := sn7) (by show (ce7) + 0 ≤ ce7; omega) (by show (sn7) + 0 ≤ sn7; omega) ?_
  refine lv_iload hx hb dL_law_271 (lv_at hl 1 rfl) ?_
  refine lv_icmp_eq (tgt := 278) hx hb dL_law_273 (by decide) (fun h_273 => ?_) (fun h9 => absurd rfl h9)
  refine lv_iload hx hb dL_law_278 (lv_at hl 1 rfl) ?_
  refine mn_if_ne (tgt := 295) hB dL_law_280 (by decide) (by omega) (fun h => by exfalso; omega) (fun h_280 => ?_)
  refine lv_aload_n hx hb dL_law_283 rfl (lv_at hl 5 rfl) ?_
  refine lv_iconst (v := nI 0) hx hb dL_law_284 (by decide) ?_
  refine mn_lald hB hO (by omega) (by omega) dL_law_285 ?_
  refine mh_top (y := .long ((abV q 2).toInt64)) (rfl) ?_
  refine lv_iload hx hb dL_law_286 (lv_at hl 0 rfl) ?_
  refine lv_i2l (v := (abV q 2).toInt64) hx hb dL_law_288 rfl ?_
  refine W.lcmp hx hb dL_law_289 ?_
  refine ml_if_eq (tgt := 295) hB dL_law_290 (by decide) (fun h_290 => ?_) (fun h => absurd rfl h)
  refine lv_goto (tgt := 1803) hx hb dL_law_295 (by decide) ?_
  refine W.widen (k := ce7 + 30) (n := sn7 + 1100) (by omega) (by omega) ?_
  exact kk _ _ _ ⟨hC, ⟨_, _, _, _, _, _, _, _, _, _, _, _, _, _, _, _, _, _, _, _, hR⟩, ⟨_, hO⟩, hTx⟩ hS (lv_sub hl [2, 3, 4, 5, 6] rfl)

set_option maxRecDepth 100000 in
set_option maxHeartbeats 800000 in
theorem s_about_w3 {p : Program} {l : Launch} {e : Env} {s : State} {m : MethodId} {args : Array Value} {below : List Frame} {meth : Method} {c : Code} {H : Heap} {locs : List Loc} {ce7 sn7 : Nat} {Q : State → Prop} {g : GG} {b L xb r ob lim : Nat} {xs : Nat → Int32} {i9 : Nat} {ls : Array Slot} {q : Nat → Int32} {n : Nat} {rm sl sv tx : Nat → Int32} {ln : Nat} {zsp : Nat → Int32} {zth : Int32} {zsg : Nat → Int32} {zbg : Nat → Int32} {zwd : Nat → Int32} {zhg : Nat → Int32} {zin : Nat → Int32} {zop : Int32} {zbe : Int32} {zwi : Int32} {zhi : Int32} {zbk : Nat → Int32} {zot : Nat → Int32} {zer : Int32} {zen : Int32} {zpo : Nat → Int32} {zpi : Int32} {zgr : Int32} {zsh : Nat → Int32} {zsn : Int32} {o : Nat → Int64} (hfl : l.stackTraces = false) (hE : LE p s m meth c g b L xs xb r ob lim) (hi : 4 * i9 + 3 < L) (hC : CLS g xb lim q n rm sl sv tx ln H) (hR : ModAt g r q zsp rm (nI n) sl sv tx (nI ln) zth zsg zbg zwd zhg zin zop zbe zwi zhi zbk zot zer zen zpo zpi zgr zsh zsn H) (hO : at_ g H ob (eL g 1 o)) (hTx : TxT tx ln) (hS : va_S (fun q9 => xb ≤ q9) s.heap H locs) (hl : lv_has ls 7 [(0, .ref b), (1, .ref xb), (2, .ref r), (3, .ref ob), (4, .int (nI (4 * i9)))]) (hce7 : ce7 + 30 ≤ 622861) (hsn7 : sn7 + 1100 ≤ 7227521) (a1 : xs (4 * i9 + 1) = nI 3) (kk : ∀ (H1 : Heap) (locs1 : List Loc) (ls1 : Array Slot), LI g xb r ob lim q n rm sl sv tx ln H1 → va_S (fun q9 => xb ≤ q9) s.heap H1 locs1 → lv_has ls1 7 [(0, .ref b), (1, .ref xb), (2, .ref r), (3, .ref ob), (4, .int (nI (4 * i9)))] → W p l e room_1 s m args below meth c H1 locs1 (ce7 + 30) (sn7 + 1100) Q (F0 m 1803 ls1 [])) : W p l e room_1 s m args below meth c H locs ce7 sn7 Q (F0 m 242 ls []) := by
  obtain ⟨hB, hZ9, hX, hbl, hL9, hxs, hr9, hob9, hlm9⟩ := hE
  have hx := hB.x
  have hb := hB.b
  have hbA : ¬ (fun q9 => xb ≤ q9) b := fun y9 => by have y8 : xb ≤ b := y9; omega
  have hW := hC.wf
  have hn14 := hC.n14
  have hl6c := hC.l60
  have hnm5 := hW.2.2.1
  refine lv_aload_n hx hb dL_law_242 rfl (lv_at hl 1 rfl) ?_
  refine lv_aload_n hx hb dL_law_243 rfl (lv_at hl 0 rfl) ?_
  refine lv_iload hx hb dL_law_244 (lv_at hl 4 rfl) ?_
  refine lv_iconst (v := nI 1) hx hb dL_law_246 (by decide) ?_
  refine mn_iadd hB dL_law_247 ?_
  refine va_sld hx hb hX hbl hbA hS (vp_in_nI (by omega) (by omega)) dL_law_248 ?_
  refine mh_top (y := .int (nI 3)) (by rw [nI_clamp (by omega), a1]) ?_
  refine lv_aload_n hx hb dL_law_249 rfl (lv_at hl 3 rfl) ?_
  refine cw_113 (As := [.ref xb, .int (nI 3), .ref ob]) (rest := []) hB (hZ9.at hS (fun _ h9 => h9)) (w_about_w3 l g H xb lim q n rm sl sv tx ln ob o (hC) (hO) (⟨by omega, by omega⟩) (hfl)) rfl hl.1 (Nat.le_of_ble_eq_true rfl) dL_law_250 ⟨Nat.le_of_ble_eq_true rfl, Nat.le_of_ble_eq_true rfl⟩ ⟨by show (ce7) + 0 ≤ 622861; omega, by show (sn7) + 0 ≤ 7227521; omega⟩ hS (by have hz9 := hS.1; rintro q9 (h9 | h9) <;> first | exact h9.elim | (have h8 : r ≤ q9 ∧ q9 < r + 16 := h9; show xb ≤ q9; omega) | (have h8 : ((xb ≤ q9 ∧ q9 < xb + 68) ∨ lim ≤ q9) ∨ q9 = ob := h9; show xb ≤ q9; omega) | (have h8 : (xb ≤ q9 ∧ q9 < xb + 68) ∨ lim ≤ q9 := h9; show xb ≤ q9; omega) | (show xb ≤ q9; omega)) (fun v H1 locs hpo hfr hS => ?_)
  obtain ⟨rfl, hC, hO⟩ := hpo
  have hR := hR.keptF hfr (fun q9 h1 h2 y9 => by first | exact y9.elim | (have y8 : ((xb ≤ q9 ∧ q9 < xb + 68) ∨ lim ≤ q9) ∨ q9 = ob := y9; omega) | (have y8 : (xb ≤ q9 ∧ q9 < xb + 68) ∨ lim ≤ q9 := y9; omega))
  generalize H1 = H at hfr hS hR hX hC hO ⊢
  refine W.widen (k := ce7) (n := sn7) (by show (ce7) + 0 ≤ ce7; omega) (by show (sn7) + 0 ≤ sn7; omega) ?_
  refine lv_istore (lv' := [(5, .int (nI 0)), (0, .ref b), (1, .ref xb), (2, .ref r), (3, .ref ob), (4, .int (nI (4 * i9)))]) hx hb dL_law_253 hl (by decide) rfl (fun ls hl => ?_)
  refine lv_aload_n hx hb dL_law_255 rfl (lv_at hl 3 rfl) ?_
  refine lv_aload_n hx hb dL_law_256 rfl (lv_at hl 1 rfl) ?_
  refine lv_iload hx hb dL_law_257 (lv_at hl 5 rfl) ?_
  refine lv_iconst (v := nI 1) hx hb dL_law_259 (by decide) ?_
  refine mn_iadd hB dL_law_260 ?_
  refine va_sld hx hb hX hbl hbA hS (vp_in_nI (by omega) (by omega)) dL_law_261 ?_
  refine mh_top (y := .int (nI 3)) (by rw [nI_clamp (by omega), a1]) ?_
  refine cl_L_115 (As := [.int (nI 3)]) (rest := []) hB (c_X11_about l g H r q zsp rm (nI n) sl sv tx (nI ln) zth zsg zbg zwd zhg zin zop zbe zwi zhi zbk zot zer zen zpo zpi zgr zsh zsn 3 hR (by omega) (by first | assumption | omega)) hR.o rfl hl.1 (Nat.le_of_ble_eq_true rfl) dL_law_262 ⟨Nat.le_of_ble_eq_true rfl, Nat.le_of_ble_eq_true rfl⟩ ⟨by show (ce7) + 0 ≤ 622861; omega, by show (sn7) + 0 ≤ 7227521; omega⟩ hS (by have hz9 := hS.1; rintro q9 (h9 | h9) <;> first | exact h9.elim | (have h8 : r ≤ q9 ∧ q9 < r + 16 := h9; show xb ≤ q9; omega) | (have h8 : ((xb ≤ q9 ∧ q9 < xb + 68) ∨ lim ≤ q9) ∨ q9 = ob := h9; show xb ≤ q9; omega) | (have h8 : (xb ≤ q9 ∧ q9 < xb + 68) ∨ lim ≤ q9 := h9; show xb ≤ q9; omega) | (show xb ≤ q9; omega)) (fun v H1 locs hpo hfr hS => ?_)
  obtain ⟨rfl, hR⟩ := hpo
  have hC := hC.keptM hfr (fun a9 y9 => by first | exact y9.elim | (have y8 : r ≤ a9 ∧ a9 < r + 16 := y9; omega))
  have hO := Fr.keep hfr hO (fun y9 => by first | exact y9.elim | (have y8 : r ≤ ob ∧ ob < r + 16 := y9; omega) | (have y8 : (xb ≤ ob ∧ ob < xb + 68) ∨ lim ≤ ob := y9; omega))
  generalize H1 = H at hfr hS hX hC hO hR ⊢
  refine W.widen (k := ce7) (n := sn7) (by show (ce7) + 0 ≤ ce7; omega) (by show (sn7) + 0 ≤ sn7; omega) ?_
  refine lv_istore (lv' := [(6, .int (abV q 3)), (5, .int (nI 0)), (0, .ref b), (1, .ref xb), (2, .ref r), (3, .ref ob), (4, .int (nI (4 * i9)))]) hx hb dL_law_265 hl (by decide) rfl (fun ls hl => ?_)
  refine lv_aload_n hx hb dL_law_267 rfl (lv_at hl 4 rfl) ?_
  refine cl_L_102 (As := []) (rest := []) hB (c_X11_thrown l g H r q zsp rm (nI n) sl sv tx (nI ln) (nI 0) zsg zbg zwd zhg zin zop zbe zwi zhi zbk zot zer zen zpo zpi zgr zsh zsn hR) hR.o rfl hl.1 (Nat.le_of_ble_eq_true rfl) dL_law_268 ⟨Nat.le_of_ble_eq_true rfl, Nat.le_of_ble_eq_true rfl⟩ ⟨by show (ce7) + 0 ≤ 622861; omega, by show (sn7) + 0 ≤ 7227521; omega⟩ hS (by have hz9 := hS.1; rintro q9 (h9 | h9) <;> first | exact h9.elim | (have h8 : r ≤ q9 ∧ q9 < r + 16 := h9; show xb ≤ q9; omega) | (have h8 : ((xb ≤ q9 ∧ q9 < xb + 68) ∨ lim ≤ q9) ∨ q9 = ob := h9; show xb ≤ q9; omega) | (have h8 : (xb ≤ q9 ∧ q9 < xb + 68) ∨ lim ≤ q9 := h9; show xb ≤ q9; omega) | (show xb ≤ q9; omega)) (fun v H1 locs hpo hfr hS => ?_)
  obtain ⟨rfl, rfl⟩ := hpo
  refine W.widen (k := ce7) (n := sn7) (by show (ce7) + 0 ≤ ce7; omega) (by show (sn7) + 0 ≤ sn7; omega) ?_
  refine lv_iload hx hb dL_law_271 (lv_at hl 1 rfl) ?_
  refine lv_icmp_eq (tgt := 278) hx hb dL_law_273 (by decide) (fun h_273 => ?_) (fun h9 => absurd rfl h9)
  refine lv_iload hx hb dL_law_278 (lv_at hl 1 rfl) ?_
  refine mn_if_ne (tgt := 295) hB dL_law_280 (by decide) (by omega) (fun h => by exfalso; omega) (fun h_280 => ?_)
  refine lv_aload_n hx hb dL_law_283 rfl (lv_at hl 5 rfl) ?_
  refine lv_iconst (v := nI 0) hx hb dL_law_284 (by decide) ?_
  refine mn_lald hB hO (by omega) (by omega) dL_law_285 ?_
  refine mh_top (y := .long ((abV q 3).toInt64)) (rfl) ?_
  refine lv_iload hx hb dL_law_286 (lv_at hl 0 rfl) ?_
  refine lv_i2l (v := (abV q 3).toInt64) hx hb dL_law_288 rfl ?_
  refine W.lcmp hx hb dL_law_289 ?_
  refine ml_if_eq (tgt := 295) hB dL_law_290 (by decide) (fun h_290 => ?_) (fun h => absurd rfl h)
  refine lv_goto (tgt := 1803) hx hb dL_law_295 (by decide) ?_
  refine W.widen (k := ce7 + 30) (n := sn7 + 1100) (by omega) (by omega) ?_
  exact kk _ _ _ ⟨hC, ⟨_, _, _, _, _, _, _, _, _, _, _, _, _, _, _, _, _, _, _, _, hR⟩, ⟨_, hO⟩, hTx⟩ hS (lv_sub hl [2, 3, 4, 5, 6] rfl)

set_option maxRecDepth 100000 in
set_option maxHeartbeats 800000 in
theorem s_about_w4 {p : Program} {l : Launch} {e : Env} {s : State} {m : MethodId} {args : Array Value} {below : List Frame} {meth : Method} {c : Code} {H : Heap} {locs : List Loc} {ce7 sn7 : Nat} {Q : State → Prop} {g : GG} {b L xb r ob lim : Nat} {xs : Nat → Int32} {i9 : Nat} {ls : Array Slot} {q : Nat → Int32} {n : Nat} {rm sl sv tx : Nat → Int32} {ln : Nat} {zsp : Nat → Int32} {zth : Int32} {zsg : Nat → Int32} {zbg : Nat → Int32} {zwd : Nat → Int32} {zhg : Nat → Int32} {zin : Nat → Int32} {zop : Int32} {zbe : Int32} {zwi : Int32} {zhi : Int32} {zbk : Nat → Int32} {zot : Nat → Int32} {zer : Int32} {zen : Int32} {zpo : Nat → Int32} {zpi : Int32} {zgr : Int32} {zsh : Nat → Int32} {zsn : Int32} {o : Nat → Int64} (hfl : l.stackTraces = false) (hE : LE p s m meth c g b L xs xb r ob lim) (hi : 4 * i9 + 3 < L) (hC : CLS g xb lim q n rm sl sv tx ln H) (hR : ModAt g r q zsp rm (nI n) sl sv tx (nI ln) zth zsg zbg zwd zhg zin zop zbe zwi zhi zbk zot zer zen zpo zpi zgr zsh zsn H) (hO : at_ g H ob (eL g 1 o)) (hTx : TxT tx ln) (hS : va_S (fun q9 => xb ≤ q9) s.heap H locs) (hl : lv_has ls 7 [(0, .ref b), (1, .ref xb), (2, .ref r), (3, .ref ob), (4, .int (nI (4 * i9)))]) (hce7 : ce7 + 30 ≤ 622861) (hsn7 : sn7 + 1100 ≤ 7227521) (a1 : xs (4 * i9 + 1) = nI 4) (kk : ∀ (H1 : Heap) (locs1 : List Loc) (ls1 : Array Slot), LI g xb r ob lim q n rm sl sv tx ln H1 → va_S (fun q9 => xb ≤ q9) s.heap H1 locs1 → lv_has ls1 7 [(0, .ref b), (1, .ref xb), (2, .ref r), (3, .ref ob), (4, .int (nI (4 * i9)))] → W p l e room_1 s m args below meth c H1 locs1 (ce7 + 30) (sn7 + 1100) Q (F0 m 1803 ls1 [])) : W p l e room_1 s m args below meth c H locs ce7 sn7 Q (F0 m 242 ls []) := by
  obtain ⟨hB, hZ9, hX, hbl, hL9, hxs, hr9, hob9, hlm9⟩ := hE
  have hx := hB.x
  have hb := hB.b
  have hbA : ¬ (fun q9 => xb ≤ q9) b := fun y9 => by have y8 : xb ≤ b := y9; omega
  have hW := hC.wf
  have hn14 := hC.n14
  have hl6c := hC.l60
  have hnm5 := hW.2.2.1
  refine lv_aload_n hx hb dL_law_242 rfl (lv_at hl 1 rfl) ?_
  refine lv_aload_n hx hb dL_law_243 rfl (lv_at hl 0 rfl) ?_
  refine lv_iload hx hb dL_law_244 (lv_at hl 4 rfl) ?_
  refine lv_iconst (v := nI 1) hx hb dL_law_246 (by decide) ?_
  refine mn_iadd hB dL_law_247 ?_
  refine va_sld hx hb hX hbl hbA hS (vp_in_nI (by omega) (by omega)) dL_law_248 ?_
  refine mh_top (y := .int (nI 4)) (by rw [nI_clamp (by omega), a1]) ?_
  refine lv_aload_n hx hb dL_law_249 rfl (lv_at hl 3 rfl) ?_
  refine cw_113 (As := [.ref xb, .int (nI 4), .ref ob]) (rest := []) hB (hZ9.at hS (fun _ h9 => h9)) (w_about_w4 l g H xb lim q n rm sl sv tx ln ob o (hC) (hO) (⟨by omega, by omega⟩) (hfl)) rfl hl.1 (Nat.le_of_ble_eq_true rfl) dL_law_250 ⟨Nat.le_of_ble_eq_true rfl, Nat.le_of_ble_eq_true rfl⟩ ⟨by show (ce7) + 0 ≤ 622861; omega, by show (sn7) + 0 ≤ 7227521; omega⟩ hS (by have hz9 := hS.1; rintro q9 (h9 | h9) <;> first | exact h9.elim | (have h8 : r ≤ q9 ∧ q9 < r + 16 := h9; show xb ≤ q9; omega) | (have h8 : ((xb ≤ q9 ∧ q9 < xb + 68) ∨ lim ≤ q9) ∨ q9 = ob := h9; show xb ≤ q9; omega) | (have h8 : (xb ≤ q9 ∧ q9 < xb + 68) ∨ lim ≤ q9 := h9; show xb ≤ q9; omega) | (show xb ≤ q9; omega)) (fun v H1 locs hpo hfr hS => ?_)
  obtain ⟨rfl, hC, hO⟩ := hpo
  have hR := hR.keptF hfr (fun q9 h1 h2 y9 => by first | exact y9.elim | (have y8 : ((xb ≤ q9 ∧ q9 < xb + 68) ∨ lim ≤ q9) ∨ q9 = ob := y9; omega) | (have y8 : (xb ≤ q9 ∧ q9 < xb + 68) ∨ lim ≤ q9 := y9; omega))
  generalize H1 = H at hfr hS hR hX hC hO ⊢
  refine W.widen (k := ce7) (n := sn7) (by show (ce7) + 0 ≤ ce7; omega) (by show (sn7) + 0 ≤ sn7; omega) ?_
  refine lv_istore (lv' := [(5, .int (nI 0)), (0, .ref b), (1, .ref xb), (2, .ref r), (3, .ref ob), (4, .int (nI (4 * i9)))]) hx hb dL_law_253 hl (by decide) rfl (fun ls hl => ?_)
  refine lv_aload_n hx hb dL_law_255 rfl (lv_at hl 3 rfl) ?_
  refine lv_aload_n hx hb dL_law_256 rfl (lv_at hl 1 rfl) ?_
  refine lv_iload hx hb dL_law_257 (lv_at hl 5 rfl) ?_
  refine lv_iconst (v := nI 1) hx hb dL_law_259 (by decide) ?_
  refine mn_iadd hB dL_law_260 ?_
  refine va_sld hx hb hX hbl hbA hS (vp_in_nI (by omega) (by omega)) dL_law_261 ?_
  refine mh_top (y := .int (nI 4)) (by rw [nI_clamp (by omega), a1]) ?_
  refine cl_L_115 (As := [.int (nI 4)]) (rest := []) hB (c_X11_about l g H r q zsp rm (nI n) sl sv tx (nI ln) zth zsg zbg zwd zhg zin zop zbe zwi zhi zbk zot zer zen zpo zpi zgr zsh zsn 4 hR (by omega) (by first | assumption | omega)) hR.o rfl hl.1 (Nat.le_of_ble_eq_true rfl) dL_law_262 ⟨Nat.le_of_ble_eq_true rfl, Nat.le_of_ble_eq_true rfl⟩ ⟨by show (ce7) + 0 ≤ 622861; omega, by show (sn7) + 0 ≤ 7227521; omega⟩ hS (by have hz9 := hS.1; rintro q9 (h9 | h9) <;> first | exact h9.elim | (have h8 : r ≤ q9 ∧ q9 < r + 16 := h9; show xb ≤ q9; omega) | (have h8 : ((xb ≤ q9 ∧ q9 < xb + 68) ∨ lim ≤ q9) ∨ q9 = ob := h9; show xb ≤ q9; omega) | (have h8 : (xb ≤ q9 ∧ q9 < xb + 68) ∨ lim ≤ q9 := h9; show xb ≤ q9; omega) | (show xb ≤ q9; omega)) (fun v H1 locs hpo hfr hS => ?_)
  obtain ⟨rfl, hR⟩ := hpo
  have hC := hC.keptM hfr (fun a9 y9 => by first | exact y9.elim | (have y8 : r ≤ a9 ∧ a9 < r + 16 := y9; omega))
  have hO := Fr.keep hfr hO (fun y9 => by first | exact y9.elim | (have y8 : r ≤ ob ∧ ob < r + 16 := y9; omega) | (have y8 : (xb ≤ ob ∧ ob < xb + 68) ∨ lim ≤ ob := y9; omega))
  generalize H1 = H at hfr hS hX hC hO hR ⊢
  refine W.widen (k := ce7) (n := sn7) (by show (ce7) + 0 ≤ ce7; omega) (by show (sn7) + 0 ≤ sn7; omega) ?_
  refine lv_istore (lv' := [(6, .int (abV q 4)), (5, .int (nI 0)), (0, .ref b), (1, .ref xb), (2, .ref r), (3, .ref ob), (4, .int (nI (4 * i9)))]) hx hb dL_law_265 hl (by decide) rfl (fun ls hl => ?_)
  refine lv_aload_n hx hb dL_law_267 rfl (lv_at hl 4 rfl) ?_
  refine cl_L_102 (As := []) (rest := []) hB (c_X11_thrown l g H r q zsp rm (nI n) sl sv tx (nI ln) (nI 0) zsg zbg zwd zhg zin zop zbe zwi zhi zbk zot zer zen zpo zpi zgr zsh zsn hR) hR.o rfl hl.1 (Nat.le_of_ble_eq_true rfl) dL_law_268 ⟨Nat.le_of_ble_eq_true rfl, Nat.le_of_ble_eq_true rfl⟩ ⟨by show (ce7) + 0 ≤ 622861; omega, by show (sn7) + 0 ≤ 7227521; omega⟩ hS (by have hz9 := hS.1; rintro q9 (h9 | h9) <;> first | exact h9.elim | (have h8 : r ≤ q9 ∧ q9 < r + 16 := h9; show xb ≤ q9; omega) | (have h8 : ((xb ≤ q9 ∧ q9 < xb + 68) ∨ lim ≤ q9) ∨ q9 = ob := h9; show xb ≤ q9; omega) | (have h8 : (xb ≤ q9 ∧ q9 < xb + 68) ∨ lim ≤ q9 := h9; show xb ≤ q9; omega) | (show xb ≤ q9; omega)) (fun v H1 locs hpo hfr hS => ?_)
  obtain ⟨rfl, rfl⟩ := hpo
  refine W.widen (k := ce7) (n := sn7) (by show (ce7) + 0 ≤ ce7; omega) (by show (sn7) + 0 ≤ sn7; omega) ?_
  refine lv_iload hx hb dL_law_271 (lv_at hl 1 rfl) ?_
  refine lv_icmp_eq (tgt := 278) hx hb dL_law_273 (by decide) (fun h_273 => ?_) (fun h9 => absurd rfl h9)
  refine lv_iload hx hb dL_law_278 (lv_at hl 1 rfl) ?_
  refine mn_if_ne (tgt := 295) hB dL_law_280 (by decide) (by omega) (fun h => by exfalso; omega) (fun h_280 => ?_)
  refine lv_aload_n hx hb dL_law_283 rfl (lv_at hl 5 rfl) ?_
  refine lv_iconst (v := nI 0) hx hb dL_law_284 (by decide) ?_
  refine mn_lald hB hO (by omega) (by omega) dL_law_285 ?_
  refine mh_top (y := .long ((abV q 4).toInt64)) (rfl) ?_
  refine lv_iload hx hb dL_law_286 (lv_at hl 0 rfl) ?_
  refine lv_i2l (v := (abV q 4).toInt64) hx hb dL_law_288 rfl ?_
  refine W.lcmp hx hb dL_law_289 ?_
  refine ml_if_eq (tgt := 295) hB dL_law_290 (by decide) (fun h_290 => ?_) (fun h => absurd rfl h)
  refine lv_goto (tgt := 1803) hx hb dL_law_295 (by decide) ?_
  refine W.widen (k := ce7 + 30) (n := sn7 + 1100) (by omega) (by omega) ?_
  exact kk _ _ _ ⟨hC, ⟨_, _, _, _, _, _, _, _, _, _, _, _, _, _, _, _, _, _, _, _, hR⟩, ⟨_, hO⟩, hTx⟩ hS (lv_sub hl [2, 3, 4, 5, 6] rfl)

set_option maxRecDepth 100000 in
set_option maxHeartbeats 800000 in
theorem s_about_w5 {p : Program} {l : Launch} {e : Env} {s : State} {m : MethodId} {args : Array Value} {below : List Frame} {meth : Method} {c : Code} {H : Heap} {locs : List Loc} {ce7 sn7 : Nat} {Q : State → Prop} {g : GG} {b L xb r ob lim : Nat} {xs : Nat → Int32} {i9 : Nat} {ls : Array Slot} {q : Nat → Int32} {n : Nat} {rm sl sv tx : Nat → Int32} {ln : Nat} {zsp : Nat → Int32} {zth : Int32} {zsg : Nat → Int32} {zbg : Nat → Int32} {zwd : Nat → Int32} {zhg : Nat → Int32} {zin : Nat → Int32} {zop : Int32} {zbe : Int32} {zwi : Int32} {zhi : Int32} {zbk : Nat → Int32} {zot : Nat → Int32} {zer : Int32} {zen : Int32} {zpo : Nat → Int32} {zpi : Int32} {zgr : Int32} {zsh : Nat → Int32} {zsn : Int32} {o : Nat → Int64} (hfl : l.stackTraces = false) (hE : LE p s m meth c g b L xs xb r ob lim) (hi : 4 * i9 + 3 < L) (hC : CLS g xb lim q n rm sl sv tx ln H) (hR : ModAt g r q zsp rm (nI n) sl sv tx (nI ln) zth zsg zbg zwd zhg zin zop zbe zwi zhi zbk zot zer zen zpo zpi zgr zsh zsn H) (hO : at_ g H ob (eL g 1 o)) (hTx : TxT tx ln) (hS : va_S (fun q9 => xb ≤ q9) s.heap H locs) (hl : lv_has ls 7 [(0, .ref b), (1, .ref xb), (2, .ref r), (3, .ref ob), (4, .int (nI (4 * i9)))]) (hce7 : ce7 + 30 ≤ 622861) (hsn7 : sn7 + 1100 ≤ 7227521) (a1 : xs (4 * i9 + 1) = nI 5) (kk : ∀ (H1 : Heap) (locs1 : List Loc) (ls1 : Array Slot), LI g xb r ob lim q n rm sl sv tx ln H1 → va_S (fun q9 => xb ≤ q9) s.heap H1 locs1 → lv_has ls1 7 [(0, .ref b), (1, .ref xb), (2, .ref r), (3, .ref ob), (4, .int (nI (4 * i9)))] → W p l e room_1 s m args below meth c H1 locs1 (ce7 + 30) (sn7 + 1100) Q (F0 m 1803 ls1 [])) : W p l e room_1 s m args below meth c H locs ce7 sn7 Q (F0 m 242 ls []) := by
  obtain ⟨hB, hZ9, hX, hbl, hL9, hxs, hr9, hob9, hlm9⟩ := hE
  have hx := hB.x
  have hb := hB.b
  have hbA : ¬ (fun q9 => xb ≤ q9) b := fun y9 => by have y8 : xb ≤ b := y9; omega
  have hW := hC.wf
  have hn14 := hC.n14
  have hl6c := hC.l60
  have hnm5 := hW.2.2.1
  refine lv_aload_n hx hb dL_law_242 rfl (lv_at hl 1 rfl) ?_
  refine lv_aload_n hx hb dL_law_243 rfl (lv_at hl 0 rfl) ?_
  refine lv_iload hx hb dL_law_244 (lv_at hl 4 rfl) ?_
  refine lv_iconst (v := nI 1) hx hb dL_law_246 (by decide) ?_
  refine mn_iadd hB dL_law_247 ?_
  refine va_sld hx hb hX hbl hbA hS (vp_in_nI (by omega) (by omega)) dL_law_248 ?_
  refine mh_top (y := .int (nI 5)) (by rw [nI_clamp (by omega), a1]) ?_
  refine lv_aload_n hx hb dL_law_249 rfl (lv_at hl 3 rfl) ?_
  refine cw_113 (As := [.ref xb, .int (nI 5), .ref ob]) (rest := []) hB (hZ9.at hS (fun _ h9 => h9)) (w_about_w5 l g H xb lim q n rm sl sv tx ln ob o (hC) (hO) (⟨by omega, by omega⟩) (hfl)) rfl hl.1 (Nat.le_of_ble_eq_true rfl) dL_law_250 ⟨Nat.le_of_ble_eq_true rfl, Nat.le_of_ble_eq_true rfl⟩ ⟨by show (ce7) + 0 ≤ 622861; omega, by show (sn7) + 0 ≤ 7227521; omega⟩ hS (by have hz9 := hS.1; rintro q9 (h9 | h9) <;> first | exact h9.elim | (have h8 : r ≤ q9 ∧ q9 < r + 16 := h9; show xb ≤ q9; omega) | (have h8 : ((xb ≤ q9 ∧ q9 < xb + 68) ∨ lim ≤ q9) ∨ q9 = ob := h9; show xb ≤ q9; omega) | (have h8 : (xb ≤ q9 ∧ q9 < xb + 68) ∨ lim ≤ q9 := h9; show xb ≤ q9; omega) | (show xb ≤ q9; omega)) (fun v H1 locs hpo hfr hS => ?_)
  obtain ⟨rfl, hC, hO⟩ := hpo
  have hR := hR.keptF hfr (fun q9 h1 h2 y9 => by first | exact y9.elim | (have y8 : ((xb ≤ q9 ∧ q9 < xb + 68) ∨ lim ≤ q9) ∨ q9 = ob := y9; omega) | (have y8 : (xb ≤ q9 ∧ q9 < xb + 68) ∨ lim ≤ q9 := y9; omega))
  generalize H1 = H at hfr hS hR hX hC hO ⊢
  refine W.widen (k := ce7) (n := sn7) (by show (ce7) + 0 ≤ ce7; omega) (by show (sn7) + 0 ≤ sn7; omega) ?_
  refine lv_istore (lv' := [(5, .int (nI 0)), (0, .ref b), (1, .ref xb), (2, .ref r), (3, .ref ob), (4, .int (nI (4 * i9)))]) hx hb dL_law_253 hl (by decide) rfl (fun ls hl => ?_)
  refine lv_aload_n hx hb dL_law_255 rfl (lv_at hl 3 rfl) ?_
  refine lv_aload_n hx hb dL_law_256 rfl (lv_at hl 1 rfl) ?_
  refine lv_iload hx hb dL_law_257 (lv_at hl 5 rfl) ?_
  refine lv_iconst (v := nI 1) hx hb dL_law_259 (by decide) ?_
  refine mn_iadd hB dL_law_260 ?_
  refine va_sld hx hb hX hbl hbA hS (vp_in_nI (by omega) (by omega)) dL_law_261 ?_
  refine mh_top (y := .int (nI 5)) (by rw [nI_clamp (by omega), a1]) ?_
  refine cl_L_115 (As := [.int (nI 5)]) (rest := []) hB (c_X11_about l g H r q zsp rm (nI n) sl sv tx (nI ln) zth zsg zbg zwd zhg zin zop zbe zwi zhi zbk zot zer zen zpo zpi zgr zsh zsn 5 hR (by omega) (by first | assumption | omega)) hR.o rfl hl.1 (Nat.le_of_ble_eq_true rfl) dL_law_262 ⟨Nat.le_of_ble_eq_true rfl, Nat.le_of_ble_eq_true rfl⟩ ⟨by show (ce7) + 0 ≤ 622861; omega, by show (sn7) + 0 ≤ 7227521; omega⟩ hS (by have hz9 := hS.1; rintro q9 (h9 | h9) <;> first | exact h9.elim | (have h8 : r ≤ q9 ∧ q9 < r + 16 := h9; show xb ≤ q9; omega) | (have h8 : ((xb ≤ q9 ∧ q9 < xb + 68) ∨ lim ≤ q9) ∨ q9 = ob := h9; show xb ≤ q9; omega) | (have h8 : (xb ≤ q9 ∧ q9 < xb + 68) ∨ lim ≤ q9 := h9; show xb ≤ q9; omega) | (show xb ≤ q9; omega)) (fun v H1 locs hpo hfr hS => ?_)
  obtain ⟨rfl, hR⟩ := hpo
  have hC := hC.keptM hfr (fun a9 y9 => by first | exact y9.elim | (have y8 : r ≤ a9 ∧ a9 < r + 16 := y9; omega))
  have hO := Fr.keep hfr hO (fun y9 => by first | exact y9.elim | (have y8 : r ≤ ob ∧ ob < r + 16 := y9; omega) | (have y8 : (xb ≤ ob ∧ ob < xb + 68) ∨ lim ≤ ob := y9; omega))
  generalize H1 = H at hfr hS hX hC hO hR ⊢
  refine W.widen (k := ce7) (n := sn7) (by show (ce7) + 0 ≤ ce7; omega) (by show (sn7) + 0 ≤ sn7; omega) ?_
  refine lv_istore (lv' := [(6, .int (abV q 5)), (5, .int (nI 0)), (0, .ref b), (1, .ref xb), (2, .ref r), (3, .ref ob), (4, .int (nI (4 * i9)))]) hx hb dL_law_265 hl (by decide) rfl (fun ls hl => ?_)
  refine lv_aload_n hx hb dL_law_267 rfl (lv_at hl 4 rfl) ?_
  refine cl_L_102 (As := []) (rest := []) hB (c_X11_thrown l g H r q zsp rm (nI n) sl sv tx (nI ln) (nI 0) zsg zbg zwd zhg zin zop zbe zwi zhi zbk zot zer zen zpo zpi zgr zsh zsn hR) hR.o rfl hl.1 (Nat.le_of_ble_eq_true rfl) dL_law_268 ⟨Nat.le_of_ble_eq_true rfl, Nat.le_of_ble_eq_true rfl⟩ ⟨by show (ce7) + 0 ≤ 622861; omega, by show (sn7) + 0 ≤ 7227521; omega⟩ hS (by have hz9 := hS.1; rintro q9 (h9 | h9) <;> first | exact h9.elim | (have h8 : r ≤ q9 ∧ q9 < r + 16 := h9; show xb ≤ q9; omega) | (have h8 : ((xb ≤ q9 ∧ q9 < xb + 68) ∨ lim ≤ q9) ∨ q9 = ob := h9; show xb ≤ q9; omega) | (have h8 : (xb ≤ q9 ∧ q9 < xb + 68) ∨ lim ≤ q9 := h9; show xb ≤ q9; omega) | (show xb ≤ q9; omega)) (fun v H1 locs hpo hfr hS => ?_)
  obtain ⟨rfl, rfl⟩ := hpo
  refine W.widen (k := ce7) (n := sn7) (by show (ce7) + 0 ≤ ce7; omega) (by show (sn7) + 0 ≤ sn7; omega) ?_
  refine lv_iload hx hb dL_law_271 (lv_at hl 1 rfl) ?_
  refine lv_icmp_eq (tgt := 278) hx hb dL_law_273 (by decide) (fun h_273 => ?_) (fun h9 => absurd rfl h9)
  refine lv_iload hx hb dL_law_278 (lv_at hl 1 rfl) ?_
  refine mn_if_ne (tgt := 295) hB dL_law_280 (by decide) (by omega) (fun h => by exfalso; omega) (fun h_280 => ?_)
  refine lv_aload_n hx hb dL_law_283 rfl (lv_at hl 5 rfl) ?_
  refine lv_iconst (v := nI 0) hx hb dL_law_284 (by decide) ?_
  refine mn_lald hB hO (by omega) (by omega) dL_law_285 ?_
  refine mh_top (y := .long ((abV q 5).toInt64)) (rfl) ?_
  refine lv_iload hx hb dL_law_286 (lv_at hl 0 rfl) ?_
  refine lv_i2l (v := (abV q 5).toInt64) hx hb dL_law_288 rfl ?_
  refine W.lcmp hx hb dL_law_289 ?_
  refine ml_if_eq (tgt := 295) hB dL_law_290 (by decide) (fun h_290 => ?_) (fun h => absurd rfl h)
  refine lv_goto (tgt := 1803) hx hb dL_law_295 (by decide) ?_
  refine W.widen (k := ce7 + 30) (n := sn7 + 1100) (by omega) (by omega) ?_
  exact kk _ _ _ ⟨hC, ⟨_, _, _, _, _, _, _, _, _, _, _, _, _, _, _, _, _, _, _, _, hR⟩, ⟨_, hO⟩, hTx⟩ hS (lv_sub hl [2, 3, 4, 5, 6] rfl)

set_option maxRecDepth 100000 in
set_option maxHeartbeats 800000 in
theorem s_about_w6 {p : Program} {l : Launch} {e : Env} {s : State} {m : MethodId} {args : Array Value} {below : List Frame} {meth : Method} {c : Code} {H : Heap} {locs : List Loc} {ce7 sn7 : Nat} {Q : State → Prop} {g : GG} {b L xb r ob lim : Nat} {xs : Nat → Int32} {i9 : Nat} {ls : Array Slot} {q : Nat → Int32} {n : Nat} {rm sl sv tx : Nat → Int32} {ln : Nat} {zsp : Nat → Int32} {zth : Int32} {zsg : Nat → Int32} {zbg : Nat → Int32} {zwd : Nat → Int32} {zhg : Nat → Int32} {zin : Nat → Int32} {zop : Int32} {zbe : Int32} {zwi : Int32} {zhi : Int32} {zbk : Nat → Int32} {zot : Nat → Int32} {zer : Int32} {zen : Int32} {zpo : Nat → Int32} {zpi : Int32} {zgr : Int32} {zsh : Nat → Int32} {zsn : Int32} {o : Nat → Int64} (hfl : l.stackTraces = false) (hE : LE p s m meth c g b L xs xb r ob lim) (hi : 4 * i9 + 3 < L) (hC : CLS g xb lim q n rm sl sv tx ln H) (hR : ModAt g r q zsp rm (nI n) sl sv tx (nI ln) zth zsg zbg zwd zhg zin zop zbe zwi zhi zbk zot zer zen zpo zpi zgr zsh zsn H) (hO : at_ g H ob (eL g 1 o)) (hTx : TxT tx ln) (hS : va_S (fun q9 => xb ≤ q9) s.heap H locs) (hl : lv_has ls 7 [(0, .ref b), (1, .ref xb), (2, .ref r), (3, .ref ob), (4, .int (nI (4 * i9)))]) (hce7 : ce7 + 30 ≤ 622861) (hsn7 : sn7 + 1100 ≤ 7227521) (a1 : xs (4 * i9 + 1) = nI 6) (kk : ∀ (H1 : Heap) (locs1 : List Loc) (ls1 : Array Slot), LI g xb r ob lim q n rm sl sv tx ln H1 → va_S (fun q9 => xb ≤ q9) s.heap H1 locs1 → lv_has ls1 7 [(0, .ref b), (1, .ref xb), (2, .ref r), (3, .ref ob), (4, .int (nI (4 * i9)))] → W p l e room_1 s m args below meth c H1 locs1 (ce7 + 30) (sn7 + 1100) Q (F0 m 1803 ls1 [])) : W p l e room_1 s m args below meth c H locs ce7 sn7 Q (F0 m 242 ls []) := by
  obtain ⟨hB, hZ9, hX, hbl, hL9, hxs, hr9, hob9, hlm9⟩ := hE
  have hx := hB.x
  have hb := hB.b
  have hbA : ¬ (fun q9 => xb ≤ q9) b := fun y9 => by have y8 : xb ≤ b := y9; omega
  have hW := hC.wf
  have hn14 := hC.n14
  have hl6c := hC.l60
  have hnm5 := hW.2.2.1
  refine lv_aload_n hx hb dL_law_242 rfl (lv_at hl 1 rfl) ?_
  refine lv_aload_n hx hb dL_law_243 rfl (lv_at hl 0 rfl) ?_
  refine lv_iload hx hb dL_law_244 (lv_at hl 4 rfl) ?_
  refine lv_iconst (v := nI 1) hx hb dL_law_246 (by decide) ?_
  refine mn_iadd hB dL_law_247 ?_
  refine va_sld hx hb hX hbl hbA hS (vp_in_nI (by omega) (by omega)) dL_law_248 ?_
  refine mh_top (y := .int (nI 6)) (by rw [nI_clamp (by omega), a1]) ?_
  refine lv_aload_n hx hb dL_law_249 rfl (lv_at hl 3 rfl) ?_
  refine cw_113 (As := [.ref xb, .int (nI 6), .ref ob]) (rest := []) hB (hZ9.at hS (fun _ h9 => h9)) (w_about_w6 l g H xb lim q n rm sl sv tx ln ob o (hC) (hO) (⟨by omega, by omega⟩) (hfl)) rfl hl.1 (Nat.le_of_ble_eq_true rfl) dL_law_250 ⟨Nat.le_of_ble_eq_true rfl, Nat.le_of_ble_eq_true rfl⟩ ⟨by show (ce7) + 0 ≤ 622861; omega, by show (sn7) + 0 ≤ 7227521; omega⟩ hS (by have hz9 := hS.1; rintro q9 (h9 | h9) <;> first | exact h9.elim | (have h8 : r ≤ q9 ∧ q9 < r + 16 := h9; show xb ≤ q9; omega) | (have h8 : ((xb ≤ q9 ∧ q9 < xb + 68) ∨ lim ≤ q9) ∨ q9 = ob := h9; show xb ≤ q9; omega) | (have h8 : (xb ≤ q9 ∧ q9 < xb + 68) ∨ lim ≤ q9 := h9; show xb ≤ q9; omega) | (show xb ≤ q9; omega)) (fun v H1 locs hpo hfr hS => ?_)
  obtain ⟨rfl, hC, hO⟩ := hpo
  have hR := hR.keptF hfr (fun q9 h1 h2 y9 => by first | exact y9.elim | (have y8 : ((xb ≤ q9 ∧ q9 < xb + 68) ∨ lim ≤ q9) ∨ q9 = ob := y9; omega) | (have y8 : (xb ≤ q9 ∧ q9 < xb + 68) ∨ lim ≤ q9 := y9; omega))
  generalize H1 = H at hfr hS hR hX hC hO ⊢
  refine W.widen (k := ce7) (n := sn7) (by show (ce7) + 0 ≤ ce7; omega) (by show (sn7) + 0 ≤ sn7; omega) ?_
  refine lv_istore (lv' := [(5, .int (nI 0)), (0, .ref b), (1, .ref xb), (2, .ref r), (3, .ref ob), (4, .int (nI (4 * i9)))]) hx hb dL_law_253 hl (by decide) rfl (fun ls hl => ?_)
  refine lv_aload_n hx hb dL_law_255 rfl (lv_at hl 3 rfl) ?_
  refine lv_aload_n hx hb dL_law_256 rfl (lv_at hl 1 rfl) ?_
  refine lv_iload hx hb dL_law_257 (lv_at hl 5 rfl) ?_
  refine lv_iconst (v := nI 1) hx hb dL_law_259 (by decide) ?_
  refine mn_iadd hB dL_law_260 ?_
  refine va_sld hx hb hX hbl hbA hS (vp_in_nI (by omega) (by omega)) dL_law_261 ?_
  refine mh_top (y := .int (nI 6)) (by rw [nI_clamp (by omega), a1]) ?_
  refine cl_L_115 (As := [.int (nI 6)]) (rest := []) hB (c_X11_about l g H r q zsp rm (nI n) sl sv tx (nI ln) zth zsg zbg zwd zhg zin zop zbe zwi zhi zbk zot zer zen zpo zpi zgr zsh zsn 6 hR (by omega) (by first | assumption | omega)) hR.o rfl hl.1 (Nat.le_of_ble_eq_true rfl) dL_law_262 ⟨Nat.le_of_ble_eq_true rfl, Nat.le_of_ble_eq_true rfl⟩ ⟨by show (ce7) + 0 ≤ 622861; omega, by show (sn7) + 0 ≤ 7227521; omega⟩ hS (by have hz9 := hS.1; rintro q9 (h9 | h9) <;> first | exact h9.elim | (have h8 : r ≤ q9 ∧ q9 < r + 16 := h9; show xb ≤ q9; omega) | (have h8 : ((xb ≤ q9 ∧ q9 < xb + 68) ∨ lim ≤ q9) ∨ q9 = ob := h9; show xb ≤ q9; omega) | (have h8 : (xb ≤ q9 ∧ q9 < xb + 68) ∨ lim ≤ q9 := h9; show xb ≤ q9; omega) | (show xb ≤ q9; omega)) (fun v H1 locs hpo hfr hS => ?_)
  obtain ⟨rfl, hR⟩ := hpo
  have hC := hC.keptM hfr (fun a9 y9 => by first | exact y9.elim | (have y8 : r ≤ a9 ∧ a9 < r + 16 := y9; omega))
  have hO := Fr.keep hfr hO (fun y9 => by first | exact y9.elim | (have y8 : r ≤ ob ∧ ob < r + 16 := y9; omega) | (have y8 : (xb ≤ ob ∧ ob < xb + 68) ∨ lim ≤ ob := y9; omega))
  generalize H1 = H at hfr hS hX hC hO hR ⊢
  refine W.widen (k := ce7) (n := sn7) (by show (ce7) + 0 ≤ ce7; omega) (by show (sn7) + 0 ≤ sn7; omega) ?_
  refine lv_istore (lv' := [(6, .int (abV q 6)), (5, .int (nI 0)), (0, .ref b), (1, .ref xb), (2, .ref r), (3, .ref ob), (4, .int (nI (4 * i9)))]) hx hb dL_law_265 hl (by decide) rfl (fun ls hl => ?_)
  refine lv_aload_n hx hb dL_law_267 rfl (lv_at hl 4 rfl) ?_
  refine cl_L_102 (As := []) (rest := []) hB (c_X11_thrown l g H r q zsp rm (nI n) sl sv tx (nI ln) (nI 0) zsg zbg zwd zhg zin zop zbe zwi zhi zbk zot zer zen zpo zpi zgr zsh zsn hR) hR.o rfl hl.1 (Nat.le_of_ble_eq_true rfl) dL_law_268 ⟨Nat.le_of_ble_eq_true rfl, Nat.le_of_ble_eq_true rfl⟩ ⟨by show (ce7) + 0 ≤ 622861; omega, by show (sn7) + 0 ≤ 7227521; omega⟩ hS (by have hz9 := hS.1; rintro q9 (h9 | h9) <;> first | exact h9.elim | (have h8 : r ≤ q9 ∧ q9 < r + 16 := h9; show xb ≤ q9; omega) | (have h8 : ((xb ≤ q9 ∧ q9 < xb + 68) ∨ lim ≤ q9) ∨ q9 = ob := h9; show xb ≤ q9; omega) | (have h8 : (xb ≤ q9 ∧ q9 < xb + 68) ∨ lim ≤ q9 := h9; show xb ≤ q9; omega) | (show xb ≤ q9; omega)) (fun v H1 locs hpo hfr hS => ?_)
  obtain ⟨rfl, rfl⟩ := hpo
  refine W.widen (k := ce7) (n := sn7) (by show (ce7) + 0 ≤ ce7; omega) (by show (sn7) + 0 ≤ sn7; omega) ?_
  refine lv_iload hx hb dL_law_271 (lv_at hl 1 rfl) ?_
  refine lv_icmp_eq (tgt := 278) hx hb dL_law_273 (by decide) (fun h_273 => ?_) (fun h9 => absurd rfl h9)
  refine lv_iload hx hb dL_law_278 (lv_at hl 1 rfl) ?_
  refine mn_if_ne (tgt := 295) hB dL_law_280 (by decide) (by omega) (fun h => by exfalso; omega) (fun h_280 => ?_)
  refine lv_aload_n hx hb dL_law_283 rfl (lv_at hl 5 rfl) ?_
  refine lv_iconst (v := nI 0) hx hb dL_law_284 (by decide) ?_
  refine mn_lald hB hO (by omega) (by omega) dL_law_285 ?_
  refine mh_top (y := .long ((abV q 6).toInt64)) (rfl) ?_
  refine lv_iload hx hb dL_law_286 (lv_at hl 0 rfl) ?_
  refine lv_i2l (v := (abV q 6).toInt64) hx hb dL_law_288 rfl ?_
  refine W.lcmp hx hb dL_law_289 ?_
  refine ml_if_eq (tgt := 295) hB dL_law_290 (by decide) (fun h_290 => ?_) (fun h => absurd rfl h)
  refine lv_goto (tgt := 1803) hx hb dL_law_295 (by decide) ?_
  refine W.widen (k := ce7 + 30) (n := sn7 + 1100) (by omega) (by omega) ?_
  exact kk _ _ _ ⟨hC, ⟨_, _, _, _, _, _, _, _, _, _, _, _, _, _, _, _, _, _, _, _, hR⟩, ⟨_, hO⟩, hTx⟩ hS (lv_sub hl [2, 3, 4, 5, 6] rfl)

set_option maxRecDepth 100000 in
set_option maxHeartbeats 800000 in
theorem s_about_w7 {p : Program} {l : Launch} {e : Env} {s : State} {m : MethodId} {args : Array Value} {below : List Frame} {meth : Method} {c : Code} {H : Heap} {locs : List Loc} {ce7 sn7 : Nat} {Q : State → Prop} {g : GG} {b L xb r ob lim : Nat} {xs : Nat → Int32} {i9 : Nat} {ls : Array Slot} {q : Nat → Int32} {n : Nat} {rm sl sv tx : Nat → Int32} {ln : Nat} {zsp : Nat → Int32} {zth : Int32} {zsg : Nat → Int32} {zbg : Nat → Int32} {zwd : Nat → Int32} {zhg : Nat → Int32} {zin : Nat → Int32} {zop : Int32} {zbe : Int32} {zwi : Int32} {zhi : Int32} {zbk : Nat → Int32} {zot : Nat → Int32} {zer : Int32} {zen : Int32} {zpo : Nat → Int32} {zpi : Int32} {zgr : Int32} {zsh : Nat → Int32} {zsn : Int32} {o : Nat → Int64} (hfl : l.stackTraces = false) (hE : LE p s m meth c g b L xs xb r ob lim) (hi : 4 * i9 + 3 < L) (hC : CLS g xb lim q n rm sl sv tx ln H) (hR : ModAt g r q zsp rm (nI n) sl sv tx (nI ln) zth zsg zbg zwd zhg zin zop zbe zwi zhi zbk zot zer zen zpo zpi zgr zsh zsn H) (hO : at_ g H ob (eL g 1 o)) (hTx : TxT tx ln) (hS : va_S (fun q9 => xb ≤ q9) s.heap H locs) (hl : lv_has ls 7 [(0, .ref b), (1, .ref xb), (2, .ref r), (3, .ref ob), (4, .int (nI (4 * i9)))]) (hce7 : ce7 + 30 ≤ 622861) (hsn7 : sn7 + 1100 ≤ 7227521) (a1 : xs (4 * i9 + 1) = nI 7) (kk : ∀ (H1 : Heap) (locs1 : List Loc) (ls1 : Array Slot), LI g xb r ob lim q n rm sl sv tx ln H1 → va_S (fun q9 => xb ≤ q9) s.heap H1 locs1 → lv_has ls1 7 [(0, .ref b), (1, .ref xb), (2, .ref r), (3, .ref ob), (4, .int (nI (4 * i9)))] → W p l e room_1 s m args below meth c H1 locs1 (ce7 + 30) (sn7 + 1100) Q (F0 m 1803 ls1 [])) : W p l e room_1 s m args below meth c H locs ce7 sn7 Q (F0 m 242 ls []) := by
  obtain ⟨hB, hZ9, hX, hbl, hL9, hxs, hr9, hob9, hlm9⟩ := hE
  have hx := hB.x
  have hb := hB.b
  have hbA : ¬ (fun q9 => xb ≤ q9) b := fun y9 => by have y8 : xb ≤ b := y9; omega
  have hW := hC.wf
  have hn14 := hC.n14
  have hl6c := hC.l60
  have hnm5 := hW.2.2.1
  refine lv_aload_n hx hb dL_law_242 rfl (lv_at hl 1 rfl) ?_
  refine lv_aload_n hx hb dL_law_243 rfl (lv_at hl 0 rfl) ?_
  refine lv_iload hx hb dL_law_244 (lv_at hl 4 rfl) ?_
  refine lv_iconst (v := nI 1) hx hb dL_law_246 (by decide) ?_
  refine mn_iadd hB dL_law_247 ?_
  refine va_sld hx hb hX hbl hbA hS (vp_in_nI (by omega) (by omega)) dL_law_248 ?_
  refine mh_top (y := .int (nI 7)) (by rw [nI_clamp (by omega), a1]) ?_
  refine lv_aload_n hx hb dL_law_249 rfl (lv_at hl 3 rfl) ?_
  refine cw_113 (As := [.ref xb, .int (nI 7), .ref ob]) (rest := []) hB (hZ9.at hS (fun _ h9 => h9)) (w_about_w7 l g H xb lim q n rm sl sv tx ln ob o (hC) (hO) (⟨by omega, by omega⟩) (hfl)) rfl hl.1 (Nat.le_of_ble_eq_true rfl) dL_law_250 ⟨Nat.le_of_ble_eq_true rfl, Nat.le_of_ble_eq_true rfl⟩ ⟨by show (ce7) + 0 ≤ 622861; omega, by show (sn7) + 0 ≤ 7227521; omega⟩ hS (by have hz9 := hS.1; rintro q9 (h9 | h9) <;> first | exact h9.elim | (have h8 : r ≤ q9 ∧ q9 < r + 16 := h9; show xb ≤ q9; omega) | (have h8 : ((xb ≤ q9 ∧ q9 < xb + 68) ∨ lim ≤ q9) ∨ q9 = ob := h9; show xb ≤ q9; omega) | (have h8 : (xb ≤ q9 ∧ q9 < xb + 68) ∨ lim ≤ q9 := h9; show xb ≤ q9; omega) | (show xb ≤ q9; omega)) (fun v H1 locs hpo hfr hS => ?_)
  obtain ⟨rfl, hC, hO⟩ := hpo
  have hR := hR.keptF hfr (fun q9 h1 h2 y9 => by first | exact y9.elim | (have y8 : ((xb ≤ q9 ∧ q9 < xb + 68) ∨ lim ≤ q9) ∨ q9 = ob := y9; omega) | (have y8 : (xb ≤ q9 ∧ q9 < xb + 68) ∨ lim ≤ q9 := y9; omega))
  generalize H1 = H at hfr hS hR hX hC hO ⊢
  refine W.widen (k := ce7) (n := sn7) (by show (ce7) + 0 ≤ ce7; omega) (by show (sn7) + 0 ≤ sn7; omega) ?_
  refine lv_istore (lv' := [(5, .int (nI 0)), (0, .ref b), (1, .ref xb), (2, .ref r), (3, .ref ob), (4, .int (nI (4 * i9)))]) hx hb dL_law_253 hl (by decide) rfl (fun ls hl => ?_)
  refine lv_aload_n hx hb dL_law_255 rfl (lv_at hl 3 rfl) ?_
  refine lv_aload_n hx hb dL_law_256 rfl (lv_at hl 1 rfl) ?_
  refine lv_iload hx hb dL_law_257 (lv_at hl 5 rfl) ?_
  refine lv_iconst (v := nI 1) hx hb dL_law_259 (by decide) ?_
  refine mn_iadd hB dL_law_260 ?_
  refine va_sld hx hb hX hbl hbA hS (vp_in_nI (by omega) (by omega)) dL_law_261 ?_
  refine mh_top (y := .int (nI 7)) (by rw [nI_clamp (by omega), a1]) ?_
  refine cl_L_115 (As := [.int (nI 7)]) (rest := []) hB (c_X11_about l g H r q zsp rm (nI n) sl sv tx (nI ln) zth zsg zbg zwd zhg zin zop zbe zwi zhi zbk zot zer zen zpo zpi zgr zsh zsn 7 hR (by omega) (by first | assumption | omega)) hR.o rfl hl.1 (Nat.le_of_ble_eq_true rfl) dL_law_262 ⟨Nat.le_of_ble_eq_true rfl, Nat.le_of_ble_eq_true rfl⟩ ⟨by show (ce7) + 0 ≤ 622861; omega, by show (sn7) + 0 ≤ 7227521; omega⟩ hS (by have hz9 := hS.1; rintro q9 (h9 | h9) <;> first | exact h9.elim | (have h8 : r ≤ q9 ∧ q9 < r + 16 := h9; show xb ≤ q9; omega) | (have h8 : ((xb ≤ q9 ∧ q9 < xb + 68) ∨ lim ≤ q9) ∨ q9 = ob := h9; show xb ≤ q9; omega) | (have h8 : (xb ≤ q9 ∧ q9 < xb + 68) ∨ lim ≤ q9 := h9; show xb ≤ q9; omega) | (show xb ≤ q9; omega)) (fun v H1 locs hpo hfr hS => ?_)
  obtain ⟨rfl, hR⟩ := hpo
  have hC := hC.keptM hfr (fun a9 y9 => by first | exact y9.elim | (have y8 : r ≤ a9 ∧ a9 < r + 16 := y9; omega))
  have hO := Fr.keep hfr hO (fun y9 => by first | exact y9.elim | (have y8 : r ≤ ob ∧ ob < r + 16 := y9; omega) | (have y8 : (xb ≤ ob ∧ ob < xb + 68) ∨ lim ≤ ob := y9; omega))
  generalize H1 = H at hfr hS hX hC hO hR ⊢
  refine W.widen (k := ce7) (n := sn7) (by show (ce7) + 0 ≤ ce7; omega) (by show (sn7) + 0 ≤ sn7; omega) ?_
  refine lv_istore (lv' := [(6, .int (abV q 7)), (5, .int (nI 0)), (0, .ref b), (1, .ref xb), (2, .ref r), (3, .ref ob), (4, .int (nI (4 * i9)))]) hx hb dL_law_265 hl (by decide) rfl (fun ls hl => ?_)
  refine lv_aload_n hx hb dL_law_267 rfl (lv_at hl 4 rfl) ?_
  refine cl_L_102 (As := []) (rest := []) hB (c_X11_thrown l g H r q zsp rm (nI n) sl sv tx (nI ln) (nI 0) zsg zbg zwd zhg zin zop zbe zwi zhi zbk zot zer zen zpo zpi zgr zsh zsn hR) hR.o rfl hl.1 (Nat.le_of_ble_eq_true rfl) dL_law_268 ⟨Nat.le_of_ble_eq_true rfl, Nat.le_of_ble_eq_true rfl⟩ ⟨by show (ce7) + 0 ≤ 622861; omega, by show (sn7) + 0 ≤ 7227521; omega⟩ hS (by have hz9 := hS.1; rintro q9 (h9 | h9) <;> first | exact h9.elim | (have h8 : r ≤ q9 ∧ q9 < r + 16 := h9; show xb ≤ q9; omega) | (have h8 : ((xb ≤ q9 ∧ q9 < xb + 68) ∨ lim ≤ q9) ∨ q9 = ob := h9; show xb ≤ q9; omega) | (have h8 : (xb ≤ q9 ∧ q9 < xb + 68) ∨ lim ≤ q9 := h9; show xb ≤ q9; omega) | (show xb ≤ q9; omega)) (fun v H1 locs hpo hfr hS => ?_)
  obtain ⟨rfl, rfl⟩ := hpo
  refine W.widen (k := ce7) (n := sn7) (by show (ce7) + 0 ≤ ce7; omega) (by show (sn7) + 0 ≤ sn7; omega) ?_
  refine lv_iload hx hb dL_law_271 (lv_at hl 1 rfl) ?_
  refine lv_icmp_eq (tgt := 278) hx hb dL_law_273 (by decide) (fun h_273 => ?_) (fun h9 => absurd rfl h9)
  refine lv_iload hx hb dL_law_278 (lv_at hl 1 rfl) ?_
  refine mn_if_ne (tgt := 295) hB dL_law_280 (by decide) (by omega) (fun h => by exfalso; omega) (fun h_280 => ?_)
  refine lv_aload_n hx hb dL_law_283 rfl (lv_at hl 5 rfl) ?_
  refine lv_iconst (v := nI 0) hx hb dL_law_284 (by decide) ?_
  refine mn_lald hB hO (by omega) (by omega) dL_law_285 ?_
  refine mh_top (y := .long ((abV q 7).toInt64)) (rfl) ?_
  refine lv_iload hx hb dL_law_286 (lv_at hl 0 rfl) ?_
  refine lv_i2l (v := (abV q 7).toInt64) hx hb dL_law_288 rfl ?_
  refine W.lcmp hx hb dL_law_289 ?_
  refine ml_if_eq (tgt := 295) hB dL_law_290 (by decide) (fun h_290 => ?_) (fun h => absurd rfl h)
  refine lv_goto (tgt := 1803) hx hb dL_law_295 (by decide) ?_
  refine W.widen (k := ce7 + 30) (n := sn7 + 1100) (by omega) (by omega) ?_
  exact kk _ _ _ ⟨hC, ⟨_, _, _, _, _, _, _, _, _, _, _, _, _, _, _, _, _, _, _, _, hR⟩, ⟨_, hO⟩, hTx⟩ hS (lv_sub hl [2, 3, 4, 5, 6] rfl)

set_option maxRecDepth 100000 in
set_option maxHeartbeats 800000 in
theorem s_about_w8 {p : Program} {l : Launch} {e : Env} {s : State} {m : MethodId} {args : Array Value} {below : List Frame} {meth : Method} {c : Code} {H : Heap} {locs : List Loc} {ce7 sn7 : Nat} {Q : State → Prop} {g : GG} {b L xb r ob lim : Nat} {xs : Nat → Int32} {i9 : Nat} {ls : Array Slot} {q : Nat → Int32} {n : Nat} {rm sl sv tx : Nat → Int32} {ln : Nat} {zsp : Nat → Int32} {zth : Int32} {zsg : Nat → Int32} {zbg : Nat → Int32} {zwd : Nat → Int32} {zhg : Nat → Int32} {zin : Nat → Int32} {zop : Int32} {zbe : Int32} {zwi : Int32} {zhi : Int32} {zbk : Nat → Int32} {zot : Nat → Int32} {zer : Int32} {zen : Int32} {zpo : Nat → Int32} {zpi : Int32} {zgr : Int32} {zsh : Nat → Int32} {zsn : Int32} {o : Nat → Int64} (hfl : l.stackTraces = false) (hE : LE p s m meth c g b L xs xb r ob lim) (hi : 4 * i9 + 3 < L) (hC : CLS g xb lim q n rm sl sv tx ln H) (hR : ModAt g r q zsp rm (nI n) sl sv tx (nI ln) zth zsg zbg zwd zhg zin zop zbe zwi zhi zbk zot zer zen zpo zpi zgr zsh zsn H) (hO : at_ g H ob (eL g 1 o)) (hTx : TxT tx ln) (hS : va_S (fun q9 => xb ≤ q9) s.heap H locs) (hl : lv_has ls 7 [(0, .ref b), (1, .ref xb), (2, .ref r), (3, .ref ob), (4, .int (nI (4 * i9)))]) (hce7 : ce7 + 30 ≤ 622861) (hsn7 : sn7 + 1100 ≤ 7227521) (a1 : xs (4 * i9 + 1) = nI 8) (kk : ∀ (H1 : Heap) (locs1 : List Loc) (ls1 : Array Slot), LI g xb r ob lim q n rm sl sv tx ln H1 → va_S (fun q9 => xb ≤ q9) s.heap H1 locs1 → lv_has ls1 7 [(0, .ref b), (1, .ref xb), (2, .ref r), (3, .ref ob), (4, .int (nI (4 * i9)))] → W p l e room_1 s m args below meth c H1 locs1 (ce7 + 30) (sn7 + 1100) Q (F0 m 1803 ls1 [])) : W p l e room_1 s m args below meth c H locs ce7 sn7 Q (F0 m 242 ls []) := by
  obtain ⟨hB, hZ9, hX, hbl, hL9, hxs, hr9, hob9, hlm9⟩ := hE
  have hx := hB.x
  have hb := hB.b
  have hbA : ¬ (fun q9 => xb ≤ q9) b := fun y9 => by have y8 : xb ≤ b := y9; omega
  have hW := hC.wf
  have hn14 := hC.n14
  have hl6c := hC.l60
  have hnm5 := hW.2.2.1
  refine lv_aload_n hx hb dL_law_242 rfl (lv_at hl 1 rfl) ?_
  refine lv_aload_n hx hb dL_law_243 rfl (lv_at hl 0 rfl) ?_
  refine lv_iload hx hb dL_law_244 (lv_at hl 4 rfl) ?_
  refine lv_iconst (v := nI 1) hx hb dL_law_246 (by decide) ?_
  refine mn_iadd hB dL_law_247 ?_
  refine va_sld hx hb hX hbl hbA hS (vp_in_nI (by omega) (by omega)) dL_law_248 ?_
  refine mh_top (y := .int (nI 8)) (by rw [nI_clamp (by omega), a1]) ?_
  refine lv_aload_n hx hb dL_law_249 rfl (lv_at hl 3 rfl) ?_
  refine cw_113 (As := [.ref xb, .int (nI 8), .ref ob]) (rest := []) hB (hZ9.at hS (fun _ h9 => h9)) (w_about_w8 l g H xb lim q n rm sl sv tx ln ob o (hC) (hO) (⟨by omega, by omega⟩) (hfl)) rfl hl.1 (Nat.le_of_ble_eq_true rfl) dL_law_250 ⟨Nat.le_of_ble_eq_true rfl, Nat.le_of_ble_eq_true rfl⟩ ⟨by show (ce7) + 0 ≤ 622861; omega, by show (sn7) + 0 ≤ 7227521; omega⟩ hS (by have hz9 := hS.1; rintro q9 (h9 | h9) <;> first | exact h9.elim | (have h8 : r ≤ q9 ∧ q9 < r + 16 := h9; show xb ≤ q9; omega) | (have h8 : ((xb ≤ q9 ∧ q9 < xb + 68) ∨ lim ≤ q9) ∨ q9 = ob := h9; show xb ≤ q9; omega) | (have h8 : (xb ≤ q9 ∧ q9 < xb + 68) ∨ lim ≤ q9 := h9; show xb ≤ q9; omega) | (show xb ≤ q9; omega)) (fun v H1 locs hpo hfr hS => ?_)
  obtain ⟨rfl, hC, hO⟩ := hpo
  have hR := hR.keptF hfr (fun q9 h1 h2 y9 => by first | exact y9.elim | (have y8 : ((xb ≤ q9 ∧ q9 < xb + 68) ∨ lim ≤ q9) ∨ q9 = ob := y9; omega) | (have y8 : (xb ≤ q9 ∧ q9 < xb + 68) ∨ lim ≤ q9 := y9; omega))
  generalize H1 = H at hfr hS hR hX hC hO ⊢
  refine W.widen (k := ce7) (n := sn7) (by show (ce7) + 0 ≤ ce7; omega) (by show (sn7) + 0 ≤ sn7; omega) ?_
  refine lv_istore (lv' := [(5, .int (nI 0)), (0, .ref b), (1, .ref xb), (2, .ref r), (3, .ref ob), (4, .int (nI (4 * i9)))]) hx hb dL_law_253 hl (by decide) rfl (fun ls hl => ?_)
  refine lv_aload_n hx hb dL_law_255 rfl (lv_at hl 3 rfl) ?_
  refine lv_aload_n hx hb dL_law_256 rfl (lv_at hl 1 rfl) ?_
  refine lv_iload hx hb dL_law_257 (lv_at hl 5 rfl) ?_
  refine lv_iconst (v := nI 1) hx hb dL_law_259 (by decide) ?_
  refine mn_iadd hB dL_law_260 ?_
  refine va_sld hx hb hX hbl hbA hS (vp_in_nI (by omega) (by omega)) dL_law_261 ?_
  refine mh_top (y := .int (nI 8)) (by rw [nI_clamp (by omega), a1]) ?_
  refine cl_L_115 (As := [.int (nI 8)]) (rest := []) hB (c_X11_about l g H r q zsp rm (nI n) sl sv tx (nI ln) zth zsg zbg zwd zhg zin zop zbe zwi zhi zbk zot zer zen zpo zpi zgr zsh zsn 8 hR (by omega) (by first | assumption | omega)) hR.o rfl hl.1 (Nat.le_of_ble_eq_true rfl) dL_law_262 ⟨Nat.le_of_ble_eq_true rfl, Nat.le_of_ble_eq_true rfl⟩ ⟨by show (ce7) + 0 ≤ 622861; omega, by show (sn7) + 0 ≤ 7227521; omega⟩ hS (by have hz9 := hS.1; rintro q9 (h9 | h9) <;> first | exact h9.elim | (have h8 : r ≤ q9 ∧ q9 < r + 16 := h9; show xb ≤ q9; omega) | (have h8 : ((xb ≤ q9 ∧ q9 < xb + 68) ∨ lim ≤ q9) ∨ q9 = ob := h9; show xb ≤ q9; omega) | (have h8 : (xb ≤ q9 ∧ q9 < xb + 68) ∨ lim ≤ q9 := h9; show xb ≤ q9; omega) | (show xb ≤ q9; omega)) (fun v H1 locs hpo hfr hS => ?_)
  obtain ⟨rfl, hR⟩ := hpo
  have hC := hC.keptM hfr (fun a9 y9 => by first | exact y9.elim | (have y8 : r ≤ a9 ∧ a9 < r + 16 := y9; omega))
  have hO := Fr.keep hfr hO (fun y9 => by first | exact y9.elim | (have y8 : r ≤ ob ∧ ob < r + 16 := y9; omega) | (have y8 : (xb ≤ ob ∧ ob < xb + 68) ∨ lim ≤ ob := y9; omega))
  generalize H1 = H at hfr hS hX hC hO hR ⊢
  refine W.widen (k := ce7) (n := sn7) (by show (ce7) + 0 ≤ ce7; omega) (by show (sn7) + 0 ≤ sn7; omega) ?_
  refine lv_istore (lv' := [(6, .int (abV q 8)), (5, .int (nI 0)), (0, .ref b), (1, .ref xb), (2, .ref r), (3, .ref ob), (4, .int (nI (4 * i9)))]) hx hb dL_law_265 hl (by decide) rfl (fun ls hl => ?_)
  refine lv_aload_n hx hb dL_law_267 rfl (lv_at hl 4 rfl) ?_
  refine cl_L_102 (As := []) (rest := []) hB (c_X11_thrown l g H r q zsp rm (nI n) sl sv tx (nI ln) (nI 0) zsg zbg zwd zhg zin zop zbe zwi zhi zbk zot zer zen zpo zpi zgr zsh zsn hR) hR.o rfl hl.1 (Nat.le_of_ble_eq_true rfl) dL_law_268 ⟨Nat.le_of_ble_eq_true rfl, Nat.le_of_ble_eq_true rfl⟩ ⟨by show (ce7) + 0 ≤ 622861; omega, by show (sn7) + 0 ≤ 7227521; omega⟩ hS (by have hz9 := hS.1; rintro q9 (h9 | h9) <;> first | exact h9.elim | (have h8 : r ≤ q9 ∧ q9 < r + 16 := h9; show xb ≤ q9; omega) | (have h8 : ((xb ≤ q9 ∧ q9 < xb + 68) ∨ lim ≤ q9) ∨ q9 = ob := h9; show xb ≤ q9; omega) | (have h8 : (xb ≤ q9 ∧ q9 < xb + 68) ∨ lim ≤ q9 := h9; show xb ≤ q9; omega) | (show xb ≤ q9; omega)) (fun v H1 locs hpo hfr hS => ?_)
  obtain ⟨rfl, rfl⟩ := hpo
  refine W.widen (k := ce7) (n := sn7) (by show (ce7) + 0 ≤ ce7; omega) (by show (sn7) + 0 ≤ sn7; omega) ?_
  refine lv_iload hx hb dL_law_271 (lv_at hl 1 rfl) ?_
  refine lv_icmp_eq (tgt := 278) hx hb dL_law_273 (by decide) (fun h_273 => ?_) (fun h9 => absurd rfl h9)
  refine lv_iload hx hb dL_law_278 (lv_at hl 1 rfl) ?_
  refine mn_if_ne (tgt := 295) hB dL_law_280 (by decide) (by omega) (fun h => by exfalso; omega) (fun h_280 => ?_)
  refine lv_aload_n hx hb dL_law_283 rfl (lv_at hl 5 rfl) ?_
  refine lv_iconst (v := nI 0) hx hb dL_law_284 (by decide) ?_
  refine mn_lald hB hO (by omega) (by omega) dL_law_285 ?_
  refine mh_top (y := .long ((abV q 8).toInt64)) (rfl) ?_
  refine lv_iload hx hb dL_law_286 (lv_at hl 0 rfl) ?_
  refine lv_i2l (v := (abV q 8).toInt64) hx hb dL_law_288 rfl ?_
  refine W.lcmp hx hb dL_law_289 ?_
  refine ml_if_eq (tgt := 295) hB dL_law_290 (by decide) (fun h_290 => ?_) (fun h => absurd rfl h)
  refine lv_goto (tgt := 1803) hx hb dL_law_295 (by decide) ?_
  refine W.widen (k := ce7 + 30) (n := sn7 + 1100) (by omega) (by omega) ?_
  exact kk _ _ _ ⟨hC, ⟨_, _, _, _, _, _, _, _, _, _, _, _, _, _, _, _, _, _, _, _, hR⟩, ⟨_, hO⟩, hTx⟩ hS (lv_sub hl [2, 3, 4, 5, 6] rfl)

set_option maxRecDepth 100000 in
set_option maxHeartbeats 800000 in
theorem s_member_t1 {p : Program} {l : Launch} {e : Env} {s : State} {m : MethodId} {args : Array Value} {below : List Frame} {meth : Method} {c : Code} {H : Heap} {locs : List Loc} {ce7 sn7 : Nat} {Q : State → Prop} {g : GG} {b L xb r ob lim : Nat} {xs : Nat → Int32} {i9 : Nat} {ls : Array Slot} {q : Nat → Int32} {n : Nat} {rm sl sv tx : Nat → Int32} {ln : Nat} {zsp : Nat → Int32} {zth : Int32} {zsg : Nat → Int32} {zbg : Nat → Int32} {zwd : Nat → Int32} {zhg : Nat → Int32} {zin : Nat → Int32} {zop : Int32} {zbe : Int32} {zwi : Int32} {zhi : Int32} {zbk : Nat → Int32} {zot : Nat → Int32} {zer : Int32} {zen : Int32} {zpo : Nat → Int32} {zpi : Int32} {zgr : Int32} {zsh : Nat → Int32} {zsn : Int32} {o : Nat → Int64} (hfl : l.stackTraces = false) (hE : LE p s m meth c g b L xs xb r ob lim) (hi : 4 * i9 + 3 < L) (hC : CLS g xb lim q n rm sl sv tx ln H) (hR : ModAt g r q zsp rm (nI n) sl sv tx (nI ln) zth zsg zbg zwd zhg zin zop zbe zwi zhi zbk zot zer zen zpo zpi zgr zsh zsn H) (hO : at_ g H ob (eL g 1 o)) (hTx : TxT tx ln) (hS : va_S (fun q9 => xb ≤ q9) s.heap H locs) (hl : lv_has ls 7 [(0, .ref b), (1, .ref xb), (2, .ref r), (3, .ref ob), (4, .int (nI (4 * i9)))]) (hce7 : ce7 + 30 ≤ 622861) (hsn7 : sn7 + 1100 ≤ 7227521) (x : Int32) (y : Int32) (a1 : xs (4 * i9 + 1) = x) (a2 : xs (4 * i9 + 2) = y) (hx1 : isIx x (nmQ q) = false) (kk : ∀ (H1 : Heap) (locs1 : List Loc) (ls1 : Array Slot), LI g xb r ob lim q n rm sl sv tx ln H1 → va_S (fun q9 => xb ≤ q9) s.heap H1 locs1 → lv_has ls1 7 [(0, .ref b), (1, .ref xb), (2, .ref r), (3, .ref ob), (4, .int (nI (4 * i9)))] → W p l e room_1 s m args below meth c H1 locs1 (ce7 + 30) (sn7 + 1100) Q (F0 m 1803 ls1 [])) : W p l e room_1 s m args below meth c H locs ce7 sn7 Q (F0 m 298 ls []) := by
  obtain ⟨hB, hZ9, hX, hbl, hL9, hxs, hr9, hob9, hlm9⟩ := hE
  have hx := hB.x
  have hb := hB.b
  have hbA : ¬ (fun q9 => xb ≤ q9) b := fun y9 => by have y8 : xb ≤ b := y9; omega
  have hW := hC.wf
  have hn14 := hC.n14
  have hl6c := hC.l60
  have hnm5 := hW.2.2.1
  refine lv_aload_n hx hb dL_law_298 rfl (lv_at hl 1 rfl) ?_
  refine lv_aload_n hx hb dL_law_299 rfl (lv_at hl 0 rfl) ?_
  refine lv_iload hx hb dL_law_300 (lv_at hl 4 rfl) ?_
  refine lv_iconst (v := nI 1) hx hb dL_law_302 (by decide) ?_
  refine mn_iadd hB dL_law_303 ?_
  refine va_sld hx hb hX hbl hbA hS (vp_in_nI (by omega) (by omega)) dL_law_304 ?_
  refine mh_top (y := .int x) (by rw [nI_clamp (by omega), a1]) ?_
  refine lv_aload_n hx hb dL_law_305 rfl (lv_at hl 0 rfl) ?_
  refine lv_iload hx hb dL_law_306 (lv_at hl 4 rfl) ?_
  refine lv_iconst (v := nI 2) hx hb dL_law_308 (by decide) ?_
  refine mn_iadd hB dL_law_309 ?_
  refine va_sld hx hb hX hbl hbA hS (vp_in_nI (by omega) (by omega)) dL_law_310 ?_
  refine mh_top (y := .int y) (by rw [nI_clamp (by omega), a2]) ?_
  refine lv_aload_n hx hb dL_law_311 rfl (lv_at hl 3 rfl) ?_
  refine cw_116 (As := [.ref xb, .int x, .int y, .ref ob]) (rest := []) hB (hZ9.at hS (fun _ h9 => h9)) (w_member_t1 l g H xb lim q n rm sl sv tx ln x y ob o (hC) (hO) (hx1) (⟨by omega, by omega⟩) (hfl)) rfl hl.1 (Nat.le_of_ble_eq_true rfl) dL_law_312 ⟨Nat.le_of_ble_eq_true rfl, Nat.le_of_ble_eq_true rfl⟩ ⟨by show (ce7) + 1 ≤ 622861; omega, by show (sn7) + 6 ≤ 7227521; omega⟩ hS (by have hz9 := hS.1; rintro q9 (h9 | h9) <;> first | exact h9.elim | (have h8 : r ≤ q9 ∧ q9 < r + 16 := h9; show xb ≤ q9; omega) | (have h8 : ((xb ≤ q9 ∧ q9 < xb + 68) ∨ lim ≤ q9) ∨ q9 = ob := h9; show xb ≤ q9; omega) | (have h8 : (xb ≤ q9 ∧ q9 < xb + 68) ∨ lim ≤ q9 := h9; show xb ≤ q9; omega) | (show xb ≤ q9; omega)) (fun v H1 locs hpo hfr hS => ?_)
  obtain ⟨rfl, hC, hO⟩ := hpo
  have hR := hR.keptF hfr (fun q9 h1 h2 y9 => by first | exact y9.elim | (have y8 : ((xb ≤ q9 ∧ q9 < xb + 68) ∨ lim ≤ q9) ∨ q9 = ob := y9; omega) | (have y8 : (xb ≤ q9 ∧ q9 < xb + 68) ∨ lim ≤ q9 := y9; omega))
  generalize H1 = H at hfr hS hR hX hC hO ⊢
  refine W.widen (k := ce7 + 1) (n := sn7 + 6) (by show (ce7) + 1 ≤ ce7 + 1; omega) (by show (sn7) + 6 ≤ sn7 + 6; omega) ?_
  refine lv_istore (lv' := [(5, .int (nI 1)), (0, .ref b), (1, .ref xb), (2, .ref r), (3, .ref ob), (4, .int (nI (4 * i9)))]) hx hb dL_law_315 hl (by decide) rfl (fun ls hl => ?_)
  refine lv_aload_n hx hb dL_law_317 rfl (lv_at hl 3 rfl) ?_
  refine lv_aload_n hx hb dL_law_318 rfl (lv_at hl 1 rfl) ?_
  refine lv_iload hx hb dL_law_319 (lv_at hl 5 rfl) ?_
  refine lv_iconst (v := nI 1) hx hb dL_law_321 (by decide) ?_
  refine mn_iadd hB dL_law_322 ?_
  refine va_sld hx hb hX hbl hbA hS (vp_in_nI (by omega) (by omega)) dL_law_323 ?_
  refine mh_top (y := .int x) (by rw [nI_clamp (by omega), a1]) ?_
  refine lv_aload_n hx hb dL_law_324 rfl (lv_at hl 1 rfl) ?_
  refine lv_iload hx hb dL_law_325 (lv_at hl 5 rfl) ?_
  refine lv_iconst (v := nI 2) hx hb dL_law_327 (by decide) ?_
  refine mn_iadd hB dL_law_328 ?_
  refine va_sld hx hb hX hbl hbA hS (vp_in_nI (by omega) (by omega)) dL_law_329 ?_
  refine mh_top (y := .int y) (by rw [nI_clamp (by omega), a2]) ?_
  refine cl_L_119 (As := [.int x, .int y]) (rest := []) hB (c_X11_member_t1 l g H r q zsp rm (nI n) sl sv tx (nI ln) zth zsg zbg zwd zhg zin zop zbe zwi zhi zbk zot zer zen zpo zpi zgr zsh zsn x y hR (hx1) (by first | assumption | omega)) hR.o rfl hl.1 (Nat.le_of_ble_eq_true rfl) dL_law_330 ⟨Nat.le_of_ble_eq_true rfl, Nat.le_of_ble_eq_true rfl⟩ ⟨by show (ce7 + 1) + 0 ≤ 622861; omega, by show (sn7 + 6) + 0 ≤ 7227521; omega⟩ hS (by have hz9 := hS.1; rintro q9 (h9 | h9) <;> first | exact h9.elim | (have h8 : r ≤ q9 ∧ q9 < r + 16 := h9; show xb ≤ q9; omega) | (have h8 : ((xb ≤ q9 ∧ q9 < xb + 68) ∨ lim ≤ q9) ∨ q9 = ob := h9; show xb ≤ q9; omega) | (have h8 : (xb ≤ q9 ∧ q9 < xb + 68) ∨ lim ≤ q9 := h9; show xb ≤ q9; omega) | (show xb ≤ q9; omega)) (fun v H1 locs hpo hfr hS => ?_)
  obtain ⟨rfl, hR⟩ := hpo
  have hC := hC.keptM hfr (fun a9 y9 => by first | exact y9.elim | (have y8 : r ≤ a9 ∧ a9 < r + 16 := y9; omega))
  have hO := Fr.keep hfr hO (fun y9 => by first | exact y9.elim | (have y8 : r ≤ ob ∧ ob < r + 16 := y9; omega) | (have y8 : (xb ≤ ob ∧ ob < xb + 68) ∨ lim ≤ ob := y9; omega))
  generalize H1 = H at hfr hS hX hC hO hR ⊢
  refine W.widen (k := ce7 + 1) (n := sn7 + 6) (by show (ce7 + 1) + 0 ≤ ce7 + 1; omega) (by show (sn7 + 6) + 0 ≤ sn7 + 6; omega) ?_
  refine lv_istore (lv' := [(6, .int (nI 0)), (5, .int (nI 1)), (0, .ref b), (1, .ref xb), (2, .ref r), (3, .ref ob), (4, .int (nI (4 * i9)))]) hx hb dL_law_333 hl (by decide) rfl (fun ls hl => ?_)
  refine lv_aload_n hx hb dL_law_335 rfl (lv_at hl 4 rfl) ?_
  refine cl_L_102 (As := []) (rest := []) hB (c_X11_thrown l g H r q zsp rm (nI n) sl sv tx (nI ln) (nI 1) zsg zbg zwd zhg zin zop zbe zwi zhi zbk zot zer zen zpo zpi zgr zsh zsn hR) hR.o rfl hl.1 (Nat.le_of_ble_eq_true rfl) dL_law_336 ⟨Nat.le_of_ble_eq_true rfl, Nat.le_of_ble_eq_true rfl⟩ ⟨by show (ce7 + 1) + 0 ≤ 622861; omega, by show (sn7 + 6) + 0 ≤ 7227521; omega⟩ hS (by have hz9 := hS.1; rintro q9 (h9 | h9) <;> first | exact h9.elim | (have h8 : r ≤ q9 ∧ q9 < r + 16 := h9; show xb ≤ q9; omega) | (have h8 : ((xb ≤ q9 ∧ q9 < xb + 68) ∨ lim ≤ q9) ∨ q9 = ob := h9; show xb ≤ q9; omega) | (have h8 : (xb ≤ q9 ∧ q9 < xb + 68) ∨ lim ≤ q9 := h9; show xb ≤ q9; omega) | (show xb ≤ q9; omega)) (fun v H1 locs hpo hfr hS => ?_)
  obtain ⟨rfl, rfl⟩ := hpo
  refine W.widen (k := ce7 + 1) (n := sn7 + 6) (by show (ce7 + 1) + 0 ≤ ce7 + 1; omega) (by show (sn7 + 6) + 0 ≤ sn7 + 6; omega) ?_
  refine lv_iload hx hb dL_law_339 (lv_at hl 1 rfl) ?_
  refine lv_icmp_eq (tgt := 346) hx hb dL_law_341 (by decide) (fun h_341 => ?_) (fun h9 => absurd rfl h9)
  refine lv_iload hx hb dL_law_346 (lv_at hl 1 rfl) ?_
  refine mn_if_ne (tgt := 363) hB dL_law_348 (by decide) (by omega) (fun h_348 => ?_) (fun h => by exfalso; omega)
  refine lv_goto (tgt := 1803) hx hb dL_law_363 (by decide) ?_
  refine W.widen (k := ce7 + 30) (n := sn7 + 1100) (by omega) (by omega) ?_
  exact kk _ _ _ ⟨hC, ⟨_, _, _, _, _, _, _, _, _, _, _, _, _, _, _, _, _, _, _, _, hR⟩, ⟨_, hO⟩, hTx⟩ hS (lv_sub hl [2, 3, 4, 5, 6] rfl)

set_option maxRecDepth 100000 in
set_option maxHeartbeats 800000 in
theorem s_member_t2 {p : Program} {l : Launch} {e : Env} {s : State} {m : MethodId} {args : Array Value} {below : List Frame} {meth : Method} {c : Code} {H : Heap} {locs : List Loc} {ce7 sn7 : Nat} {Q : State → Prop} {g : GG} {b L xb r ob lim : Nat} {xs : Nat → Int32} {i9 : Nat} {ls : Array Slot} {q : Nat → Int32} {n : Nat} {rm sl sv tx : Nat → Int32} {ln : Nat} {zsp : Nat → Int32} {zth : Int32} {zsg : Nat → Int32} {zbg : Nat → Int32} {zwd : Nat → Int32} {zhg : Nat → Int32} {zin : Nat → Int32} {zop : Int32} {zbe : Int32} {zwi : Int32} {zhi : Int32} {zbk : Nat → Int32} {zot : Nat → Int32} {zer : Int32} {zen : Int32} {zpo : Nat → Int32} {zpi : Int32} {zgr : Int32} {zsh : Nat → Int32} {zsn : Int32} {o : Nat → Int64} (hfl : l.stackTraces = false) (hE : LE p s m meth c g b L xs xb r ob lim) (hi : 4 * i9 + 3 < L) (hC : CLS g xb lim q n rm sl sv tx ln H) (hR : ModAt g r q zsp rm (nI n) sl sv tx (nI ln) zth zsg zbg zwd zhg zin zop zbe zwi zhi zbk zot zer zen zpo zpi zgr zsh zsn H) (hO : at_ g H ob (eL g 1 o)) (hTx : TxT tx ln) (hS : va_S (fun q9 => xb ≤ q9) s.heap H locs) (hl : lv_has ls 7 [(0, .ref b), (1, .ref xb), (2, .ref r), (3, .ref ob), (4, .int (nI (4 * i9)))]) (hce7 : ce7 + 30 ≤ 622861) (hsn7 : sn7 + 1100 ≤ 7227521) (k : Nat) (y : Int32) (a1 : xs (4 * i9 + 1) = nI k) (a2 : xs (4 * i9 + 2) = y) (hk : k < nmQ q) (hx1 : isIx y 4 = false) (kk : ∀ (H1 : Heap) (locs1 : List Loc) (ls1 : Array Slot), LI g xb r ob lim q n rm sl sv tx ln H1 → va_S (fun q9 => xb ≤ q9) s.heap H1 locs1 → lv_has ls1 7 [(0, .ref b), (1, .ref xb), (2, .ref r), (3, .ref ob), (4, .int (nI (4 * i9)))] → W p l e room_1 s m args below meth c H1 locs1 (ce7 + 30) (sn7 + 1100) Q (F0 m 1803 ls1 [])) : W p l e room_1 s m args below meth c H locs ce7 sn7 Q (F0 m 298 ls []) := by
  obtain ⟨hB, hZ9, hX, hbl, hL9, hxs, hr9, hob9, hlm9⟩ := hE
  have hx := hB.x
  have hb := hB.b
  have hbA : ¬ (fun q9 => xb ≤ q9) b := fun y9 => by have y8 : xb ≤ b := y9; omega
  have hW := hC.wf
  have hn14 := hC.n14
  have hl6c := hC.l60
  have hnm5 := hW.2.2.1
  refine lv_aload_n hx hb dL_law_298 rfl (lv_at hl 1 rfl) ?_
  refine lv_aload_n hx hb dL_law_299 rfl (lv_at hl 0 rfl) ?_
  refine lv_iload hx hb dL_law_300 (lv_at hl 4 rfl) ?_
  refine lv_iconst (v := nI 1) hx hb dL_law_302 (by decide) ?_
  refine mn_iadd hB dL_law_303 ?_
  refine va_sld hx hb hX hbl hbA hS (vp_in_nI (by omega) (by omega)) dL_law_304 ?_
  refine mh_top (y := .int (nI k)) (by rw [nI_clamp (by omega), a1]) ?_
  refine lv_aload_n hx hb dL_law_305 rfl (lv_at hl 0 rfl) ?_
  refine lv_iload hx hb dL_law_306 (lv_at hl 4 rfl) ?_
  refine lv_iconst (v := nI 2) hx hb dL_law_308 (by decide) ?_
  refine mn_iadd hB dL_law_309 ?_
  refine va_sld hx hb hX hbl hbA hS (vp_in_nI (by omega) (by omega)) dL_law_310 ?_
  refine mh_top (y := .int y) (by rw [nI_clamp (by omega), a2]) ?_
  refine lv_aload_n hx hb dL_law_311 rfl (lv_at hl 3 rfl) ?_
  refine cw_116 (As := [.ref xb, .int (nI k), .int y, .ref ob]) (rest := []) hB (hZ9.at hS (fun _ h9 => h9)) (w_member_t2 l g H xb lim q n rm sl sv tx ln k y ob o (hC) (hO) (hk) (hx1) (⟨by omega, by omega⟩) (hfl)) rfl hl.1 (Nat.le_of_ble_eq_true rfl) dL_law_312 ⟨Nat.le_of_ble_eq_true rfl, Nat.le_of_ble_eq_true rfl⟩ ⟨by show (ce7) + 1 ≤ 622861; omega, by show (sn7) + 6 ≤ 7227521; omega⟩ hS (by have hz9 := hS.1; rintro q9 (h9 | h9) <;> first | exact h9.elim | (have h8 : r ≤ q9 ∧ q9 < r + 16 := h9; show xb ≤ q9; omega) | (have h8 : ((xb ≤ q9 ∧ q9 < xb + 68) ∨ lim ≤ q9) ∨ q9 = ob := h9; show xb ≤ q9; omega) | (have h8 : (xb ≤ q9 ∧ q9 < xb + 68) ∨ lim ≤ q9 := h9; show xb ≤ q9; omega) | (show xb ≤ q9; omega)) (fun v H1 locs hpo hfr hS => ?_)
  obtain ⟨rfl, hC, hO⟩ := hpo
  have hR := hR.keptF hfr (fun q9 h1 h2 y9 => by first | exact y9.elim | (have y8 : ((xb ≤ q9 ∧ q9 < xb + 68) ∨ lim ≤ q9) ∨ q9 = ob := y9; omega) | (have y8 : (xb ≤ q9 ∧ q9 < xb + 68) ∨ lim ≤ q9 := y9; omega))
  generalize H1 = H at hfr hS hR hX hC hO ⊢
  refine W.widen (k := ce7 + 1) (n := sn7 + 6) (by show (ce7) + 1 ≤ ce7 + 1; omega) (by show (sn7) + 6 ≤ sn7 + 6; omega) ?_
  refine lv_istore (lv' := [(5, .int (nI 2)), (0, .ref b), (1, .ref xb), (2, .ref r), (3, .ref ob), (4, .int (nI (4 * i9)))]) hx hb dL_law_315 hl (by decide) rfl (fun ls hl => ?_)
  refine lv_aload_n hx hb dL_law_317 rfl (lv_at hl 3 rfl) ?_
  refine lv_aload_n hx hb dL_law_318 rfl (lv_at hl 1 rfl) ?_
  refine lv_iload hx hb dL_law_319 (lv_at hl 5 rfl) ?_
  refine lv_iconst (v := nI 1) hx hb dL_law_321 (by decide) ?_
  refine mn_iadd hB dL_law_322 ?_
  refine va_sld hx hb hX hbl hbA hS (vp_in_nI (by omega) (by omega)) dL_law_323 ?_
  refine mh_top (y := .int (nI k)) (by rw [nI_clamp (by omega), a1]) ?_
  refine lv_aload_n hx hb dL_law_324 rfl (lv_at hl 1 rfl) ?_
  refine lv_iload hx hb dL_law_325 (lv_at hl 5 rfl) ?_
  refine lv_iconst (v := nI 2) hx hb dL_law_327 (by decide) ?_
  refine mn_iadd hB dL_law_328 ?_
  refine va_sld hx hb hX hbl hbA hS (vp_in_nI (by omega) (by omega)) dL_law_329 ?_
  refine mh_top (y := .int y) (by rw [nI_clamp (by omega), a2]) ?_
  refine cl_L_119 (As := [.int (nI k), .int y]) (rest := []) hB (c_X11_member_t2 l g H r q zsp rm (nI n) sl sv tx (nI ln) zth zsg zbg zwd zhg zin zop zbe zwi zhi zbk zot zer zen zpo zpi zgr zsh zsn k y hR (hk) (hx1) (by first | assumption | omega)) hR.o rfl hl.1 (Nat.le_of_ble_eq_true rfl) dL_law_330 ⟨Nat.le_of_ble_eq_true rfl, Nat.le_of_ble_eq_true rfl⟩ ⟨by show (ce7 + 1) + 0 ≤ 622861; omega, by show (sn7 + 6) + 0 ≤ 7227521; omega⟩ hS (by have hz9 := hS.1; rintro q9 (h9 | h9) <;> first | exact h9.elim | (have h8 : r ≤ q9 ∧ q9 < r + 16 := h9; show xb ≤ q9; omega) | (have h8 : ((xb ≤ q9 ∧ q9 < xb + 68) ∨ lim ≤ q9) ∨ q9 = ob := h9; show xb ≤ q9; omega) | (have h8 : (xb ≤ q9 ∧ q9 < xb + 68) ∨ lim ≤ q9 := h9; show xb ≤ q9; omega) | (show xb ≤ q9; omega)) (fun v H1 locs hpo hfr hS => ?_)
  obtain ⟨rfl, hR⟩ := hpo
  have hC := hC.keptM hfr (fun a9 y9 => by first | exact y9.elim | (have y8 : r ≤ a9 ∧ a9 < r + 16 := y9; omega))
  have hO := Fr.keep hfr hO (fun y9 => by first | exact y9.elim | (have y8 : r ≤ ob ∧ ob < r + 16 := y9; omega) | (have y8 : (xb ≤ ob ∧ ob < xb + 68) ∨ lim ≤ ob := y9; omega))
  generalize H1 = H at hfr hS hX hC hO hR ⊢
  refine W.widen (k := ce7 + 1) (n := sn7 + 6) (by show (ce7 + 1) + 0 ≤ ce7 + 1; omega) (by show (sn7 + 6) + 0 ≤ sn7 + 6; omega) ?_
  refine lv_istore (lv' := [(6, .int (nI 0)), (5, .int (nI 2)), (0, .ref b), (1, .ref xb), (2, .ref r), (3, .ref ob), (4, .int (nI (4 * i9)))]) hx hb dL_law_333 hl (by decide) rfl (fun ls hl => ?_)
  refine lv_aload_n hx hb dL_law_335 rfl (lv_at hl 4 rfl) ?_
  refine cl_L_102 (As := []) (rest := []) hB (c_X11_thrown l g H r q zsp rm (nI n) sl sv tx (nI ln) (nI 2) zsg zbg zwd zhg zin zop zbe zwi zhi zbk zot zer zen zpo zpi zgr zsh zsn hR) hR.o rfl hl.1 (Nat.le_of_ble_eq_true rfl) dL_law_336 ⟨Nat.le_of_ble_eq_true rfl, Nat.le_of_ble_eq_true rfl⟩ ⟨by show (ce7 + 1) + 0 ≤ 622861; omega, by show (sn7 + 6) + 0 ≤ 7227521; omega⟩ hS (by have hz9 := hS.1; rintro q9 (h9 | h9) <;> first | exact h9.elim | (have h8 : r ≤ q9 ∧ q9 < r + 16 := h9; show xb ≤ q9; omega) | (have h8 : ((xb ≤ q9 ∧ q9 < xb + 68) ∨ lim ≤ q9) ∨ q9 = ob := h9; show xb ≤ q9; omega) | (have h8 : (xb ≤ q9 ∧ q9 < xb + 68) ∨ lim ≤ q9 := h9; show xb ≤ q9; omega) | (show xb ≤ q9; omega)) (fun v H1 locs hpo hfr hS => ?_)
  obtain ⟨rfl, rfl⟩ := hpo
  refine W.widen (k := ce7 + 1) (n := sn7 + 6) (by show (ce7 + 1) + 0 ≤ ce7 + 1; omega) (by show (sn7 + 6) + 0 ≤ sn7 + 6; omega) ?_
  refine lv_iload hx hb dL_law_339 (lv_at hl 1 rfl) ?_
  refine lv_icmp_eq (tgt := 346) hx hb dL_law_341 (by decide) (fun h_341 => ?_) (fun h9 => absurd rfl h9)
  refine lv_iload hx hb dL_law_346 (lv_at hl 1 rfl) ?_
  refine mn_if_ne (tgt := 363) hB dL_law_348 (by decide) (by omega) (fun h_348 => ?_) (fun h => by exfalso; omega)
  refine lv_goto (tgt := 1803) hx hb dL_law_363 (by decide) ?_
  refine W.widen (k := ce7 + 30) (n := sn7 + 1100) (by omega) (by omega) ?_
  exact kk _ _ _ ⟨hC, ⟨_, _, _, _, _, _, _, _, _, _, _, _, _, _, _, _, _, _, _, _, hR⟩, ⟨_, hO⟩, hTx⟩ hS (lv_sub hl [2, 3, 4, 5, 6] rfl)

set_option maxRecDepth 100000 in
set_option maxHeartbeats 800000 in
theorem s_member_w0 {p : Program} {l : Launch} {e : Env} {s : State} {m : MethodId} {args : Array Value} {below : List Frame} {meth : Method} {c : Code} {H : Heap} {locs : List Loc} {ce7 sn7 : Nat} {Q : State → Prop} {g : GG} {b L xb r ob lim : Nat} {xs : Nat → Int32} {i9 : Nat} {ls : Array Slot} {q : Nat → Int32} {n : Nat} {rm sl sv tx : Nat → Int32} {ln : Nat} {zsp : Nat → Int32} {zth : Int32} {zsg : Nat → Int32} {zbg : Nat → Int32} {zwd : Nat → Int32} {zhg : Nat → Int32} {zin : Nat → Int32} {zop : Int32} {zbe : Int32} {zwi : Int32} {zhi : Int32} {zbk : Nat → Int32} {zot : Nat → Int32} {zer : Int32} {zen : Int32} {zpo : Nat → Int32} {zpi : Int32} {zgr : Int32} {zsh : Nat → Int32} {zsn : Int32} {o : Nat → Int64} (hfl : l.stackTraces = false) (hE : LE p s m meth c g b L xs xb r ob lim) (hi : 4 * i9 + 3 < L) (hC : CLS g xb lim q n rm sl sv tx ln H) (hR : ModAt g r q zsp rm (nI n) sl sv tx (nI ln) zth zsg zbg zwd zhg zin zop zbe zwi zhi zbk zot zer zen zpo zpi zgr zsh zsn H) (hO : at_ g H ob (eL g 1 o)) (hTx : TxT tx ln) (hS : va_S (fun q9 => xb ≤ q9) s.heap H locs) (hl : lv_has ls 7 [(0, .ref b), (1, .ref xb), (2, .ref r), (3, .ref ob), (4, .int (nI (4 * i9)))]) (hce7 : ce7 + 30 ≤ 622861) (hsn7 : sn7 + 1100 ≤ 7227521) (k : Nat) (a1 : xs (4 * i9 + 1) = nI k) (a2 : xs (4 * i9 + 2) = nI 0) (hk : k < nmQ q) (kk : ∀ (H1 : Heap) (locs1 : List Loc) (ls1 : Array Slot), LI g xb r ob lim q n rm sl sv tx ln H1 → va_S (fun q9 => xb ≤ q9) s.heap H1 locs1 → lv_has ls1 7 [(0, .ref b), (1, .ref xb), (2, .ref r), (3, .ref ob), (4, .int (nI (4 * i9)))] → W p l e room_1 s m args below meth c H1 locs1 (ce7 + 30) (sn7 + 1100) Q (F0 m 1803 ls1 [])) : W p l e room_1 s m args below meth c H locs ce7 sn7 Q (F0 m 298 ls []) := by
  obtain ⟨hB, hZ9, hX, hbl, hL9, hxs, hr9, hob9, hlm9⟩ := hE
  have hx := hB.x
  have hb := hB.b
  have hbA : ¬ (fun q9 => xb ≤ q9) b := fun y9 => by have y8 : xb ≤ b := y9; omega
  have hW := hC.wf
  have hn14 := hC.n14
  have hl6c := hC.l60
  have hnm5 := hW.2.2.1
  refine lv_aload_n hx hb dL_law_298 rfl (lv_at hl 1 rfl) ?_
  refine lv_aload_n hx hb dL_law_299 rfl (lv_at hl 0 rfl) ?_
  refine lv_iload hx hb dL_law_300 (lv_at hl 4 rfl) ?_
  refine lv_iconst (v := nI 1) hx hb dL_law_302 (by decide) ?_
  refine mn_iadd hB dL_law_303 ?_
  refine va_sld hx hb hX hbl hbA hS (vp_in_nI (by omega) (by omega)) dL_law_304 ?_
  refine mh_top (y := .int (nI k)) (by rw [nI_clamp (by omega), a1]) ?_
  refine lv_aload_n hx hb dL_law_305 rfl (lv_at hl 0 rfl) ?_
  refine lv_iload hx hb dL_law_306 (lv_at hl 4 rfl) ?_
  refine lv_iconst (v := nI 2) hx hb dL_law_308 (by decide) ?_
  refine mn_iadd hB dL_law_309 ?_
  refine va_sld hx hb hX hbl hbA hS (vp_in_nI (by omega) (by omega)) dL_law_310 ?_
  refine mh_top (y := .int (nI 0)) (by rw [nI_clamp (by omega), a2]) ?_
  refine lv_aload_n hx hb dL_law_311 rfl (lv_at hl 3 rfl) ?_
  refine cw_116 (As := [.ref xb, .int (nI k), .int (nI 0), .ref ob]) (rest := []) hB (hZ9.at hS (fun _ h9 => h9)) (w_member_w0 l g H xb lim q n rm sl sv tx ln k ob o (hC) (hO) (hk) (⟨by omega, by omega⟩) (hfl)) rfl hl.1 (Nat.le_of_ble_eq_true rfl) dL_law_312 ⟨Nat.le_of_ble_eq_true rfl, Nat.le_of_ble_eq_true rfl⟩ ⟨by show (ce7) + 0 ≤ 622861; omega, by show (sn7) + 0 ≤ 7227521; omega⟩ hS (by have hz9 := hS.1; rintro q9 (h9 | h9) <;> first | exact h9.elim | (have h8 : r ≤ q9 ∧ q9 < r + 16 := h9; show xb ≤ q9; omega) | (have h8 : ((xb ≤ q9 ∧ q9 < xb + 68) ∨ lim ≤ q9) ∨ q9 = ob := h9; show xb ≤ q9; omega) | (have h8 : (xb ≤ q9 ∧ q9 < xb + 68) ∨ lim ≤ q9 := h9; show xb ≤ q9; omega) | (show xb ≤ q9; omega)) (fun v H1 locs hpo hfr hS => ?_)
  obtain ⟨rfl, hC, hO⟩ := hpo
  have hR := hR.keptF hfr (fun q9 h1 h2 y9 => by first | exact y9.elim | (have y8 : ((xb ≤ q9 ∧ q9 < xb + 68) ∨ lim ≤ q9) ∨ q9 = ob := y9; omega) | (have y8 : (xb ≤ q9 ∧ q9 < xb + 68) ∨ lim ≤ q9 := y9; omega))
  generalize H1 = H at hfr hS hR hX hC hO ⊢
  refine W.widen (k := ce7) (n := sn7) (by show (ce7) + 0 ≤ ce7; omega) (by show (sn7) + 0 ≤ sn7; omega) ?_
  refine lv_istore (lv' := [(5, .int (nI 0)), (0, .ref b), (1, .ref xb), (2, .ref r), (3, .ref ob), (4, .int (nI (4 * i9)))]) hx hb dL_law_315 hl (by decide) rfl (fun ls hl => ?_)
  refine lv_aload_n hx hb dL_law_317 rfl (lv_at hl 3 rfl) ?_
  refine lv_aload_n hx hb dL_law_318 rfl (lv_at hl 1 rfl) ?_
  refine lv_iload hx hb dL_law_319 (lv_at hl 5 rfl) ?_
  refine lv_iconst (v := nI 1) hx hb dL_law_321 (by decide) ?_
  refine mn_iadd hB dL_law_322 ?_
  refine va_sld hx hb hX hbl hbA hS (vp_in_nI (by omega) (by omega)) dL_law_323 ?_
  refine mh_top (y := .int (nI k)) (by rw [nI_clamp (by omega), a1]) ?_
  refine lv_aload_n hx hb dL_law_324 rfl (lv_at hl 1 rfl) ?_
  refine lv_iload hx hb dL_law_325 (lv_at hl 5 rfl) ?_
  refine lv_iconst (v := nI 2) hx hb dL_law_327 (by decide) ?_
  refine mn_iadd hB dL_law_328 ?_
  refine va_sld hx hb hX hbl hbA hS (vp_in_nI (by omega) (by omega)) dL_law_329 ?_
  refine mh_top (y := .int (nI 0)) (by rw [nI_clamp (by omega), a2]) ?_
  refine cl_L_119 (As := [.int (nI k), .int (nI 0)]) (rest := []) hB (c_X11_member l g H r q zsp rm (nI n) sl sv tx (nI ln) zth zsg zbg zwd zhg zin zop zbe zwi zhi zbk zot zer zen zpo zpi zgr zsh zsn k 0 hR (hk) (by omega) (by first | assumption | omega)) hR.o rfl hl.1 (Nat.le_of_ble_eq_true rfl) dL_law_330 ⟨Nat.le_of_ble_eq_true rfl, Nat.le_of_ble_eq_true rfl⟩ ⟨by show (ce7) + 0 ≤ 622861; omega, by show (sn7) + 0 ≤ 7227521; omega⟩ hS (by have hz9 := hS.1; rintro q9 (h9 | h9) <;> first | exact h9.elim | (have h8 : r ≤ q9 ∧ q9 < r + 16 := h9; show xb ≤ q9; omega) | (have h8 : ((xb ≤ q9 ∧ q9 < xb + 68) ∨ lim ≤ q9) ∨ q9 = ob := h9; show xb ≤ q9; omega) | (have h8 : (xb ≤ q9 ∧ q9 < xb + 68) ∨ lim ≤ q9 := h9; show xb ≤ q9; omega) | (show xb ≤ q9; omega)) (fun v H1 locs hpo hfr hS => ?_)
  obtain ⟨rfl, hR⟩ := hpo
  have hC := hC.keptM hfr (fun a9 y9 => by first | exact y9.elim | (have y8 : r ≤ a9 ∧ a9 < r + 16 := y9; omega))
  have hO := Fr.keep hfr hO (fun y9 => by first | exact y9.elim | (have y8 : r ≤ ob ∧ ob < r + 16 := y9; omega) | (have y8 : (xb ≤ ob ∧ ob < xb + 68) ∨ lim ≤ ob := y9; omega))
  generalize H1 = H at hfr hS hX hC hO hR ⊢
  refine W.widen (k := ce7) (n := sn7) (by show (ce7) + 0 ≤ ce7; omega) (by show (sn7) + 0 ≤ sn7; omega) ?_
  refine lv_istore (lv' := [(6, .int (meV q k 0)), (5, .int (nI 0)), (0, .ref b), (1, .ref xb), (2, .ref r), (3, .ref ob), (4, .int (nI (4 * i9)))]) hx hb dL_law_333 hl (by decide) rfl (fun ls hl => ?_)
  refine lv_aload_n hx hb dL_law_335 rfl (lv_at hl 4 rfl) ?_
  refine cl_L_102 (As := []) (rest := []) hB (c_X11_thrown l g H r q zsp rm (nI n) sl sv tx (nI ln) (nI 0) zsg zbg zwd zhg zin zop zbe zwi zhi zbk zot zer zen zpo zpi zgr zsh zsn hR) hR.o rfl hl.1 (Nat.le_of_ble_eq_true rfl) dL_law_336 ⟨Nat.le_of_ble_eq_true rfl, Nat.le_of_ble_eq_true rfl⟩ ⟨by show (ce7) + 0 ≤ 622861; omega, by show (sn7) + 0 ≤ 7227521; omega⟩ hS (by have hz9 := hS.1; rintro q9 (h9 | h9) <;> first | exact h9.elim | (have h8 : r ≤ q9 ∧ q9 < r + 16 := h9; show xb ≤ q9; omega) | (have h8 : ((xb ≤ q9 ∧ q9 < xb + 68) ∨ lim ≤ q9) ∨ q9 = ob := h9; show xb ≤ q9; omega) | (have h8 : (xb ≤ q9 ∧ q9 < xb + 68) ∨ lim ≤ q9 := h9; show xb ≤ q9; omega) | (show xb ≤ q9; omega)) (fun v H1 locs hpo hfr hS => ?_)
  obtain ⟨rfl, rfl⟩ := hpo
  refine W.widen (k := ce7) (n := sn7) (by show (ce7) + 0 ≤ ce7; omega) (by show (sn7) + 0 ≤ sn7; omega) ?_
  refine lv_iload hx hb dL_law_339 (lv_at hl 1 rfl) ?_
  refine lv_icmp_eq (tgt := 346) hx hb dL_law_341 (by decide) (fun h_341 => ?_) (fun h9 => absurd rfl h9)
  refine lv_iload hx hb dL_law_346 (lv_at hl 1 rfl) ?_
  refine mn_if_ne (tgt := 363) hB dL_law_348 (by decide) (by omega) (fun h => by exfalso; omega) (fun h_348 => ?_)
  refine lv_aload_n hx hb dL_law_351 rfl (lv_at hl 5 rfl) ?_
  refine lv_iconst (v := nI 0) hx hb dL_law_352 (by decide) ?_
  refine mn_lald hB hO (by omega) (by omega) dL_law_353 ?_
  refine mh_top (y := .long ((meV q k 0).toInt64)) (rfl) ?_
  refine lv_iload hx hb dL_law_354 (lv_at hl 0 rfl) ?_
  refine lv_i2l (v := (meV q k 0).toInt64) hx hb dL_law_356 rfl ?_
  refine W.lcmp hx hb dL_law_357 ?_
  refine ml_if_eq (tgt := 363) hB dL_law_358 (by decide) (fun h_358 => ?_) (fun h => absurd rfl h)
  refine lv_goto (tgt := 1803) hx hb dL_law_363 (by decide) ?_
  refine W.widen (k := ce7 + 30) (n := sn7 + 1100) (by omega) (by omega) ?_
  exact kk _ _ _ ⟨hC, ⟨_, _, _, _, _, _, _, _, _, _, _, _, _, _, _, _, _, _, _, _, hR⟩, ⟨_, hO⟩, hTx⟩ hS (lv_sub hl [2, 3, 4, 5, 6] rfl)

set_option maxRecDepth 100000 in
set_option maxHeartbeats 800000 in
theorem s_member_w1 {p : Program} {l : Launch} {e : Env} {s : State} {m : MethodId} {args : Array Value} {below : List Frame} {meth : Method} {c : Code} {H : Heap} {locs : List Loc} {ce7 sn7 : Nat} {Q : State → Prop} {g : GG} {b L xb r ob lim : Nat} {xs : Nat → Int32} {i9 : Nat} {ls : Array Slot} {q : Nat → Int32} {n : Nat} {rm sl sv tx : Nat → Int32} {ln : Nat} {zsp : Nat → Int32} {zth : Int32} {zsg : Nat → Int32} {zbg : Nat → Int32} {zwd : Nat → Int32} {zhg : Nat → Int32} {zin : Nat → Int32} {zop : Int32} {zbe : Int32} {zwi : Int32} {zhi : Int32} {zbk : Nat → Int32} {zot : Nat → Int32} {zer : Int32} {zen : Int32} {zpo : Nat → Int32} {zpi : Int32} {zgr : Int32} {zsh : Nat → Int32} {zsn : Int32} {o : Nat → Int64} (hfl : l.stackTraces = false) (hE : LE p s m meth c g b L xs xb r ob lim) (hi : 4 * i9 + 3 < L) (hC : CLS g xb lim q n rm sl sv tx ln H) (hR : ModAt g r q zsp rm (nI n) sl sv tx (nI ln) zth zsg zbg zwd zhg zin zop zbe zwi zhi zbk zot zer zen zpo zpi zgr zsh zsn H) (hO : at_ g H ob (eL g 1 o)) (hTx : TxT tx ln) (hS : va_S (fun q9 => xb ≤ q9) s.heap H locs) (hl : lv_has ls 7 [(0, .ref b), (1, .ref xb), (2, .ref r), (3, .ref ob), (4, .int (nI (4 * i9)))]) (hce7 : ce7 + 30 ≤ 622861) (hsn7 : sn7 + 1100 ≤ 7227521) (k : Nat) (a1 : xs (4 * i9 + 1) = nI k) (a2 : xs (4 * i9 + 2) = nI 1) (hk : k < nmQ q) (kk : ∀ (H1 : Heap) (locs1 : List Loc) (ls1 : Array Slot), LI g xb r ob lim q n rm sl sv tx ln H1 → va_S (fun q9 => xb ≤ q9) s.heap H1 locs1 → lv_has ls1 7 [(0, .ref b), (1, .ref xb), (2, .ref r), (3, .ref ob), (4, .int (nI (4 * i9)))] → W p l e room_1 s m args below meth c H1 locs1 (ce7 + 30) (sn7 + 1100) Q (F0 m 1803 ls1 [])) : W p l e room_1 s m args below meth c H locs ce7 sn7 Q (F0 m 298 ls []) := by
  obtain ⟨hB, hZ9, hX, hbl, hL9, hxs, hr9, hob9, hlm9⟩ := hE
  have hx := hB.x
  have hb := hB.b
  have hbA : ¬ (fun q9 => xb ≤ q9) b := fun y9 => by have y8 : xb ≤ b := y9; omega
  have hW := hC.wf
  have hn14 := hC.n14
  have hl6c := hC.l60
  have hnm5 := hW.2.2.1
  refine lv_aload_n hx hb dL_law_298 rfl (lv_at hl 1 rfl) ?_
  refine lv_aload_n hx hb dL_law_299 rfl (lv_at hl 0 rfl) ?_
  refine lv_iload hx hb dL_law_300 (lv_at hl 4 rfl) ?_
  refine lv_iconst (v := nI 1) hx hb dL_law_302 (by decide) ?_
  refine mn_iadd hB dL_law_303 ?_
  refine va_sld hx hb hX hbl hbA hS (vp_in_nI (by omega) (by omega)) dL_law_304 ?_
  refine mh_top (y := .int (nI k)) (by rw [nI_clamp (by omega), a1]) ?_
  refine lv_aload_n hx hb dL_law_305 rfl (lv_at hl 0 rfl) ?_
  refine lv_iload hx hb dL_law_306 (lv_at hl 4 rfl) ?_
  refine lv_iconst (v := nI 2) hx hb dL_law_308 (by decide) ?_
  refine mn_iadd hB dL_law_309 ?_
  refine va_sld hx hb hX hbl hbA hS (vp_in_nI (by omega) (by omega)) dL_law_310 ?_
  refine mh_top (y := .int (nI 1)) (by rw [nI_clamp (by omega), a2]) ?_
  refine lv_aload_n hx hb dL_law_311 rfl (lv_at hl 3 rfl) ?_
  refine cw_116 (As := [.ref xb, .int (nI k), .int (nI 1), .ref ob]) (rest := []) hB (hZ9.at hS (fun _ h9 => h9)) (w_member_w1 l g H xb lim q n rm sl sv tx ln k ob o (hC) (hO) (hk) (⟨by omega, by omega⟩) (hfl)) rfl hl.1 (Nat.le_of_ble_eq_true rfl) dL_law_312 ⟨Nat.le_of_ble_eq_true rfl, Nat.le_of_ble_eq_true rfl⟩ ⟨by show (ce7) + 0 ≤ 622861; omega, by show (sn7) + 0 ≤ 7227521; omega⟩ hS (by have hz9 := hS.1; rintro q9 (h9 | h9) <;> first | exact h9.elim | (have h8 : r ≤ q9 ∧ q9 < r + 16 := h9; show xb ≤ q9; omega) | (have h8 : ((xb ≤ q9 ∧ q9 < xb + 68) ∨ lim ≤ q9) ∨ q9 = ob := h9; show xb ≤ q9; omega) | (have h8 : (xb ≤ q9 ∧ q9 < xb + 68) ∨ lim ≤ q9 := h9; show xb ≤ q9; omega) | (show xb ≤ q9; omega)) (fun v H1 locs hpo hfr hS => ?_)
  obtain ⟨rfl, hC, hO⟩ := hpo
  have hR := hR.keptF hfr (fun q9 h1 h2 y9 => by first | exact y9.elim | (have y8 : ((xb ≤ q9 ∧ q9 < xb + 68) ∨ lim ≤ q9) ∨ q9 = ob := y9; omega) | (have y8 : (xb ≤ q9 ∧ q9 < xb + 68) ∨ lim ≤ q9 := y9; omega))
  generalize H1 = H at hfr hS hR hX hC hO ⊢
  refine W.widen (k := ce7) (n := sn7) (by show (ce7) + 0 ≤ ce7; omega) (by show (sn7) + 0 ≤ sn7; omega) ?_
  refine lv_istore (lv' := [(5, .int (nI 0)), (0, .ref b), (1, .ref xb), (2, .ref r), (3, .ref ob), (4, .int (nI (4 * i9)))]) hx hb dL_law_315 hl (by decide) rfl (fun ls hl => ?_)
  refine lv_aload_n hx hb dL_law_317 rfl (lv_at hl 3 rfl) ?_
  refine lv_aload_n hx hb dL_law_318 rfl (lv_at hl 1 rfl) ?_
  refine lv_iload hx hb dL_law_319 (lv_at hl 5 rfl) ?_
  refine lv_iconst (v := nI 1) hx hb dL_law_321 (by decide) ?_
  refine mn_iadd hB dL_law_322 ?_
  refine va_sld hx hb hX hbl hbA hS (vp_in_nI (by omega) (by omega)) dL_law_323 ?_
  refine mh_top (y := .int (nI k)) (by rw [nI_clamp (by omega), a1]) ?_
  refine lv_aload_n hx hb dL_law_324 rfl (lv_at hl 1 rfl) ?_
  refine lv_iload hx hb dL_law_325 (lv_at hl 5 rfl) ?_
  refine lv_iconst (v := nI 2) hx hb dL_law_327 (by decide) ?_
  refine mn_iadd hB dL_law_328 ?_
  refine va_sld hx hb hX hbl hbA hS (vp_in_nI (by omega) (by omega)) dL_law_329 ?_
  refine mh_top (y := .int (nI 1)) (by rw [nI_clamp (by omega), a2]) ?_
  refine cl_L_119 (As := [.int (nI k), .int (nI 1)]) (rest := []) hB (c_X11_member l g H r q zsp rm (nI n) sl sv tx (nI ln) zth zsg zbg zwd zhg zin zop zbe zwi zhi zbk zot zer zen zpo zpi zgr zsh zsn k 1 hR (hk) (by omega) (by first | assumption | omega)) hR.o rfl hl.1 (Nat.le_of_ble_eq_true rfl) dL_law_330 ⟨Nat.le_of_ble_eq_true rfl, Nat.le_of_ble_eq_true rfl⟩ ⟨by show (ce7) + 0 ≤ 622861; omega, by show (sn7) + 0 ≤ 7227521; omega⟩ hS (by have hz9 := hS.1; rintro q9 (h9 | h9) <;> first | exact h9.elim | (have h8 : r ≤ q9 ∧ q9 < r + 16 := h9; show xb ≤ q9; omega) | (have h8 : ((xb ≤ q9 ∧ q9 < xb + 68) ∨ lim ≤ q9) ∨ q9 = ob := h9; show xb ≤ q9; omega) | (have h8 : (xb ≤ q9 ∧ q9 < xb + 68) ∨ lim ≤ q9 := h9; show xb ≤ q9; omega) | (show xb ≤ q9; omega)) (fun v H1 locs hpo hfr hS => ?_)
  obtain ⟨rfl, hR⟩ := hpo
  have hC := hC.keptM hfr (fun a9 y9 => by first | exact y9.elim | (have y8 : r ≤ a9 ∧ a9 < r + 16 := y9; omega))
  have hO := Fr.keep hfr hO (fun y9 => by first | exact y9.elim | (have y8 : r ≤ ob ∧ ob < r + 16 := y9; omega) | (have y8 : (xb ≤ ob ∧ ob < xb + 68) ∨ lim ≤ ob := y9; omega))
  generalize H1 = H at hfr hS hX hC hO hR ⊢
  refine W.widen (k := ce7) (n := sn7) (by show (ce7) + 0 ≤ ce7; omega) (by show (sn7) + 0 ≤ sn7; omega) ?_
  refine lv_istore (lv' := [(6, .int (meV q k 1)), (5, .int (nI 0)), (0, .ref b), (1, .ref xb), (2, .ref r), (3, .ref ob), (4, .int (nI (4 * i9)))]) hx hb dL_law_333 hl (by decide) rfl (fun ls hl => ?_)
  refine lv_aload_n hx hb dL_law_335 rfl (lv_at hl 4 rfl) ?_
  refine cl_L_102 (As := []) (rest := []) hB (c_X11_thrown l g H r q zsp rm (nI n) sl sv tx (nI ln) (nI 0) zsg zbg zwd zhg zin zop zbe zwi zhi zbk zot zer zen zpo zpi zgr zsh zsn hR) hR.o rfl hl.1 (Nat.le_of_ble_eq_true rfl) dL_law_336 ⟨Nat.le_of_ble_eq_true rfl, Nat.le_of_ble_eq_true rfl⟩ ⟨by show (ce7) + 0 ≤ 622861; omega, by show (sn7) + 0 ≤ 7227521; omega⟩ hS (by have hz9 := hS.1; rintro q9 (h9 | h9) <;> first | exact h9.elim | (have h8 : r ≤ q9 ∧ q9 < r + 16 := h9; show xb ≤ q9; omega) | (have h8 : ((xb ≤ q9 ∧ q9 < xb + 68) ∨ lim ≤ q9) ∨ q9 = ob := h9; show xb ≤ q9; omega) | (have h8 : (xb ≤ q9 ∧ q9 < xb + 68) ∨ lim ≤ q9 := h9; show xb ≤ q9; omega) | (show xb ≤ q9; omega)) (fun v H1 locs hpo hfr hS => ?_)
  obtain ⟨rfl, rfl⟩ := hpo
  refine W.widen (k := ce7) (n := sn7) (by show (ce7) + 0 ≤ ce7; omega) (by show (sn7) + 0 ≤ sn7; omega) ?_
  refine lv_iload hx hb dL_law_339 (lv_at hl 1 rfl) ?_
  refine lv_icmp_eq (tgt := 346) hx hb dL_law_341 (by decide) (fun h_341 => ?_) (fun h9 => absurd rfl h9)
  refine lv_iload hx hb dL_law_346 (lv_at hl 1 rfl) ?_
  refine mn_if_ne (tgt := 363) hB dL_law_348 (by decide) (by omega) (fun h => by exfalso; omega) (fun h_348 => ?_)
  refine lv_aload_n hx hb dL_law_351 rfl (lv_at hl 5 rfl) ?_
  refine lv_iconst (v := nI 0) hx hb dL_law_352 (by decide) ?_
  refine mn_lald hB hO (by omega) (by omega) dL_law_353 ?_
  refine mh_top (y := .long ((meV q k 1).toInt64)) (rfl) ?_
  refine lv_iload hx hb dL_law_354 (lv_at hl 0 rfl) ?_
  refine lv_i2l (v := (meV q k 1).toInt64) hx hb dL_law_356 rfl ?_
  refine W.lcmp hx hb dL_law_357 ?_
  refine ml_if_eq (tgt := 363) hB dL_law_358 (by decide) (fun h_358 => ?_) (fun h => absurd rfl h)
  refine lv_goto (tgt := 1803) hx hb dL_law_363 (by decide) ?_
  refine W.widen (k := ce7 + 30) (n := sn7 + 1100) (by omega) (by omega) ?_
  exact kk _ _ _ ⟨hC, ⟨_, _, _, _, _, _, _, _, _, _, _, _, _, _, _, _, _, _, _, _, hR⟩, ⟨_, hO⟩, hTx⟩ hS (lv_sub hl [2, 3, 4, 5, 6] rfl)

set_option maxRecDepth 100000 in
set_option maxHeartbeats 800000 in
theorem s_member_w2 {p : Program} {l : Launch} {e : Env} {s : State} {m : MethodId} {args : Array Value} {below : List Frame} {meth : Method} {c : Code} {H : Heap} {locs : List Loc} {ce7 sn7 : Nat} {Q : State → Prop} {g : GG} {b L xb r ob lim : Nat} {xs : Nat → Int32} {i9 : Nat} {ls : Array Slot} {q : Nat → Int32} {n : Nat} {rm sl sv tx : Nat → Int32} {ln : Nat} {zsp : Nat → Int32} {zth : Int32} {zsg : Nat → Int32} {zbg : Nat → Int32} {zwd : Nat → Int32} {zhg : Nat → Int32} {zin : Nat → Int32} {zop : Int32} {zbe : Int32} {zwi : Int32} {zhi : Int32} {zbk : Nat → Int32} {zot : Nat → Int32} {zer : Int32} {zen : Int32} {zpo : Nat → Int32} {zpi : Int32} {zgr : Int32} {zsh : Nat → Int32} {zsn : Int32} {o : Nat → Int64} (hfl : l.stackTraces = false) (hE : LE p s m meth c g b L xs xb r ob lim) (hi : 4 * i9 + 3 < L) (hC : CLS g xb lim q n rm sl sv tx ln H) (hR : ModAt g r q zsp rm (nI n) sl sv tx (nI ln) zth zsg zbg zwd zhg zin zop zbe zwi zhi zbk zot zer zen zpo zpi zgr zsh zsn H) (hO : at_ g H ob (eL g 1 o)) (hTx : TxT tx ln) (hS : va_S (fun q9 => xb ≤ q9) s.heap H locs) (hl : lv_has ls 7 [(0, .ref b), (1, .ref xb), (2, .ref r), (3, .ref ob), (4, .int (nI (4 * i9)))]) (hce7 : ce7 + 30 ≤ 622861) (hsn7 : sn7 + 1100 ≤ 7227521) (k : Nat) (a1 : xs (4 * i9 + 1) = nI k) (a2 : xs (4 * i9 + 2) = nI 2) (hk : k < nmQ q) (kk : ∀ (H1 : Heap) (locs1 : List Loc) (ls1 : Array Slot), LI g xb r ob lim q n rm sl sv tx ln H1 → va_S (fun q9 => xb ≤ q9) s.heap H1 locs1 → lv_has ls1 7 [(0, .ref b), (1, .ref xb), (2, .ref r), (3, .ref ob), (4, .int (nI (4 * i9)))] → W p l e room_1 s m args below meth c H1 locs1 (ce7 + 30) (sn7 + 1100) Q (F0 m 1803 ls1 [])) : W p l e room_1 s m args below meth c H locs ce7 sn7 Q (F0 m 298 ls []) := by
  obtain ⟨hB, hZ9, hX, hbl, hL9, hxs, hr9, hob9, hlm9⟩ := hE
  have hx := hB.x
  have hb := hB.b
  have hbA : ¬ (fun q9 => xb ≤ q9) b := fun y9 => by have y8 : xb ≤ b := y9; omega
  have hW := hC.wf
  have hn14 := hC.n14
  have hl6c := hC.l60
  have hnm5 := hW.2.2.1
  refine lv_aload_n hx hb dL_law_298 rfl (lv_at hl 1 rfl) ?_
  refine lv_aload_n hx hb dL_law_299 rfl (lv_at hl 0 rfl) ?_
  refine lv_iload hx hb dL_law_300 (lv_at hl 4 rfl) ?_
  refine lv_iconst (v := nI 1) hx hb dL_law_302 (by decide) ?_
  refine mn_iadd hB dL_law_303 ?_
  refine va_sld hx hb hX hbl hbA hS (vp_in_nI (by omega) (by omega)) dL_law_304 ?_
  refine mh_top (y := .int (nI k)) (by rw [nI_clamp (by omega), a1]) ?_
  refine lv_aload_n hx hb dL_law_305 rfl (lv_at hl 0 rfl) ?_
  refine lv_iload hx hb dL_law_306 (lv_at hl 4 rfl) ?_
  refine lv_iconst (v := nI 2) hx hb dL_law_308 (by decide) ?_
  refine mn_iadd hB dL_law_309 ?_
  refine va_sld hx hb hX hbl hbA hS (vp_in_nI (by omega) (by omega)) dL_law_310 ?_
  refine mh_top (y := .int (nI 2)) (by rw [nI_clamp (by omega), a2]) ?_
  refine lv_aload_n hx hb dL_law_311 rfl (lv_at hl 3 rfl) ?_
  refine cw_116 (As := [.ref xb, .int (nI k), .int (nI 2), .ref ob]) (rest := []) hB (hZ9.at hS (fun _ h9 => h9)) (w_member_w2 l g H xb lim q n rm sl sv tx ln k ob o (hC) (hO) (hk) (⟨by omega, by omega⟩) (hfl)) rfl hl.1 (Nat.le_of_ble_eq_true rfl) dL_law_312 ⟨Nat.le_of_ble_eq_true rfl, Nat.le_of_ble_eq_true rfl⟩ ⟨by show (ce7) + 0 ≤ 622861; omega, by show (sn7) + 0 ≤ 7227521; omega⟩ hS (by have hz9 := hS.1; rintro q9 (h9 | h9) <;> first | exact h9.elim | (have h8 : r ≤ q9 ∧ q9 < r + 16 := h9; show xb ≤ q9; omega) | (have h8 : ((xb ≤ q9 ∧ q9 < xb + 68) ∨ lim ≤ q9) ∨ q9 = ob := h9; show xb ≤ q9; omega) | (have h8 : (xb ≤ q9 ∧ q9 < xb + 68) ∨ lim ≤ q9 := h9; show xb ≤ q9; omega) | (show xb ≤ q9; omega)) (fun v H1 locs hpo hfr hS => ?_)
  obtain ⟨rfl, hC, hO⟩ := hpo
  have hR := hR.keptF hfr (fun q9 h1 h2 y9 => by first | exact y9.elim | (have y8 : ((xb ≤ q9 ∧ q9 < xb + 68) ∨ lim ≤ q9) ∨ q9 = ob := y9; omega) | (have y8 : (xb ≤ q9 ∧ q9 < xb + 68) ∨ lim ≤ q9 := y9; omega))
  generalize H1 = H at hfr hS hR hX hC hO ⊢
  refine W.widen (k := ce7) (n := sn7) (by show (ce7) + 0 ≤ ce7; omega) (by show (sn7) + 0 ≤ sn7; omega) ?_
  refine lv_istore (lv' := [(5, .int (nI 0)), (0, .ref b), (1, .ref xb), (2, .ref r), (3, .ref ob), (4, .int (nI (4 * i9)))]) hx hb dL_law_315 hl (by decide) rfl (fun ls hl => ?_)
  refine lv_aload_n hx hb dL_law_317 rfl (lv_at hl 3 rfl) ?_
  refine lv_aload_n hx hb dL_law_318 rfl (lv_at hl 1 rfl) ?_
  refine lv_iload hx hb dL_law_319 (lv_at hl 5 rfl) ?_
  refine lv_iconst (v := nI 1) hx hb dL_law_321 (by decide) ?_
  refine mn_iadd hB dL_law_322 ?_
  refine va_sld hx hb hX hbl hbA hS (vp_in_nI (by omega) (by omega)) dL_law_323 ?_
  refine mh_top (y := .int (nI k)) (by rw [nI_clamp (by omega), a1]) ?_
  refine lv_aload_n hx hb dL_law_324 rfl (lv_at hl 1 rfl) ?_
  refine lv_iload hx hb dL_law_325 (lv_at hl 5 rfl) ?_
  refine lv_iconst (v := nI 2) hx hb dL_law_327 (by decide) ?_
  refine mn_iadd hB dL_law_328 ?_
  refine va_sld hx hb hX hbl hbA hS (vp_in_nI (by omega) (by omega)) dL_law_329 ?_
  refine mh_top (y := .int (nI 2)) (by rw [nI_clamp (by omega), a2]) ?_
  refine cl_L_119 (As := [.int (nI k), .int (nI 2)]) (rest := []) hB (c_X11_member l g H r q zsp rm (nI n) sl sv tx (nI ln) zth zsg zbg zwd zhg zin zop zbe zwi zhi zbk zot zer zen zpo zpi zgr zsh zsn k 2 hR (hk) (by omega) (by first | assumption | omega)) hR.o rfl hl.1 (Nat.le_of_ble_eq_true rfl) dL_law_330 ⟨Nat.le_of_ble_eq_true rfl, Nat.le_of_ble_eq_true rfl⟩ ⟨by show (ce7) + 0 ≤ 622861; omega, by show (sn7) + 0 ≤ 7227521; omega⟩ hS (by have hz9 := hS.1; rintro q9 (h9 | h9) <;> first | exact h9.elim | (have h8 : r ≤ q9 ∧ q9 < r + 16 := h9; show xb ≤ q9; omega) | (have h8 : ((xb ≤ q9 ∧ q9 < xb + 68) ∨ lim ≤ q9) ∨ q9 = ob := h9; show xb ≤ q9; omega) | (have h8 : (xb ≤ q9 ∧ q9 < xb + 68) ∨ lim ≤ q9 := h9; show xb ≤ q9; omega) | (show xb ≤ q9; omega)) (fun v H1 locs hpo hfr hS => ?_)
  obtain ⟨rfl, hR⟩ := hpo
  have hC := hC.keptM hfr (fun a9 y9 => by first | exact y9.elim | (have y8 : r ≤ a9 ∧ a9 < r + 16 := y9; omega))
  have hO := Fr.keep hfr hO (fun y9 => by first | exact y9.elim | (have y8 : r ≤ ob ∧ ob < r + 16 := y9; omega) | (have y8 : (xb ≤ ob ∧ ob < xb + 68) ∨ lim ≤ ob := y9; omega))
  generalize H1 = H at hfr hS hX hC hO hR ⊢
  refine W.widen (k := ce7) (n := sn7) (by show (ce7) + 0 ≤ ce7; omega) (by show (sn7) + 0 ≤ sn7; omega) ?_
  refine lv_istore (lv' := [(6, .int (meV q k 2)), (5, .int (nI 0)), (0, .ref b), (1, .ref xb), (2, .ref r), (3, .ref ob), (4, .int (nI (4 * i9)))]) hx hb dL_law_333 hl (by decide) rfl (fun ls hl => ?_)
  refine lv_aload_n hx hb dL_law_335 rfl (lv_at hl 4 rfl) ?_
  refine cl_L_102 (As := []) (rest := []) hB (c_X11_thrown l g H r q zsp rm (nI n) sl sv tx (nI ln) (nI 0) zsg zbg zwd zhg zin zop zbe zwi zhi zbk zot zer zen zpo zpi zgr zsh zsn hR) hR.o rfl hl.1 (Nat.le_of_ble_eq_true rfl) dL_law_336 ⟨Nat.le_of_ble_eq_true rfl, Nat.le_of_ble_eq_true rfl⟩ ⟨by show (ce7) + 0 ≤ 622861; omega, by show (sn7) + 0 ≤ 7227521; omega⟩ hS (by have hz9 := hS.1; rintro q9 (h9 | h9) <;> first | exact h9.elim | (have h8 : r ≤ q9 ∧ q9 < r + 16 := h9; show xb ≤ q9; omega) | (have h8 : ((xb ≤ q9 ∧ q9 < xb + 68) ∨ lim ≤ q9) ∨ q9 = ob := h9; show xb ≤ q9; omega) | (have h8 : (xb ≤ q9 ∧ q9 < xb + 68) ∨ lim ≤ q9 := h9; show xb ≤ q9; omega) | (show xb ≤ q9; omega)) (fun v H1 locs hpo hfr hS => ?_)
  obtain ⟨rfl, rfl⟩ := hpo
  refine W.widen (k := ce7) (n := sn7) (by show (ce7) + 0 ≤ ce7; omega) (by show (sn7) + 0 ≤ sn7; omega) ?_
  refine lv_iload hx hb dL_law_339 (lv_at hl 1 rfl) ?_
  refine lv_icmp_eq (tgt := 346) hx hb dL_law_341 (by decide) (fun h_341 => ?_) (fun h9 => absurd rfl h9)
  refine lv_iload hx hb dL_law_346 (lv_at hl 1 rfl) ?_
  refine mn_if_ne (tgt := 363) hB dL_law_348 (by decide) (by omega) (fun h => by exfalso; omega) (fun h_348 => ?_)
  refine lv_aload_n hx hb dL_law_351 rfl (lv_at hl 5 rfl) ?_
  refine lv_iconst (v := nI 0) hx hb dL_law_352 (by decide) ?_
  refine mn_lald hB hO (by omega) (by omega) dL_law_353 ?_
  refine mh_top (y := .long ((meV q k 2).toInt64)) (rfl) ?_
  refine lv_iload hx hb dL_law_354 (lv_at hl 0 rfl) ?_
  refine lv_i2l (v := (meV q k 2).toInt64) hx hb dL_law_356 rfl ?_
  refine W.lcmp hx hb dL_law_357 ?_
  refine ml_if_eq (tgt := 363) hB dL_law_358 (by decide) (fun h_358 => ?_) (fun h => absurd rfl h)
  refine lv_goto (tgt := 1803) hx hb dL_law_363 (by decide) ?_
  refine W.widen (k := ce7 + 30) (n := sn7 + 1100) (by omega) (by omega) ?_
  exact kk _ _ _ ⟨hC, ⟨_, _, _, _, _, _, _, _, _, _, _, _, _, _, _, _, _, _, _, _, hR⟩, ⟨_, hO⟩, hTx⟩ hS (lv_sub hl [2, 3, 4, 5, 6] rfl)

set_option maxRecDepth 100000 in
set_option maxHeartbeats 800000 in
theorem s_member_w3 {p : Program} {l : Launch} {e : Env} {s : State} {m : MethodId} {args : Array Value} {below : List Frame} {meth : Method} {c : Code} {H : Heap} {locs : List Loc} {ce7 sn7 : Nat} {Q : State → Prop} {g : GG} {b L xb r ob lim : Nat} {xs : Nat → Int32} {i9 : Nat} {ls : Array Slot} {q : Nat → Int32} {n : Nat} {rm sl sv tx : Nat → Int32} {ln : Nat} {zsp : Nat → Int32} {zth : Int32} {zsg : Nat → Int32} {zbg : Nat → Int32} {zwd : Nat → Int32} {zhg : Nat → Int32} {zin : Nat → Int32} {zop : Int32} {zbe : Int32} {zwi : Int32} {zhi : Int32} {zbk : Nat → Int32} {zot : Nat → Int32} {zer : Int32} {zen : Int32} {zpo : Nat → Int32} {zpi : Int32} {zgr : Int32} {zsh : Nat → Int32} {zsn : Int32} {o : Nat → Int64} (hfl : l.stackTraces = false) (hE : LE p s m meth c g b L xs xb r ob lim) (hi : 4 * i9 + 3 < L) (hC : CLS g xb lim q n rm sl sv tx ln H) (hR : ModAt g r q zsp rm (nI n) sl sv tx (nI ln) zth zsg zbg zwd zhg zin zop zbe zwi zhi zbk zot zer zen zpo zpi zgr zsh zsn H) (hO : at_ g H ob (eL g 1 o)) (hTx : TxT tx ln) (hS : va_S (fun q9 => xb ≤ q9) s.heap H locs) (hl : lv_has ls 7 [(0, .ref b), (1, .ref xb), (2, .ref r), (3, .ref ob), (4, .int (nI (4 * i9)))]) (hce7 : ce7 + 30 ≤ 622861) (hsn7 : sn7 + 1100 ≤ 7227521) (k : Nat) (a1 : xs (4 * i9 + 1) = nI k) (a2 : xs (4 * i9 + 2) = nI 3) (hk : k < nmQ q) (kk : ∀ (H1 : Heap) (locs1 : List Loc) (ls1 : Array Slot), LI g xb r ob lim q n rm sl sv tx ln H1 → va_S (fun q9 => xb ≤ q9) s.heap H1 locs1 → lv_has ls1 7 [(0, .ref b), (1, .ref xb), (2, .ref r), (3, .ref ob), (4, .int (nI (4 * i9)))] → W p l e room_1 s m args below meth c H1 locs1 (ce7 + 30) (sn7 + 1100) Q (F0 m 1803 ls1 [])) : W p l e room_1 s m args below meth c H locs ce7 sn7 Q (F0 m 298 ls []) := by
  obtain ⟨hB, hZ9, hX, hbl, hL9, hxs, hr9, hob9, hlm9⟩ := hE
  have hx := hB.x
  have hb := hB.b
  have hbA : ¬ (fun q9 => xb ≤ q9) b := fun y9 => by have y8 : xb ≤ b := y9; omega
  have hW := hC.wf
  have hn14 := hC.n14
  have hl6c := hC.l60
  have hnm5 := hW.2.2.1
  refine lv_aload_n hx hb dL_law_298 rfl (lv_at hl 1 rfl) ?_
  refine lv_aload_n hx hb dL_law_299 rfl (lv_at hl 0 rfl) ?_
  refine lv_iload hx hb dL_law_300 (lv_at hl 4 rfl) ?_
  refine lv_iconst (v := nI 1) hx hb dL_law_302 (by decide) ?_
  refine mn_iadd hB dL_law_303 ?_
  refine va_sld hx hb hX hbl hbA hS (vp_in_nI (by omega) (by omega)) dL_law_304 ?_
  refine mh_top (y := .int (nI k)) (by rw [nI_clamp (by omega), a1]) ?_
  refine lv_aload_n hx hb dL_law_305 rfl (lv_at hl 0 rfl) ?_
  refine lv_iload hx hb dL_law_306 (lv_at hl 4 rfl) ?_
  refine lv_iconst (v := nI 2) hx hb dL_law_308 (by decide) ?_
  refine mn_iadd hB dL_law_309 ?_
  refine va_sld hx hb hX hbl hbA hS (vp_in_nI (by omega) (by omega)) dL_law_310 ?_
  refine mh_top (y := .int (nI 3)) (by rw [nI_clamp (by omega), a2]) ?_
  refine lv_aload_n hx hb dL_law_311 rfl (lv_at hl 3 rfl) ?_
  refine cw_116 (As := [.ref xb, .int (nI k), .int (nI 3), .ref ob]) (rest := []) hB (hZ9.at hS (fun _ h9 => h9)) (w_member_w3 l g H xb lim q n rm sl sv tx ln k ob o (hC) (hO) (hk) (⟨by omega, by omega⟩) (hfl)) rfl hl.1 (Nat.le_of_ble_eq_true rfl) dL_law_312 ⟨Nat.le_of_ble_eq_true rfl, Nat.le_of_ble_eq_true rfl⟩ ⟨by show (ce7) + 0 ≤ 622861; omega, by show (sn7) + 0 ≤ 7227521; omega⟩ hS (by have hz9 := hS.1; rintro q9 (h9 | h9) <;> first | exact h9.elim | (have h8 : r ≤ q9 ∧ q9 < r + 16 := h9; show xb ≤ q9; omega) | (have h8 : ((xb ≤ q9 ∧ q9 < xb + 68) ∨ lim ≤ q9) ∨ q9 = ob := h9; show xb ≤ q9; omega) | (have h8 : (xb ≤ q9 ∧ q9 < xb + 68) ∨ lim ≤ q9 := h9; show xb ≤ q9; omega) | (show xb ≤ q9; omega)) (fun v H1 locs hpo hfr hS => ?_)
  obtain ⟨rfl, hC, hO⟩ := hpo
  have hR := hR.keptF hfr (fun q9 h1 h2 y9 => by first | exact y9.elim | (have y8 : ((xb ≤ q9 ∧ q9 < xb + 68) ∨ lim ≤ q9) ∨ q9 = ob := y9; omega) | (have y8 : (xb ≤ q9 ∧ q9 < xb + 68) ∨ lim ≤ q9 := y9; omega))
  generalize H1 = H at hfr hS hR hX hC hO ⊢
  refine W.widen (k := ce7) (n := sn7) (by show (ce7) + 0 ≤ ce7; omega) (by show (sn7) + 0 ≤ sn7; omega) ?_
  refine lv_istore (lv' := [(5, .int (nI 0)), (0, .ref b), (1, .ref xb), (2, .ref r), (3, .ref ob), (4, .int (nI (4 * i9)))]) hx hb dL_law_315 hl (by decide) rfl (fun ls hl => ?_)
  refine lv_aload_n hx hb dL_law_317 rfl (lv_at hl 3 rfl) ?_
  refine lv_aload_n hx hb dL_law_318 rfl (lv_at hl 1 rfl) ?_
  refine lv_iload hx hb dL_law_319 (lv_at hl 5 rfl) ?_
  refine lv_iconst (v := nI 1) hx hb dL_law_321 (by decide) ?_
  refine mn_iadd hB dL_law_322 ?_
  refine va_sld hx hb hX hbl hbA hS (vp_in_nI (by omega) (by omega)) dL_law_323 ?_
  refine mh_top (y := .int (nI k)) (by rw [nI_clamp (by omega), a1]) ?_
  refine lv_aload_n hx hb dL_law_324 rfl (lv_at hl 1 rfl) ?_
  refine lv_iload hx hb dL_law_325 (lv_at hl 5 rfl) ?_
  refine lv_iconst (v := nI 2) hx hb dL_law_327 (by decide) ?_
  refine mn_iadd hB dL_law_328 ?_
  refine va_sld hx hb hX hbl hbA hS (vp_in_nI (by omega) (by omega)) dL_law_329 ?_
  refine mh_top (y := .int (nI 3)) (by rw [nI_clamp (by omega), a2]) ?_
  refine cl_L_119 (As := [.int (nI k), .int (nI 3)]) (rest := []) hB (c_X11_member l g H r q zsp rm (nI n) sl sv tx (nI ln) zth zsg zbg zwd zhg zin zop zbe zwi zhi zbk zot zer zen zpo zpi zgr zsh zsn k 3 hR (hk) (by omega) (by first | assumption | omega)) hR.o rfl hl.1 (Nat.le_of_ble_eq_true rfl) dL_law_330 ⟨Nat.le_of_ble_eq_true rfl, Nat.le_of_ble_eq_true rfl⟩ ⟨by show (ce7) + 0 ≤ 622861; omega, by show (sn7) + 0 ≤ 7227521; omega⟩ hS (by have hz9 := hS.1; rintro q9 (h9 | h9) <;> first | exact h9.elim | (have h8 : r ≤ q9 ∧ q9 < r + 16 := h9; show xb ≤ q9; omega) | (have h8 : ((xb ≤ q9 ∧ q9 < xb + 68) ∨ lim ≤ q9) ∨ q9 = ob := h9; show xb ≤ q9; omega) | (have h8 : (xb ≤ q9 ∧ q9 < xb + 68) ∨ lim ≤ q9 := h9; show xb ≤ q9; omega) | (show xb ≤ q9; omega)) (fun v H1 locs hpo hfr hS => ?_)
  obtain ⟨rfl, hR⟩ := hpo
  have hC := hC.keptM hfr (fun a9 y9 => by first | exact y9.elim | (have y8 : r ≤ a9 ∧ a9 < r + 16 := y9; omega))
  have hO := Fr.keep hfr hO (fun y9 => by first | exact y9.elim | (have y8 : r ≤ ob ∧ ob < r + 16 := y9; omega) | (have y8 : (xb ≤ ob ∧ ob < xb + 68) ∨ lim ≤ ob := y9; omega))
  generalize H1 = H at hfr hS hX hC hO hR ⊢
  refine W.widen (k := ce7) (n := sn7) (by show (ce7) + 0 ≤ ce7; omega) (by show (sn7) + 0 ≤ sn7; omega) ?_
  refine lv_istore (lv' := [(6, .int (meV q k 3)), (5, .int (nI 0)), (0, .ref b), (1, .ref xb), (2, .ref r), (3, .ref ob), (4, .int (nI (4 * i9)))]) hx hb dL_law_333 hl (by decide) rfl (fun ls hl => ?_)
  refine lv_aload_n hx hb dL_law_335 rfl (lv_at hl 4 rfl) ?_
  refine cl_L_102 (As := []) (rest := []) hB (c_X11_thrown l g H r q zsp rm (nI n) sl sv tx (nI ln) (nI 0) zsg zbg zwd zhg zin zop zbe zwi zhi zbk zot zer zen zpo zpi zgr zsh zsn hR) hR.o rfl hl.1 (Nat.le_of_ble_eq_true rfl) dL_law_336 ⟨Nat.le_of_ble_eq_true rfl, Nat.le_of_ble_eq_true rfl⟩ ⟨by show (ce7) + 0 ≤ 622861; omega, by show (sn7) + 0 ≤ 7227521; omega⟩ hS (by have hz9 := hS.1; rintro q9 (h9 | h9) <;> first | exact h9.elim | (have h8 : r ≤ q9 ∧ q9 < r + 16 := h9; show xb ≤ q9; omega) | (have h8 : ((xb ≤ q9 ∧ q9 < xb + 68) ∨ lim ≤ q9) ∨ q9 = ob := h9; show xb ≤ q9; omega) | (have h8 : (xb ≤ q9 ∧ q9 < xb + 68) ∨ lim ≤ q9 := h9; show xb ≤ q9; omega) | (show xb ≤ q9; omega)) (fun v H1 locs hpo hfr hS => ?_)
  obtain ⟨rfl, rfl⟩ := hpo
  refine W.widen (k := ce7) (n := sn7) (by show (ce7) + 0 ≤ ce7; omega) (by show (sn7) + 0 ≤ sn7; omega) ?_
  refine lv_iload hx hb dL_law_339 (lv_at hl 1 rfl) ?_
  refine lv_icmp_eq (tgt := 346) hx hb dL_law_341 (by decide) (fun h_341 => ?_) (fun h9 => absurd rfl h9)
  refine lv_iload hx hb dL_law_346 (lv_at hl 1 rfl) ?_
  refine mn_if_ne (tgt := 363) hB dL_law_348 (by decide) (by omega) (fun h => by exfalso; omega) (fun h_348 => ?_)
  refine lv_aload_n hx hb dL_law_351 rfl (lv_at hl 5 rfl) ?_
  refine lv_iconst (v := nI 0) hx hb dL_law_352 (by decide) ?_
  refine mn_lald hB hO (by omega) (by omega) dL_law_353 ?_
  refine mh_top (y := .long ((meV q k 3).toInt64)) (rfl) ?_
  refine lv_iload hx hb dL_law_354 (lv_at hl 0 rfl) ?_
  refine lv_i2l (v := (meV q k 3).toInt64) hx hb dL_law_356 rfl ?_
  refine W.lcmp hx hb dL_law_357 ?_
  refine ml_if_eq (tgt := 363) hB dL_law_358 (by decide) (fun h_358 => ?_) (fun h => absurd rfl h)
  refine lv_goto (tgt := 1803) hx hb dL_law_363 (by decide) ?_
  refine W.widen (k := ce7 + 30) (n := sn7 + 1100) (by omega) (by omega) ?_
  exact kk _ _ _ ⟨hC, ⟨_, _, _, _, _, _, _, _, _, _, _, _, _, _, _, _, _, _, _, _, hR⟩, ⟨_, hO⟩, hTx⟩ hS (lv_sub hl [2, 3, 4, 5, 6] rfl)

set_option maxRecDepth 100000 in
set_option maxHeartbeats 800000 in
theorem s_cloth_t1 {p : Program} {l : Launch} {e : Env} {s : State} {m : MethodId} {args : Array Value} {below : List Frame} {meth : Method} {c : Code} {H : Heap} {locs : List Loc} {ce7 sn7 : Nat} {Q : State → Prop} {g : GG} {b L xb r ob lim : Nat} {xs : Nat → Int32} {i9 : Nat} {ls : Array Slot} {q : Nat → Int32} {n : Nat} {rm sl sv tx : Nat → Int32} {ln : Nat} {zsp : Nat → Int32} {zth : Int32} {zsg : Nat → Int32} {zbg : Nat → Int32} {zwd : Nat → Int32} {zhg : Nat → Int32} {zin : Nat → Int32} {zop : Int32} {zbe : Int32} {zwi : Int32} {zhi : Int32} {zbk : Nat → Int32} {zot : Nat → Int32} {zer : Int32} {zen : Int32} {zpo : Nat → Int32} {zpi : Int32} {zgr : Int32} {zsh : Nat → Int32} {zsn : Int32} {o : Nat → Int64} (hfl : l.stackTraces = false) (hE : LE p s m meth c g b L xs xb r ob lim) (hi : 4 * i9 + 3 < L) (hC : CLS g xb lim q n rm sl sv tx ln H) (hR : ModAt g r q zsp rm (nI n) sl sv tx (nI ln) zth zsg zbg zwd zhg zin zop zbe zwi zhi zbk zot zer zen zpo zpi zgr zsh zsn H) (hO : at_ g H ob (eL g 1 o)) (hTx : TxT tx ln) (hS : va_S (fun q9 => xb ≤ q9) s.heap H locs) (hl : lv_has ls 7 [(0, .ref b), (1, .ref xb), (2, .ref r), (3, .ref ob), (4, .int (nI (4 * i9)))]) (hce7 : ce7 + 30 ≤ 622861) (hsn7 : sn7 + 1100 ≤ 7227521) (x : Int32) (y : Int32) (a1 : xs (4 * i9 + 1) = x) (a2 : xs (4 * i9 + 2) = y) (hx1 : isIx x 6 = false) (kk : ∀ (H1 : Heap) (locs1 : List Loc) (ls1 : Array Slot), LI g xb r ob lim q n rm sl sv tx ln H1 → va_S (fun q9 => xb ≤ q9) s.heap H1 locs1 → lv_has ls1 7 [(0, .ref b), (1, .ref xb), (2, .ref r), (3, .ref ob), (4, .int (nI (4 * i9)))] → W p l e room_1 s m args below meth c H1 locs1 (ce7 + 30) (sn7 + 1100) Q (F0 m 1803 ls1 [])) : W p l e room_1 s m args below meth c H locs ce7 sn7 Q (F0 m 366 ls []) := by
  obtain ⟨hB, hZ9, hX, hbl, hL9, hxs, hr9, hob9, hlm9⟩ := hE
  have hx := hB.x
  have hb := hB.b
  have hbA : ¬ (fun q9 => xb ≤ q9) b := fun y9 => by have y8 : xb ≤ b := y9; omega
  have hW := hC.wf
  have hn14 := hC.n14
  have hl6c := hC.l60
  have hnm5 := hW.2.2.1
  refine lv_aload_n hx hb dL_law_366 rfl (lv_at hl 1 rfl) ?_
  refine lv_aload_n hx hb dL_law_367 rfl (lv_at hl 0 rfl) ?_
  refine lv_iload hx hb dL_law_368 (lv_at hl 4 rfl) ?_
  refine lv_iconst (v := nI 1) hx hb dL_law_370 (by decide) ?_
  refine mn_iadd hB dL_law_371 ?_
  refine va_sld hx hb hX hbl hbA hS (vp_in_nI (by omega) (by omega)) dL_law_372 ?_
  refine mh_top (y := .int x) (by rw [nI_clamp (by omega), a1]) ?_
  refine lv_aload_n hx hb dL_law_373 rfl (lv_at hl 0 rfl) ?_
  refine lv_iload hx hb dL_law_374 (lv_at hl 4 rfl) ?_
  refine lv_iconst (v := nI 2) hx hb dL_law_376 (by decide) ?_
  refine mn_iadd hB dL_law_377 ?_
  refine va_sld hx hb hX hbl hbA hS (vp_in_nI (by omega) (by omega)) dL_law_378 ?_
  refine mh_top (y := .int y) (by rw [nI_clamp (by omega), a2]) ?_
  refine lv_aload_n hx hb dL_law_379 rfl (lv_at hl 3 rfl) ?_
  refine cw_120 (As := [.ref xb, .int x, .int y, .ref ob]) (rest := []) hB (hZ9.at hS (fun _ h9 => h9)) (w_cloth_t1 l g H xb lim q n rm sl sv tx ln x y ob o (hC) (hO) (hx1) (⟨by omega, by omega⟩) (hfl)) rfl hl.1 (Nat.le_of_ble_eq_true rfl) dL_law_380 ⟨Nat.le_of_ble_eq_true rfl, Nat.le_of_ble_eq_true rfl⟩ ⟨by show (ce7) + 1 ≤ 622861; omega, by show (sn7) + 6 ≤ 7227521; omega⟩ hS (by have hz9 := hS.1; rintro q9 (h9 | h9) <;> first | exact h9.elim | (have h8 : r ≤ q9 ∧ q9 < r + 16 := h9; show xb ≤ q9; omega) | (have h8 : ((xb ≤ q9 ∧ q9 < xb + 68) ∨ lim ≤ q9) ∨ q9 = ob := h9; show xb ≤ q9; omega) | (have h8 : (xb ≤ q9 ∧ q9 < xb + 68) ∨ lim ≤ q9 := h9; show xb ≤ q9; omega) | (show xb ≤ q9; omega)) (fun v H1 locs hpo hfr hS => ?_)
  obtain ⟨rfl, hC, hO⟩ := hpo
  have hR := hR.keptF hfr (fun q9 h1 h2 y9 => by first | exact y9.elim | (have y8 : ((xb ≤ q9 ∧ q9 < xb + 68) ∨ lim ≤ q9) ∨ q9 = ob := y9; omega) | (have y8 : (xb ≤ q9 ∧ q9 < xb + 68) ∨ lim ≤ q9 := y9; omega))
  generalize H1 = H at hfr hS hR hX hC hO ⊢
  refine W.widen (k := ce7 + 1) (n := sn7 + 6) (by show (ce7) + 1 ≤ ce7 + 1; omega) (by show (sn7) + 6 ≤ sn7 + 6; omega) ?_
  refine lv_istore (lv' := [(5, .int (nI 1)), (0, .ref b), (1, .ref xb), (2, .ref r), (3, .ref ob), (4, .int (nI (4 * i9)))]) hx hb dL_law_383 hl (by decide) rfl (fun ls hl => ?_)
  refine lv_aload_n hx hb dL_law_385 rfl (lv_at hl 3 rfl) ?_
  refine lv_aload_n hx hb dL_law_386 rfl (lv_at hl 1 rfl) ?_
  refine lv_iload hx hb dL_law_387 (lv_at hl 5 rfl) ?_
  refine lv_iconst (v := nI 1) hx hb dL_law_389 (by decide) ?_
  refine mn_iadd hB dL_law_390 ?_
  refine va_sld hx hb hX hbl hbA hS (vp_in_nI (by omega) (by omega)) dL_law_391 ?_
  refine mh_top (y := .int x) (by rw [nI_clamp (by omega), a1]) ?_
  refine lv_aload_n hx hb dL_law_392 rfl (lv_at hl 1 rfl) ?_
  refine lv_iload hx hb dL_law_393 (lv_at hl 5 rfl) ?_
  refine lv_iconst (v := nI 2) hx hb dL_law_395 (by decide) ?_
  refine mn_iadd hB dL_law_396 ?_
  refine va_sld hx hb hX hbl hbA hS (vp_in_nI (by omega) (by omega)) dL_law_397 ?_
  refine mh_top (y := .int y) (by rw [nI_clamp (by omega), a2]) ?_
  refine cl_L_122 (As := [.int x, .int y]) (rest := []) hB (c_X11_cloth_t1 l g H r q zsp rm (nI n) sl sv tx (nI ln) zth zsg zbg zwd zhg zin zop zbe zwi zhi zbk zot zer zen zpo zpi zgr zsh zsn x y hR (hx1)) hR.o rfl hl.1 (Nat.le_of_ble_eq_true rfl) dL_law_398 ⟨Nat.le_of_ble_eq_true rfl, Nat.le_of_ble_eq_true rfl⟩ ⟨by show (ce7 + 1) + 0 ≤ 622861; omega, by show (sn7 + 6) + 0 ≤ 7227521; omega⟩ hS (by have hz9 := hS.1; rintro q9 (h9 | h9) <;> first | exact h9.elim | (have h8 : r ≤ q9 ∧ q9 < r + 16 := h9; show xb ≤ q9; omega) | (have h8 : ((xb ≤ q9 ∧ q9 < xb + 68) ∨ lim ≤ q9) ∨ q9 = ob := h9; show xb ≤ q9; omega) | (have h8 : (xb ≤ q9 ∧ q9 < xb + 68) ∨ lim ≤ q9 := h9; show xb ≤ q9; omega) | (show xb ≤ q9; omega)) (fun v H1 locs hpo hfr hS => ?_)
  obtain ⟨rfl, hR⟩ := hpo
  have hC := hC.keptM hfr (fun a9 y9 => by first | exact y9.elim | (have y8 : r ≤ a9 ∧ a9 < r + 16 := y9; omega))
  have hO := Fr.keep hfr hO (fun y9 => by first | exact y9.elim | (have y8 : r ≤ ob ∧ ob < r + 16 := y9; omega) | (have y8 : (xb ≤ ob ∧ ob < xb + 68) ∨ lim ≤ ob := y9; omega))
  generalize H1 = H at hfr hS hX hC hO hR ⊢
  refine W.widen (k := ce7 + 1) (n := sn7 + 6) (by show (ce7 + 1) + 0 ≤ ce7 + 1; omega) (by show (sn7 + 6) + 0 ≤ sn7 + 6; omega) ?_
  refine lv_istore (lv' := [(6, .int (nI 0)), (5, .int (nI 1)), (0, .ref b), (1, .ref xb), (2, .ref r), (3, .ref ob), (4, .int (nI (4 * i9)))]) hx hb dL_law_401 hl (by decide) rfl (fun ls hl => ?_)
  refine lv_aload_n hx hb dL_law_403 rfl (lv_at hl 4 rfl) ?_
  refine cl_L_102 (As := []) (rest := []) hB (c_X11_thrown l g H r q zsp rm (nI n) sl sv tx (nI ln) (nI 1) zsg zbg zwd zhg zin zop zbe zwi zhi zbk zot zer zen zpo zpi zgr zsh zsn hR) hR.o rfl hl.1 (Nat.le_of_ble_eq_true rfl) dL_law_404 ⟨Nat.le_of_ble_eq_true rfl, Nat.le_of_ble_eq_true rfl⟩ ⟨by show (ce7 + 1) + 0 ≤ 622861; omega, by show (sn7 + 6) + 0 ≤ 7227521; omega⟩ hS (by have hz9 := hS.1; rintro q9 (h9 | h9) <;> first | exact h9.elim | (have h8 : r ≤ q9 ∧ q9 < r + 16 := h9; show xb ≤ q9; omega) | (have h8 : ((xb ≤ q9 ∧ q9 < xb + 68) ∨ lim ≤ q9) ∨ q9 = ob := h9; show xb ≤ q9; omega) | (have h8 : (xb ≤ q9 ∧ q9 < xb + 68) ∨ lim ≤ q9 := h9; show xb ≤ q9; omega) | (show xb ≤ q9; omega)) (fun v H1 locs hpo hfr hS => ?_)
  obtain ⟨rfl, rfl⟩ := hpo
  refine W.widen (k := ce7 + 1) (n := sn7 + 6) (by show (ce7 + 1) + 0 ≤ ce7 + 1; omega) (by show (sn7 + 6) + 0 ≤ sn7 + 6; omega) ?_
  refine lv_iload hx hb dL_law_407 (lv_at hl 1 rfl) ?_
  refine lv_icmp_eq (tgt := 414) hx hb dL_law_409 (by decide) (fun h_409 => ?_) (fun h9 => absurd rfl h9)
  refine lv_iload hx hb dL_law_414 (lv_at hl 1 rfl) ?_
  refine mn_if_ne (tgt := 431) hB dL_law_416 (by decide) (by omega) (fun h_416 => ?_) (fun h => by exfalso; omega)
  refine lv_goto (tgt := 1803) hx hb dL_law_431 (by decide) ?_
  refine W.widen (k := ce7 + 30) (n := sn7 + 1100) (by omega) (by omega) ?_
  exact kk _ _ _ ⟨hC, ⟨_, _, _, _, _, _, _, _, _, _, _, _, _, _, _, _, _, _, _, _, hR⟩, ⟨_, hO⟩, hTx⟩ hS (lv_sub hl [2, 3, 4, 5, 6] rfl)

set_option maxRecDepth 100000 in
set_option maxHeartbeats 800000 in
theorem s_cloth_t2 {p : Program} {l : Launch} {e : Env} {s : State} {m : MethodId} {args : Array Value} {below : List Frame} {meth : Method} {c : Code} {H : Heap} {locs : List Loc} {ce7 sn7 : Nat} {Q : State → Prop} {g : GG} {b L xb r ob lim : Nat} {xs : Nat → Int32} {i9 : Nat} {ls : Array Slot} {q : Nat → Int32} {n : Nat} {rm sl sv tx : Nat → Int32} {ln : Nat} {zsp : Nat → Int32} {zth : Int32} {zsg : Nat → Int32} {zbg : Nat → Int32} {zwd : Nat → Int32} {zhg : Nat → Int32} {zin : Nat → Int32} {zop : Int32} {zbe : Int32} {zwi : Int32} {zhi : Int32} {zbk : Nat → Int32} {zot : Nat → Int32} {zer : Int32} {zen : Int32} {zpo : Nat → Int32} {zpi : Int32} {zgr : Int32} {zsh : Nat → Int32} {zsn : Int32} {o : Nat → Int64} (hfl : l.stackTraces = false) (hE : LE p s m meth c g b L xs xb r ob lim) (hi : 4 * i9 + 3 < L) (hC : CLS g xb lim q n rm sl sv tx ln H) (hR : ModAt g r q zsp rm (nI n) sl sv tx (nI ln) zth zsg zbg zwd zhg zin zop zbe zwi zhi zbk zot zer zen zpo zpi zgr zsh zsn H) (hO : at_ g H ob (eL g 1 o)) (hTx : TxT tx ln) (hS : va_S (fun q9 => xb ≤ q9) s.heap H locs) (hl : lv_has ls 7 [(0, .ref b), (1, .ref xb), (2, .ref r), (3, .ref ob), (4, .int (nI (4 * i9)))]) (hce7 : ce7 + 30 ≤ 622861) (hsn7 : sn7 + 1100 ≤ 7227521) (k : Nat) (y : Int32) (a1 : xs (4 * i9 + 1) = nI k) (a2 : xs (4 * i9 + 2) = y) (hk : k < 6) (hx1 : isIx y 5 = false) (kk : ∀ (H1 : Heap) (locs1 : List Loc) (ls1 : Array Slot), LI g xb r ob lim q n rm sl sv tx ln H1 → va_S (fun q9 => xb ≤ q9) s.heap H1 locs1 → lv_has ls1 7 [(0, .ref b), (1, .ref xb), (2, .ref r), (3, .ref ob), (4, .int (nI (4 * i9)))] → W p l e room_1 s m args below meth c H1 locs1 (ce7 + 30) (sn7 + 1100) Q (F0 m 1803 ls1 [])) : W p l e room_1 s m args below meth c H locs ce7 sn7 Q (F0 m 366 ls []) := by
  obtain ⟨hB, hZ9, hX, hbl, hL9, hxs, hr9, hob9, hlm9⟩ := hE
  have hx := hB.x
  have hb := hB.b
  have hbA : ¬ (fun q9 => xb ≤ q9) b := fun y9 => by have y8 : xb ≤ b := y9; omega
  have hW := hC.wf
  have hn14 := hC.n14
  have hl6c := hC.l60
  have hnm5 := hW.2.2.1
  refine lv_aload_n hx hb dL_law_366 rfl (lv_at hl 1 rfl) ?_
  refine lv_aload_n hx hb dL_law_367 rfl (lv_at hl 0 rfl) ?_
  refine lv_iload hx hb dL_law_368 (lv_at hl 4 rfl) ?_
  refine lv_iconst (v := nI 1) hx hb dL_law_370 (by decide) ?_
  refine mn_iadd hB dL_law_371 ?_
  refine va_sld hx hb hX hbl hbA hS (vp_in_nI (by omega) (by omega)) dL_law_372 ?_
  refine mh_top (y := .int (nI k)) (by rw [nI_clamp (by omega), a1]) ?_
  refine lv_aload_n hx hb dL_law_373 rfl (lv_at hl 0 rfl) ?_
  refine lv_iload hx hb dL_law_374 (lv_at hl 4 rfl) ?_
  refine lv_iconst (v := nI 2) hx hb dL_law_376 (by decide) ?_
  refine mn_iadd hB dL_law_377 ?_
  refine va_sld hx hb hX hbl hbA hS (vp_in_nI (by omega) (by omega)) dL_law_378 ?_
  refine mh_top (y := .int y) (by rw [nI_clamp (by omega), a2]) ?_
  refine lv_aload_n hx hb dL_law_379 rfl (lv_at hl 3 rfl) ?_
  refine cw_120 (As := [.ref xb, .int (nI k), .int y, .ref ob]) (rest := []) hB (hZ9.at hS (fun _ h9 => h9)) (w_cloth_t2 l g H xb lim q n rm sl sv tx ln k y ob o (hC) (hO) (hk) (hx1) (⟨by omega, by omega⟩) (hfl)) rfl hl.1 (Nat.le_of_ble_eq_true rfl) dL_law_380 ⟨Nat.le_of_ble_eq_true rfl, Nat.le_of_ble_eq_true rfl⟩ ⟨by show (ce7) + 1 ≤ 622861; omega, by show (sn7) + 6 ≤ 7227521; omega⟩ hS (by have hz9 := hS.1; rintro q9 (h9 | h9) <;> first | exact h9.elim | (have h8 : r ≤ q9 ∧ q9 < r + 16 := h9; show xb ≤ q9; omega) | (have h8 : ((xb ≤ q9 ∧ q9 < xb + 68) ∨ lim ≤ q9) ∨ q9 = ob := h9; show xb ≤ q9; omega) | (have h8 : (xb ≤ q9 ∧ q9 < xb + 68) ∨ lim ≤ q9 := h9; show xb ≤ q9; omega) | (show xb ≤ q9; omega)) (fun v H1 locs hpo hfr hS => ?_)
  obtain ⟨rfl, hC, hO⟩ := hpo
  have hR := hR.keptF hfr (fun q9 h1 h2 y9 => by first | exact y9.elim | (have y8 : ((xb ≤ q9 ∧ q9 < xb + 68) ∨ lim ≤ q9) ∨ q9 = ob := y9; omega) | (have y8 : (xb ≤ q9 ∧ q9 < xb + 68) ∨ lim ≤ q9 := y9; omega))
  generalize H1 = H at hfr hS hR hX hC hO ⊢
  refine W.widen (k := ce7 + 1) (n := sn7 + 6) (by show (ce7) + 1 ≤ ce7 + 1; omega) (by show (sn7) + 6 ≤ sn7 + 6; omega) ?_
  refine lv_istore (lv' := [(5, .int (nI 2)), (0, .ref b), (1, .ref xb), (2, .ref r), (3, .ref ob), (4, .int (nI (4 * i9)))]) hx hb dL_law_383 hl (by decide) rfl (fun ls hl => ?_)
  refine lv_aload_n hx hb dL_law_385 rfl (lv_at hl 3 rfl) ?_
  refine lv_aload_n hx hb dL_law_386 rfl (lv_at hl 1 rfl) ?_
  refine lv_iload hx hb dL_law_387 (lv_at hl 5 rfl) ?_
  refine lv_iconst (v := nI 1) hx hb dL_law_389 (by decide) ?_
  refine mn_iadd hB dL_law_390 ?_
  refine va_sld hx hb hX hbl hbA hS (vp_in_nI (by omega) (by omega)) dL_law_391 ?_
  refine mh_top (y := .int (nI k)) (by rw [nI_clamp (by omega), a1]) ?_
  refine lv_aload_n hx hb dL_law_392 rfl (lv_at hl 1 rfl) ?_
  refine lv_iload hx hb dL_law_393 (lv_at hl 5 rfl) ?_
  refine lv_iconst (v := nI 2) hx hb dL_law_395 (by decide) ?_
  refine mn_iadd hB dL_law_396 ?_
  refine va_sld hx hb hX hbl hbA hS (vp_in_nI (by omega) (by omega)) dL_law_397 ?_
  refine mh_top (y := .int y) (by rw [nI_clamp (by omega), a2]) ?_
  refine cl_L_122 (As := [.int (nI k), .int y]) (rest := []) hB (c_X11_cloth_t2 l g H r q zsp rm (nI n) sl sv tx (nI ln) zth zsg zbg zwd zhg zin zop zbe zwi zhi zbk zot zer zen zpo zpi zgr zsh zsn k y hR (hk) (hx1)) hR.o rfl hl.1 (Nat.le_of_ble_eq_true rfl) dL_law_398 ⟨Nat.le_of_ble_eq_true rfl, Nat.le_of_ble_eq_true rfl⟩ ⟨by show (ce7 + 1) + 0 ≤ 622861; omega, by show (sn7 + 6) + 0 ≤ 7227521; omega⟩ hS (by have hz9 := hS.1; rintro q9 (h9 | h9) <;> first | exact h9.elim | (have h8 : r ≤ q9 ∧ q9 < r + 16 := h9; show xb ≤ q9; omega) | (have h8 : ((xb ≤ q9 ∧ q9 < xb + 68) ∨ lim ≤ q9) ∨ q9 = ob := h9; show xb ≤ q9; omega) | (have h8 : (xb ≤ q9 ∧ q9 < xb + 68) ∨ lim ≤ q9 := h9; show xb ≤ q9; omega) | (show xb ≤ q9; omega)) (fun v H1 locs hpo hfr hS => ?_)
  obtain ⟨rfl, hR⟩ := hpo
  have hC := hC.keptM hfr (fun a9 y9 => by first | exact y9.elim | (have y8 : r ≤ a9 ∧ a9 < r + 16 := y9; omega))
  have hO := Fr.keep hfr hO (fun y9 => by first | exact y9.elim | (have y8 : r ≤ ob ∧ ob < r + 16 := y9; omega) | (have y8 : (xb ≤ ob ∧ ob < xb + 68) ∨ lim ≤ ob := y9; omega))
  generalize H1 = H at hfr hS hX hC hO hR ⊢
  refine W.widen (k := ce7 + 1) (n := sn7 + 6) (by show (ce7 + 1) + 0 ≤ ce7 + 1; omega) (by show (sn7 + 6) + 0 ≤ sn7 + 6; omega) ?_
  refine lv_istore (lv' := [(6, .int (nI 0)), (5, .int (nI 2)), (0, .ref b), (1, .ref xb), (2, .ref r), (3, .ref ob), (4, .int (nI (4 * i9)))]) hx hb dL_law_401 hl (by decide) rfl (fun ls hl => ?_)
  refine lv_aload_n hx hb dL_law_403 rfl (lv_at hl 4 rfl) ?_
  refine cl_L_102 (As := []) (rest := []) hB (c_X11_thrown l g H r q zsp rm (nI n) sl sv tx (nI ln) (nI 2) zsg zbg zwd zhg zin zop zbe zwi zhi zbk zot zer zen zpo zpi zgr zsh zsn hR) hR.o rfl hl.1 (Nat.le_of_ble_eq_true rfl) dL_law_404 ⟨Nat.le_of_ble_eq_true rfl, Nat.le_of_ble_eq_true rfl⟩ ⟨by show (ce7 + 1) + 0 ≤ 622861; omega, by show (sn7 + 6) + 0 ≤ 7227521; omega⟩ hS (by have hz9 := hS.1; rintro q9 (h9 | h9) <;> first | exact h9.elim | (have h8 : r ≤ q9 ∧ q9 < r + 16 := h9; show xb ≤ q9; omega) | (have h8 : ((xb ≤ q9 ∧ q9 < xb + 68) ∨ lim ≤ q9) ∨ q9 = ob := h9; show xb ≤ q9; omega) | (have h8 : (xb ≤ q9 ∧ q9 < xb + 68) ∨ lim ≤ q9 := h9; show xb ≤ q9; omega) | (show xb ≤ q9; omega)) (fun v H1 locs hpo hfr hS => ?_)
  obtain ⟨rfl, rfl⟩ := hpo
  refine W.widen (k := ce7 + 1) (n := sn7 + 6) (by show (ce7 + 1) + 0 ≤ ce7 + 1; omega) (by show (sn7 + 6) + 0 ≤ sn7 + 6; omega) ?_
  refine lv_iload hx hb dL_law_407 (lv_at hl 1 rfl) ?_
  refine lv_icmp_eq (tgt := 414) hx hb dL_law_409 (by decide) (fun h_409 => ?_) (fun h9 => absurd rfl h9)
  refine lv_iload hx hb dL_law_414 (lv_at hl 1 rfl) ?_
  refine mn_if_ne (tgt := 431) hB dL_law_416 (by decide) (by omega) (fun h_416 => ?_) (fun h => by exfalso; omega)
  refine lv_goto (tgt := 1803) hx hb dL_law_431 (by decide) ?_
  refine W.widen (k := ce7 + 30) (n := sn7 + 1100) (by omega) (by omega) ?_
  exact kk _ _ _ ⟨hC, ⟨_, _, _, _, _, _, _, _, _, _, _, _, _, _, _, _, _, _, _, _, hR⟩, ⟨_, hO⟩, hTx⟩ hS (lv_sub hl [2, 3, 4, 5, 6] rfl)

set_option maxRecDepth 100000 in
set_option maxHeartbeats 800000 in
theorem s_cloth_ok {p : Program} {l : Launch} {e : Env} {s : State} {m : MethodId} {args : Array Value} {below : List Frame} {meth : Method} {c : Code} {H : Heap} {locs : List Loc} {ce7 sn7 : Nat} {Q : State → Prop} {g : GG} {b L xb r ob lim : Nat} {xs : Nat → Int32} {i9 : Nat} {ls : Array Slot} {q : Nat → Int32} {n : Nat} {rm sl sv tx : Nat → Int32} {ln : Nat} {zsp : Nat → Int32} {zth : Int32} {zsg : Nat → Int32} {zbg : Nat → Int32} {zwd : Nat → Int32} {zhg : Nat → Int32} {zin : Nat → Int32} {zop : Int32} {zbe : Int32} {zwi : Int32} {zhi : Int32} {zbk : Nat → Int32} {zot : Nat → Int32} {zer : Int32} {zen : Int32} {zpo : Nat → Int32} {zpi : Int32} {zgr : Int32} {zsh : Nat → Int32} {zsn : Int32} {o : Nat → Int64} (hfl : l.stackTraces = false) (hE : LE p s m meth c g b L xs xb r ob lim) (hi : 4 * i9 + 3 < L) (hC : CLS g xb lim q n rm sl sv tx ln H) (hR : ModAt g r q zsp rm (nI n) sl sv tx (nI ln) zth zsg zbg zwd zhg zin zop zbe zwi zhi zbk zot zer zen zpo zpi zgr zsh zsn H) (hO : at_ g H ob (eL g 1 o)) (hTx : TxT tx ln) (hS : va_S (fun q9 => xb ≤ q9) s.heap H locs) (hl : lv_has ls 7 [(0, .ref b), (1, .ref xb), (2, .ref r), (3, .ref ob), (4, .int (nI (4 * i9)))]) (hce7 : ce7 + 30 ≤ 622861) (hsn7 : sn7 + 1100 ≤ 7227521) (k : Nat) (w : Nat) (a1 : xs (4 * i9 + 1) = nI k) (a2 : xs (4 * i9 + 2) = nI w) (hk : k < 6) (hw : w < 5) (kk : ∀ (H1 : Heap) (locs1 : List Loc) (ls1 : Array Slot), LI g xb r ob lim q n rm sl sv tx ln H1 → va_S (fun q9 => xb ≤ q9) s.heap H1 locs1 → lv_has ls1 7 [(0, .ref b), (1, .ref xb), (2, .ref r), (3, .ref ob), (4, .int (nI (4 * i9)))] → W p l e room_1 s m args below meth c H1 locs1 (ce7 + 30) (sn7 + 1100) Q (F0 m 1803 ls1 [])) : W p l e room_1 s m args below meth c H locs ce7 sn7 Q (F0 m 366 ls []) := by
  obtain ⟨hB, hZ9, hX, hbl, hL9, hxs, hr9, hob9, hlm9⟩ := hE
  have hx := hB.x
  have hb := hB.b
  have hbA : ¬ (fun q9 => xb ≤ q9) b := fun y9 => by have y8 : xb ≤ b := y9; omega
  have hW := hC.wf
  have hn14 := hC.n14
  have hl6c := hC.l60
  have hnm5 := hW.2.2.1
  refine lv_aload_n hx hb dL_law_366 rfl (lv_at hl 1 rfl) ?_
  refine lv_aload_n hx hb dL_law_367 rfl (lv_at hl 0 rfl) ?_
  refine lv_iload hx hb dL_law_368 (lv_at hl 4 rfl) ?_
  refine lv_iconst (v := nI 1) hx hb dL_law_370 (by decide) ?_
  refine mn_iadd hB dL_law_371 ?_
  refine va_sld hx hb hX hbl hbA hS (vp_in_nI (by omega) (by omega)) dL_law_372 ?_
  refine mh_top (y := .int (nI k)) (by rw [nI_clamp (by omega), a1]) ?_
  refine lv_aload_n hx hb dL_law_373 rfl (lv_at hl 0 rfl) ?_
  refine lv_iload hx hb dL_law_374 (lv_at hl 4 rfl) ?_
  refine lv_iconst (v := nI 2) hx hb dL_law_376 (by decide) ?_
  refine mn_iadd hB dL_law_377 ?_
  refine va_sld hx hb hX hbl hbA hS (vp_in_nI (by omega) (by omega)) dL_law_378 ?_
  refine mh_top (y := .int (nI w)) (by rw [nI_clamp (by omega), a2]) ?_
  refine lv_aload_n hx hb dL_law_379 rfl (lv_at hl 3 rfl) ?_
  refine cw_120 (As := [.ref xb, .int (nI k), .int (nI w), .ref ob]) (rest := []) hB (hZ9.at hS (fun _ h9 => h9)) (w_cloth_ok l g H xb lim q n rm sl sv tx ln k w ob o (hC) (hO) (hk) (hw) (⟨by omega, by omega⟩) (hfl)) rfl hl.1 (Nat.le_of_ble_eq_true rfl) dL_law_380 ⟨Nat.le_of_ble_eq_true rfl, Nat.le_of_ble_eq_true rfl⟩ ⟨by show (ce7) + 0 ≤ 622861; omega, by show (sn7) + 0 ≤ 7227521; omega⟩ hS (by have hz9 := hS.1; rintro q9 (h9 | h9) <;> first | exact h9.elim | (have h8 : r ≤ q9 ∧ q9 < r + 16 := h9; show xb ≤ q9; omega) | (have h8 : ((xb ≤ q9 ∧ q9 < xb + 68) ∨ lim ≤ q9) ∨ q9 = ob := h9; show xb ≤ q9; omega) | (have h8 : (xb ≤ q9 ∧ q9 < xb + 68) ∨ lim ≤ q9 := h9; show xb ≤ q9; omega) | (show xb ≤ q9; omega)) (fun v H1 locs hpo hfr hS => ?_)
  obtain ⟨rfl, hC, hO⟩ := hpo
  have hR := hR.keptF hfr (fun q9 h1 h2 y9 => by first | exact y9.elim | (have y8 : ((xb ≤ q9 ∧ q9 < xb + 68) ∨ lim ≤ q9) ∨ q9 = ob := y9; omega) | (have y8 : (xb ≤ q9 ∧ q9 < xb + 68) ∨ lim ≤ q9 := y9; omega))
  generalize H1 = H at hfr hS hR hX hC hO ⊢
  refine W.widen (k := ce7) (n := sn7) (by show (ce7) + 0 ≤ ce7; omega) (by show (sn7) + 0 ≤ sn7; omega) ?_
  refine lv_istore (lv' := [(5, .int (nI 0)), (0, .ref b), (1, .ref xb), (2, .ref r), (3, .ref ob), (4, .int (nI (4 * i9)))]) hx hb dL_law_383 hl (by decide) rfl (fun ls hl => ?_)
  refine lv_aload_n hx hb dL_law_385 rfl (lv_at hl 3 rfl) ?_
  refine lv_aload_n hx hb dL_law_386 rfl (lv_at hl 1 rfl) ?_
  refine lv_iload hx hb dL_law_387 (lv_at hl 5 rfl) ?_
  refine lv_iconst (v := nI 1) hx hb dL_law_389 (by decide) ?_
  refine mn_iadd hB dL_law_390 ?_
  refine va_sld hx hb hX hbl hbA hS (vp_in_nI (by omega) (by omega)) dL_law_391 ?_
  refine mh_top (y := .int (nI k)) (by rw [nI_clamp (by omega), a1]) ?_
  refine lv_aload_n hx hb dL_law_392 rfl (lv_at hl 1 rfl) ?_
  refine lv_iload hx hb dL_law_393 (lv_at hl 5 rfl) ?_
  refine lv_iconst (v := nI 2) hx hb dL_law_395 (by decide) ?_
  refine mn_iadd hB dL_law_396 ?_
  refine va_sld hx hb hX hbl hbA hS (vp_in_nI (by omega) (by omega)) dL_law_397 ?_
  refine mh_top (y := .int (nI w)) (by rw [nI_clamp (by omega), a2]) ?_
  refine cl_L_122 (As := [.int (nI k), .int (nI w)]) (rest := []) hB (c_X11_cloth l g H r q zsp rm (nI n) sl sv tx (nI ln) zth zsg zbg zwd zhg zin zop zbe zwi zhi zbk zot zer zen zpo zpi zgr zsh zsn k w hR (hk) (hw) (by first | assumption | omega)) hR.o rfl hl.1 (Nat.le_of_ble_eq_true rfl) dL_law_398 ⟨Nat.le_of_ble_eq_true rfl, Nat.le_of_ble_eq_true rfl⟩ ⟨by show (ce7) + 0 ≤ 622861; omega, by show (sn7) + 0 ≤ 7227521; omega⟩ hS (by have hz9 := hS.1; rintro q9 (h9 | h9) <;> first | exact h9.elim | (have h8 : r ≤ q9 ∧ q9 < r + 16 := h9; show xb ≤ q9; omega) | (have h8 : ((xb ≤ q9 ∧ q9 < xb + 68) ∨ lim ≤ q9) ∨ q9 = ob := h9; show xb ≤ q9; omega) | (have h8 : (xb ≤ q9 ∧ q9 < xb + 68) ∨ lim ≤ q9 := h9; show xb ≤ q9; omega) | (show xb ≤ q9; omega)) (fun v H1 locs hpo hfr hS => ?_)
  obtain ⟨rfl, hR⟩ := hpo
  have hC := hC.keptM hfr (fun a9 y9 => by first | exact y9.elim | (have y8 : r ≤ a9 ∧ a9 < r + 16 := y9; omega))
  have hO := Fr.keep hfr hO (fun y9 => by first | exact y9.elim | (have y8 : r ≤ ob ∧ ob < r + 16 := y9; omega) | (have y8 : (xb ≤ ob ∧ ob < xb + 68) ∨ lim ≤ ob := y9; omega))
  generalize H1 = H at hfr hS hX hC hO hR ⊢
  refine W.widen (k := ce7) (n := sn7) (by show (ce7) + 0 ≤ ce7; omega) (by show (sn7) + 0 ≤ sn7; omega) ?_
  refine lv_istore (lv' := [(6, .int (coV q k w)), (5, .int (nI 0)), (0, .ref b), (1, .ref xb), (2, .ref r), (3, .ref ob), (4, .int (nI (4 * i9)))]) hx hb dL_law_401 hl (by decide) rfl (fun ls hl => ?_)
  refine lv_aload_n hx hb dL_law_403 rfl (lv_at hl 4 rfl) ?_
  refine cl_L_102 (As := []) (rest := []) hB (c_X11_thrown l g H r q zsp rm (nI n) sl sv tx (nI ln) (nI 0) zsg zbg zwd zhg zin zop zbe zwi zhi zbk zot zer zen zpo zpi zgr zsh zsn hR) hR.o rfl hl.1 (Nat.le_of_ble_eq_true rfl) dL_law_404 ⟨Nat.le_of_ble_eq_true rfl, Nat.le_of_ble_eq_true rfl⟩ ⟨by show (ce7) + 0 ≤ 622861; omega, by show (sn7) + 0 ≤ 7227521; omega⟩ hS (by have hz9 := hS.1; rintro q9 (h9 | h9) <;> first | exact h9.elim | (have h8 : r ≤ q9 ∧ q9 < r + 16 := h9; show xb ≤ q9; omega) | (have h8 : ((xb ≤ q9 ∧ q9 < xb + 68) ∨ lim ≤ q9) ∨ q9 = ob := h9; show xb ≤ q9; omega) | (have h8 : (xb ≤ q9 ∧ q9 < xb + 68) ∨ lim ≤ q9 := h9; show xb ≤ q9; omega) | (show xb ≤ q9; omega)) (fun v H1 locs hpo hfr hS => ?_)
  obtain ⟨rfl, rfl⟩ := hpo
  refine W.widen (k := ce7) (n := sn7) (by show (ce7) + 0 ≤ ce7; omega) (by show (sn7) + 0 ≤ sn7; omega) ?_
  refine lv_iload hx hb dL_law_407 (lv_at hl 1 rfl) ?_
  refine lv_icmp_eq (tgt := 414) hx hb dL_law_409 (by decide) (fun h_409 => ?_) (fun h9 => absurd rfl h9)
  refine lv_iload hx hb dL_law_414 (lv_at hl 1 rfl) ?_
  refine mn_if_ne (tgt := 431) hB dL_law_416 (by decide) (by omega) (fun h => by exfalso; omega) (fun h_416 => ?_)
  refine lv_aload_n hx hb dL_law_419 rfl (lv_at hl 5 rfl) ?_
  refine lv_iconst (v := nI 0) hx hb dL_law_420 (by decide) ?_
  refine mn_lald hB hO (by omega) (by omega) dL_law_421 ?_
  refine mh_top (y := .long ((coV q k w).toInt64)) (rfl) ?_
  refine lv_iload hx hb dL_law_422 (lv_at hl 0 rfl) ?_
  refine lv_i2l (v := (coV q k w).toInt64) hx hb dL_law_424 rfl ?_
  refine W.lcmp hx hb dL_law_425 ?_
  refine ml_if_eq (tgt := 431) hB dL_law_426 (by decide) (fun h_426 => ?_) (fun h => absurd rfl h)
  refine lv_goto (tgt := 1803) hx hb dL_law_431 (by decide) ?_
  refine W.widen (k := ce7 + 30) (n := sn7 + 1100) (by omega) (by omega) ?_
  exact kk _ _ _ ⟨hC, ⟨_, _, _, _, _, _, _, _, _, _, _, _, _, _, _, _, _, _, _, _, hR⟩, ⟨_, hO⟩, hTx⟩ hS (lv_sub hl [2, 3, 4, 5, 6] rfl)
