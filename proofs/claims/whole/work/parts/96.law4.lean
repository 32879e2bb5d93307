/-! the law, call by call -/
set_option maxRecDepth 100000 in
set_option maxHeartbeats 800000 in
theorem s_addMember_t1 {p : Program} {l : Launch} {e : Env} {s : State} {m : MethodId} {args : Array Value} {below : List Frame} {meth : Method} {c : Code} {H : Heap} {locs : List Loc} {ce7 sn7 : Nat} {Q : State → Prop} {g : GG} {b L xb r ob lim : Nat} {xs : Nat → Int32} {i9 : Nat} {ls : Array Slot} {q : Nat → Int32} {n : Nat} {rm sl sv tx : Nat → Int32} {ln : Nat} {zsp : Nat → Int32} {zth : Int32} {zsg : Nat → Int32} {zbg : Nat → Int32} {zwd : Nat → Int32} {zhg : Nat → Int32} {zin : Nat → Int32} {zop : Int32} {zbe : Int32} {zwi : Int32} {zhi : Int32} {zbk : Nat → Int32} {zot : Nat → Int32} {zer : Int32} {zen : Int32} {zpo : Nat → Int32} {zpi : Int32} {zgr : Int32} {zsh : Nat → Int32} {zsn : Int32} {o : Nat → Int64} (hfl : l.stackTraces = false) (hE : LE p s m meth c g b L xs xb r ob lim) (hi : 4 * i9 + 3 < L) (hC : CLS g xb lim q n rm sl sv tx ln H) (hR : ModAt g r q zsp rm (nI n) sl sv tx (nI ln) zth zsg zbg zwd zhg zin zop zbe zwi zhi zbk zot zer zen zpo zpi zgr zsh zsn H) (hO : at_ g H ob (eL g 1 o)) (hTx : TxT tx ln) (hS : va_S (fun q9 => xb ≤ q9) s.heap H locs) (hl : lv_has ls 7 [(0, .ref b), (1, .ref xb), (2, .ref r), (3, .ref ob), (4, .int (nI (4 * i9)))]) (hce7 : ce7 + 30 ≤ 622861) (hsn7 : sn7 + 1100 ≤ 7227521) (h5 : nmQ q = 5) (kk : ∀ (H1 : Heap) (locs1 : List Loc) (ls1 : Array Slot), LI g xb r ob lim q n rm sl sv tx ln H1 → va_S (fun q9 => xb ≤ q9) s.heap H1 locs1 → lv_has ls1 7 [(0, .ref b), (1, .ref xb), (2, .ref r), (3, .ref ob), (4, .int (nI (4 * i9)))] → W p l e room_1 s m args below meth c H1 locs1 (ce7 + 30) (sn7 + 1100) Q (F0 m 1803 ls1 [])) : W p l e room_1 s m args below meth c H locs ce7 sn7 Q (F0 m 753 ls []) := by
  obtain ⟨hB, hZ9, hX, hbl, hL9, hxs, hr9, hob9, hlm9⟩ := hE
  have hx := hB.x
  have hb := hB.b
  have hbA : ¬ (fun q9 => xb ≤ q9) b := fun y9 => by have y8 : xb ≤ b := y9; omega
  have hW := hC.wf
  have hn14 := hC.n14
  have hl6c := hC.l60
  have hnm5 := hW.2.2.1
  refine lv_aload_n hx hb dL_law_753 rfl (lv_at hl 1 rfl) ?_
  refine lv_aload_n hx hb dL_law_754 rfl (lv_at hl 3 rfl) ?_
  refine cw_137 (As := [.ref xb, .ref ob]) (rest := []) hB (hZ9.at hS (fun _ h9 => h9)) (w_addMember_t1 l g H xb lim q n rm sl sv tx ln ob o (hC) (hO) (h5) (⟨by omega, by omega⟩) (hfl)) rfl hl.1 (Nat.le_of_ble_eq_true rfl) dL_law_755 ⟨Nat.le_of_ble_eq_true rfl, Nat.le_of_ble_eq_true rfl⟩ ⟨by show (ce7) + 1 ≤ 622861; omega, by show (sn7) + 6 ≤ 7227521; omega⟩ hS (by have hz9 := hS.1; rintro q9 (h9 | h9) <;> first | exact h9.elim | (have h8 : r ≤ q9 ∧ q9 < r + 16 := h9; show xb ≤ q9; omega) | (have h8 : ((xb ≤ q9 ∧ q9 < xb + 68) ∨ lim ≤ q9) ∨ q9 = ob := h9; show xb ≤ q9; omega) | (have h8 : (xb ≤ q9 ∧ q9 < xb + 68) ∨ lim ≤ q9 := h9; show xb ≤ q9; omega) | (show xb ≤ q9; omega)) (fun v H1 locs hpo hfr hS => ?_)
  obtain ⟨rfl, hC, hO⟩ := hpo
  have hR := hR.keptF hfr (fun q9 h1 h2 y9 => by first | exact y9.elim | (have y8 : ((xb ≤ q9 ∧ q9 < xb + 68) ∨ lim ≤ q9) ∨ q9 = ob := y9; omega) | (have y8 : (xb ≤ q9 ∧ q9 < xb + 68) ∨ lim ≤ q9 := y9; omega))
  generalize H1 = H at hfr hS hR hX hC hO ⊢
  refine W.widen (k := ce7 + 1) (n := sn7 + 6) (by show (ce7) + 1 ≤ ce7 + 1; omega) (by show (sn7) + 6 ≤ sn7 + 6; omega) ?_
  refine lv_istore (lv' := [(5, .int (nI 1)), (0, .ref b), (1, .ref xb), (2, .ref r), (3, .ref ob), (4, .int (nI (4 * i9)))]) hx hb dL_law_758 hl (by decide) rfl (fun ls hl => ?_)
  refine lv_aload_n hx hb dL_law_760 rfl (lv_at hl 3 rfl) ?_
  refine cl_L_140 (As := []) (rest := []) hB (c_X11_addMember_t1 l g H r q zsp rm (nI n) sl sv tx (nI ln) zth zsg zbg zwd zhg zin zop zbe zwi zhi zbk zot zer zen zpo zpi zgr zsh zsn hR (by first | assumption | omega) (h5)) hR.o rfl hl.1 (Nat.le_of_ble_eq_true rfl) dL_law_761 ⟨Nat.le_of_ble_eq_true rfl, Nat.le_of_ble_eq_true rfl⟩ ⟨by show (ce7 + 1) + 0 ≤ 622861; omega, by show (sn7 + 6) + 0 ≤ 7227521; omega⟩ hS (by have hz9 := hS.1; rintro q9 (h9 | h9) <;> first | exact h9.elim | (have h8 : r ≤ q9 ∧ q9 < r + 16 := h9; show xb ≤ q9; omega) | (have h8 : ((xb ≤ q9 ∧ q9 < xb + 68) ∨ lim ≤ q9) ∨ q9 = ob := h9; show xb ≤ q9; omega) | (have h8 : (xb ≤ q9 ∧ q9 < xb + 68) ∨ lim ≤ q9 := h9; show xb ≤ q9; omega) | (show xb ≤ q9; omega)) (fun v H1 locs hpo hfr hS => ?_)
  obtain ⟨rfl, hR⟩ := hpo
  have hC := hC.keptM hfr (fun a9 y9 => by first | exact y9.elim | (have y8 : r ≤ a9 ∧ a9 < r + 16 := y9; omega))
  have hO := Fr.keep hfr hO (fun y9 => by first | exact y9.elim | (have y8 : r ≤ ob ∧ ob < r + 16 := y9; omega) | (have y8 : (xb ≤ ob ∧ ob < xb + 68) ∨ lim ≤ ob := y9; omega))
  generalize H1 = H at hfr hS hX hC hO hR ⊢
  refine W.widen (k := ce7 + 1) (n := sn7 + 6) (by show (ce7 + 1) + 0 ≤ ce7 + 1; omega) (by show (sn7 + 6) + 0 ≤ sn7 + 6; omega) ?_
  refine lv_istore (lv' := [(6, .int (nI 0)), (5, .int (nI 1)), (0, .ref b), (1, .ref xb), (2, .ref r), (3, .ref ob), (4, .int (nI (4 * i9)))]) hx hb dL_law_764 hl (by decide) rfl (fun ls hl => ?_)
  refine lv_aload_n hx hb dL_law_766 rfl (lv_at hl 4 rfl) ?_
  refine cl_L_102 (As := []) (rest := []) hB (c_X11_thrown l g H r q zsp rm (nI n) sl sv tx (nI ln) (nI 1) zsg zbg zwd zhg zin zop zbe zwi zhi zbk zot zer zen zpo zpi zgr zsh zsn hR) hR.o rfl hl.1 (Nat.le_of_ble_eq_true rfl) dL_law_767 ⟨Nat.le_of_ble_eq_true rfl, Nat.le_of_ble_eq_true rfl⟩ ⟨by show (ce7 + 1) + 0 ≤ 622861; omega, by show (sn7 + 6) + 0 ≤ 7227521; omega⟩ hS (by have hz9 := hS.1; rintro q9 (h9 | h9) <;> first | exact h9.elim | (have h8 : r ≤ q9 ∧ q9 < r + 16 := h9; show xb ≤ q9; omega) | (have h8 : ((xb ≤ q9 ∧ q9 < xb + 68) ∨ lim ≤ q9) ∨ q9 = ob := h9; show xb ≤ q9; omega) | (have h8 : (xb ≤ q9 ∧ q9 < xb + 68) ∨ lim ≤ q9 := h9; show xb ≤ q9; omega) | (show xb ≤ q9; omega)) (fun v H1 locs hpo hfr hS => ?_)
  obtain ⟨rfl, rfl⟩ := hpo
  refine W.widen (k := ce7 + 1) (n := sn7 + 6) (by show (ce7 + 1) + 0 ≤ ce7 + 1; omega) (by show (sn7 + 6) + 0 ≤ sn7 + 6; omega) ?_
  refine lv_iload hx hb dL_law_770 (lv_at hl 1 rfl) ?_
  refine lv_icmp_eq (tgt := 777) hx hb dL_law_772 (by decide) (fun h_772 => ?_) (fun h9 => absurd rfl h9)
  refine lv_iload hx hb dL_law_777 (lv_at hl 1 rfl) ?_
  refine mn_if_ne (tgt := 794) hB dL_law_779 (by decide) (by omega) (fun h_779 => ?_) (fun h => by exfalso; omega)
  refine lv_goto (tgt := 1803) hx hb dL_law_794 (by decide) ?_
  refine W.widen (k := ce7 + 30) (n := sn7 + 1100) (by omega) (by omega) ?_
  exact kk _ _ _ ⟨hC, ⟨_, _, _, _, _, _, _, _, _, _, _, _, _, _, _, _, _, _, _, _, hR⟩, ⟨_, hO⟩, hTx⟩ hS (lv_sub hl [2, 3, 4, 5, 6] rfl)

set_option maxRecDepth 100000 in
set_option maxHeartbeats 800000 in
theorem s_addMember_ok {p : Program} {l : Launch} {e : Env} {s : State} {m : MethodId} {args : Array Value} {below : List Frame} {meth : Method} {c : Code} {H : Heap} {locs : List Loc} {ce7 sn7 : Nat} {Q : State → Prop} {g : GG} {b L xb r ob lim : Nat} {xs : Nat → Int32} {i9 : Nat} {ls : Array Slot} {q : Nat → Int32} {n : Nat} {rm sl sv tx : Nat → Int32} {ln : Nat} {zsp : Nat → Int32} {zth : Int32} {zsg : Nat → Int32} {zbg : Nat → Int32} {zwd : Nat → Int32} {zhg : Nat → Int32} {zin : Nat → Int32} {zop : Int32} {zbe : Int32} {zwi : Int32} {zhi : Int32} {zbk : Nat → Int32} {zot : Nat → Int32} {zer : Int32} {zen : Int32} {zpo : Nat → Int32} {zpi : Int32} {zgr : Int32} {zsh : Nat → Int32} {zsn : Int32} {o : Nat → Int64} (hfl : l.stackTraces = false) (hE : LE p s m meth c g b L xs xb r ob lim) (hi : 4 * i9 + 3 < L) (hC : CLS g xb lim q n rm sl sv tx ln H) (hR : ModAt g r q zsp rm (nI n) sl sv tx (nI ln) zth zsg zbg zwd zhg zin zop zbe zwi zhi zbk zot zer zen zpo zpi zgr zsh zsn H) (hO : at_ g H ob (eL g 1 o)) (hTx : TxT tx ln) (hS : va_S (fun q9 => xb ≤ q9) s.heap H locs) (hl : lv_has ls 7 [(0, .ref b), (1, .ref xb), (2, .ref r), (3, .ref ob), (4, .int (nI (4 * i9)))]) (hce7 : ce7 + 30 ≤ 622861) (hsn7 : sn7 + 1100 ≤ 7227521) (h5 : nmQ q < 5) (kk : ∀ (H1 : Heap) (locs1 : List Loc) (ls1 : Array Slot), LI g xb r ob lim (upd q 0 (nI (nmQ q + 1))) (nxtS n) (remA rm n q) sl sv tx ln H1 → va_S (fun q9 => xb ≤ q9) s.heap H1 locs1 → lv_has ls1 7 [(0, .ref b), (1, .ref xb), (2, .ref r), (3, .ref ob), (4, .int (nI (4 * i9)))] → W p l e room_1 s m args below meth c H1 locs1 (ce7 + 30) (sn7 + 1100) Q (F0 m 1803 ls1 [])) : W p l e room_1 s m args below meth c H locs ce7 sn7 Q (F0 m 753 ls []) := by
  obtain ⟨hB, hZ9, hX, hbl, hL9, hxs, hr9, hob9, hlm9⟩ := hE
  have hx := hB.x
  have hb := hB.b
  have hbA : ¬ (fun q9 => xb ≤ q9) b := fun y9 => by have y8 : xb ≤ b := y9; omega
  have hW := hC.wf
  have hn14 := hC.n14
  have hl6c := hC.l60
  have hnm5 := hW.2.2.1
  refine lv_aload_n hx hb dL_law_753 rfl (lv_at hl 1 rfl) ?_
  refine lv_aload_n hx hb dL_law_754 rfl (lv_at hl 3 rfl) ?_
  refine cw_137 (As := [.ref xb, .ref ob]) (rest := []) hB (hZ9.at hS (fun _ h9 => h9)) (w_addMember_ok l g H xb lim q n rm sl sv tx ln ob o (hC) (hO) (h5) (⟨by omega, by omega⟩) (hfl)) rfl hl.1 (Nat.le_of_ble_eq_true rfl) dL_law_755 ⟨Nat.le_of_ble_eq_true rfl, Nat.le_of_ble_eq_true rfl⟩ ⟨by show (ce7) + 26 ≤ 622861; omega, by show (sn7) + 126 ≤ 7227521; omega⟩ hS (by have hz9 := hS.1; rintro q9 (h9 | h9) <;> first | exact h9.elim | (have h8 : r ≤ q9 ∧ q9 < r + 16 := h9; show xb ≤ q9; omega) | (have h8 : ((xb ≤ q9 ∧ q9 < xb + 68) ∨ lim ≤ q9) ∨ q9 = ob := h9; show xb ≤ q9; omega) | (have h8 : (xb ≤ q9 ∧ q9 < xb + 68) ∨ lim ≤ q9 := h9; show xb ≤ q9; omega) | (show xb ≤ q9; omega)) (fun v H1 locs hpo hfr hS => ?_)
  obtain ⟨rfl, hC, hO⟩ := hpo
  have hR := hR.keptF hfr (fun q9 h1 h2 y9 => by first | exact y9.elim | (have y8 : ((xb ≤ q9 ∧ q9 < xb + 68) ∨ lim ≤ q9) ∨ q9 = ob := y9; omega) | (have y8 : (xb ≤ q9 ∧ q9 < xb + 68) ∨ lim ≤ q9 := y9; omega))
  generalize H1 = H at hfr hS hR hX hC hO ⊢
  refine W.widen (k := ce7 + 26) (n := sn7 + 126) (by show (ce7) + 26 ≤ ce7 + 26; omega) (by show (sn7) + 126 ≤ sn7 + 126; omega) ?_
  refine lv_istore (lv' := [(5, .int (nI 0)), (0, .ref b), (1, .ref xb), (2, .ref r), (3, .ref ob), (4, .int (nI (4 * i9)))]) hx hb dL_law_758 hl (by decide) rfl (fun ls hl => ?_)
  refine lv_aload_n hx hb dL_law_760 rfl (lv_at hl 3 rfl) ?_
  refine cl_L_140 (As := []) (rest := []) hB (c_X11_addMember l g H r q zsp rm sl sv tx (nI ln) zth zsg zbg zwd zhg zin zop zbe zwi zhi zbk zot zer zen zpo zpi zgr zsh zsn n hR (by first | assumption | omega) (by first | assumption | omega) (h5)) hR.o rfl hl.1 (Nat.le_of_ble_eq_true rfl) dL_law_761 ⟨Nat.le_of_ble_eq_true rfl, Nat.le_of_ble_eq_true rfl⟩ ⟨by show (ce7 + 26) + 0 ≤ 622861; omega, by show (sn7 + 126) + 0 ≤ 7227521; omega⟩ hS (by have hz9 := hS.1; rintro q9 (h9 | h9) <;> first | exact h9.elim | (have h8 : r ≤ q9 ∧ q9 < r + 16 := h9; show xb ≤ q9; omega) | (have h8 : ((xb ≤ q9 ∧ q9 < xb + 68) ∨ lim ≤ q9) ∨ q9 = ob := h9; show xb ≤ q9; omega) | (have h8 : (xb ≤ q9 ∧ q9 < xb + 68) ∨ lim ≤ q9 := h9; show xb ≤ q9; omega) | (show xb ≤ q9; omega)) (fun v H1 locs hpo hfr hS => ?_)
  obtain ⟨rfl, hR⟩ := hpo
  have hC := hC.keptM hfr (fun a9 y9 => by first | exact y9.elim | (have y8 : r ≤ a9 ∧ a9 < r + 16 := y9; omega))
  have hO := Fr.keep hfr hO (fun y9 => by first | exact y9.elim | (have y8 : r ≤ ob ∧ ob < r + 16 := y9; omega) | (have y8 : (xb ≤ ob ∧ ob < xb + 68) ∨ lim ≤ ob := y9; omega))
  generalize H1 = H at hfr hS hX hC hO hR ⊢
  refine W.widen (k := ce7 + 26) (n := sn7 + 126) (by show (ce7 + 26) + 0 ≤ ce7 + 26; omega) (by show (sn7 + 126) + 0 ≤ sn7 + 126; omega) ?_
  refine mh_top (y := .int (nI (nmQ q))) (by rw [Nat.add_sub_cancel]) ?_
  refine lv_istore (lv' := [(6, .int (nI (nmQ q))), (5, .int (nI 0)), (0, .ref b), (1, .ref xb), (2, .ref r), (3, .ref ob), (4, .int (nI (4 * i9)))]) hx hb dL_law_764 hl (by decide) rfl (fun ls hl => ?_)
  refine lv_aload_n hx hb dL_law_766 rfl (lv_at hl 4 rfl) ?_
  refine cl_L_102 (As := []) (rest := []) hB (c_X11_thrown l g H r (upd q 0 (nI (nmQ q + 1))) zsp (remA rm n q) (nI (nxtS n)) sl sv tx (nI ln) (nI 0) zsg zbg zwd zhg zin zop zbe zwi zhi zbk zot zer zen zpo zpi zgr zsh zsn hR) hR.o rfl hl.1 (Nat.le_of_ble_eq_true rfl) dL_law_767 ⟨Nat.le_of_ble_eq_true rfl, Nat.le_of_ble_eq_true rfl⟩ ⟨by show (ce7 + 26) + 0 ≤ 622861; omega, by show (sn7 + 126) + 0 ≤ 7227521; omega⟩ hS (by have hz9 := hS.1; rintro q9 (h9 | h9) <;> first | exact h9.elim | (have h8 : r ≤ q9 ∧ q9 < r + 16 := h9; show xb ≤ q9; omega) | (have h8 : ((xb ≤ q9 ∧ q9 < xb + 68) ∨ lim ≤ q9) ∨ q9 = ob := h9; show xb ≤ q9; omega) | (have h8 : (xb ≤ q9 ∧ q9 < xb + 68) ∨ lim ≤ q9 := h9; show xb ≤ q9; omega) | (show xb ≤ q9; omega)) (fun v H1 locs hpo hfr hS => ?_)
  obtain ⟨rfl, rfl⟩ := hpo
  refine W.widen (k := ce7 + 26) (n := sn7 + 126) (by show (ce7 + 26) + 0 ≤ ce7 + 26; omega) (by show (sn7 + 126) + 0 ≤ sn7 + 126; omega) ?_
  refine lv_iload hx hb dL_law_770 (lv_at hl 1 rfl) ?_
  refine lv_icmp_eq (tgt := 777) hx hb dL_law_772 (by decide) (fun h_772 => ?_) (fun h9 => absurd rfl h9)
  refine lv_iload hx hb dL_law_777 (lv_at hl 1 rfl) ?_
  refine mn_if_ne (tgt := 794) hB dL_law_779 (by decide) (by omega) (fun h => by exfalso; omega) (fun h_779 => ?_)
  refine lv_aload_n hx hb dL_law_782 rfl (lv_at hl 5 rfl) ?_
  refine lv_iconst (v := nI 0) hx hb dL_law_783 (by decide) ?_
  refine mn_lald hB hO (by omega) (by omega) dL_law_784 ?_
  refine mh_top (y := .long ((nI (nmQ q)).toInt64)) (rfl) ?_
  refine lv_iload hx hb dL_law_785 (lv_at hl 0 rfl) ?_
  refine lv_i2l (v := (nI (nmQ q)).toInt64) hx hb dL_law_787 rfl ?_
  refine W.lcmp hx hb dL_law_788 ?_
  refine ml_if_eq (tgt := 794) hB dL_law_789 (by decide) (fun h_789 => ?_) (fun h => absurd rfl h)
  refine lv_goto (tgt := 1803) hx hb dL_law_794 (by decide) ?_
  refine W.widen (k := ce7 + 30) (n := sn7 + 1100) (by omega) (by omega) ?_
  exact kk _ _ _ ⟨hC, ⟨_, _, _, _, _, _, _, _, _, _, _, _, _, _, _, _, _, _, _, _, hR⟩, ⟨_, hO⟩, hTx⟩ hS (lv_sub hl [2, 3, 4, 5, 6] rfl)

set_option maxRecDepth 100000 in
set_option maxHeartbeats 800000 in
theorem s_give_t1 {p : Program} {l : Launch} {e : Env} {s : State} {m : MethodId} {args : Array Value} {below : List Frame} {meth : Method} {c : Code} {H : Heap} {locs : List Loc} {ce7 sn7 : Nat} {Q : State → Prop} {g : GG} {b L xb r ob lim : Nat} {xs : Nat → Int32} {i9 : Nat} {ls : Array Slot} {q : Nat → Int32} {n : Nat} {rm sl sv tx : Nat → Int32} {ln : Nat} {zsp : Nat → Int32} {zth : Int32} {zsg : Nat → Int32} {zbg : Nat → Int32} {zwd : Nat → Int32} {zhg : Nat → Int32} {zin : Nat → Int32} {zop : Int32} {zbe : Int32} {zwi : Int32} {zhi : Int32} {zbk : Nat → Int32} {zot : Nat → Int32} {zer : Int32} {zen : Int32} {zpo : Nat → Int32} {zpi : Int32} {zgr : Int32} {zsh : Nat → Int32} {zsn : Int32} {o : Nat → Int64} (hfl : l.stackTraces = false) (hE : LE p s m meth c g b L xs xb r ob lim) (hi : 4 * i9 + 3 < L) (hC : CLS g xb lim q n rm sl sv tx ln H) (hR : ModAt g r q zsp rm (nI n) sl sv tx (nI ln) zth zsg zbg zwd zhg zin zop zbe zwi zhi zbk zot zer zen zpo zpi zgr zsh zsn H) (hO : at_ g H ob (eL g 1 o)) (hTx : TxT tx ln) (hS : va_S (fun q9 => xb ≤ q9) s.heap H locs) (hl : lv_has ls 7 [(0, .ref b), (1, .ref xb), (2, .ref r), (3, .ref ob), (4, .int (nI (4 * i9)))]) (hce7 : ce7 + 30 ≤ 622861) (hsn7 : sn7 + 1100 ≤ 7227521) (x : Int32) (y : Int32) (z : Int32) (a1 : xs (4 * i9 + 1) = x) (a2 : xs (4 * i9 + 2) = y) (a3 : xs (4 * i9 + 3) = z) (hx1 : isIx x (nmQ q) = false) (kk : ∀ (H1 : Heap) (locs1 : List Loc) (ls1 : Array Slot), LI g xb r ob lim q n rm sl sv tx ln H1 → va_S (fun q9 => xb ≤ q9) s.heap H1 locs1 → lv_has ls1 7 [(0, .ref b), (1, .ref xb), (2, .ref r), (3, .ref ob), (4, .int (nI (4 * i9)))] → W p l e room_1 s m args below meth c H1 locs1 (ce7 + 30) (sn7 + 1100) Q (F0 m 1803 ls1 [])) : W p l e room_1 s m args below meth c H locs ce7 sn7 Q (F0 m 797 ls []) := by
  obtain ⟨hB, hZ9, hX, hbl, hL9, hxs, hr9, hob9, hlm9⟩ := hE
  have hx := hB.x
  have hb := hB.b
  have hbA : ¬ (fun q9 => xb ≤ q9) b := fun y9 => by have y8 : xb ≤ b := y9; omega
  have hW := hC.wf
  have hn14 := hC.n14
  have hl6c := hC.l60
  have hnm5 := hW.2.2.1
  refine lv_aload_n hx hb dL_law_797 rfl (lv_at hl 1 rfl) ?_
  refine lv_aload_n hx hb dL_law_798 rfl (lv_at hl 0 rfl) ?_
  refine lv_iload hx hb dL_law_799 (lv_at hl 4 rfl) ?_
  refine lv_iconst (v := nI 1) hx hb dL_law_801 (by decide) ?_
  refine mn_iadd hB dL_law_802 ?_
  refine va_sld hx hb hX hbl hbA hS (vp_in_nI (by omega) (by omega)) dL_law_803 ?_
  refine mh_top (y := .int x) (by rw [nI_clamp (by omega), a1]) ?_
  refine lv_aload_n hx hb dL_law_804 rfl (lv_at hl 0 rfl) ?_
  refine lv_iload hx hb dL_law_805 (lv_at hl 4 rfl) ?_
  refine lv_iconst (v := nI 2) hx hb dL_law_807 (by decide) ?_
  refine mn_iadd hB dL_law_808 ?_
  refine va_sld hx hb hX hbl hbA hS (vp_in_nI (by omega) (by omega)) dL_law_809 ?_
  refine mh_top (y := .int y) (by rw [nI_clamp (by omega), a2]) ?_
  refine lv_aload_n hx hb dL_law_810 rfl (lv_at hl 0 rfl) ?_
  refine lv_iload hx hb dL_law_811 (lv_at hl 4 rfl) ?_
  refine lv_iconst (v := nI 3) hx hb dL_law_813 (by decide) ?_
  refine mn_iadd hB dL_law_814 ?_
  refine va_sld hx hb hX hbl hbA hS (vp_in_nI (by omega) (by omega)) dL_law_815 ?_
  refine mh_top (y := .int z) (by rw [nI_clamp (by omega), a3]) ?_
  refine lv_aload_n hx hb dL_law_816 rfl (lv_at hl 3 rfl) ?_
  refine cw_141 (As := [.ref xb, .int x, .int y, .int z, .ref ob]) (rest := []) hB (hZ9.at hS (fun _ h9 => h9)) (w_give_t1 l g H xb lim q n rm sl sv tx ln x y z ob o (hC) (hO) (hx1) (⟨by omega, by omega⟩) (hfl)) rfl hl.1 (Nat.le_of_ble_eq_true rfl) dL_law_817 ⟨Nat.le_of_ble_eq_true rfl, Nat.le_of_ble_eq_true rfl⟩ ⟨by show (ce7) + 1 ≤ 622861; omega, by show (sn7) + 6 ≤ 7227521; omega⟩ hS (by have hz9 := hS.1; rintro q9 (h9 | h9) <;> first | exact h9.elim | (have h8 : r ≤ q9 ∧ q9 < r + 16 := h9; show xb ≤ q9; omega) | (have h8 : ((xb ≤ q9 ∧ q9 < xb + 68) ∨ lim ≤ q9) ∨ q9 = ob := h9; show xb ≤ q9; omega) | (have h8 : (xb ≤ q9 ∧ q9 < xb + 68) ∨ lim ≤ q9 := h9; show xb ≤ q9; omega) | (show xb ≤ q9; omega)) (fun v H1 locs hpo hfr hS => ?_)
  obtain ⟨rfl, hC, hO⟩ := hpo
  have hR := hR.keptF hfr (fun q9 h1 h2 y9 => by first | exact y9.elim | (have y8 : ((xb ≤ q9 ∧ q9 < xb + 68) ∨ lim ≤ q9) ∨ q9 = ob := y9; omega) | (have y8 : (xb ≤ q9 ∧ q9 < xb + 68) ∨ lim ≤ q9 := y9; omega))
  generalize H1 = H at hfr hS hR hX hC hO ⊢
  refine W.widen (k := ce7 + 1) (n := sn7 + 6) (by show (ce7) + 1 ≤ ce7 + 1; omega) (by show (sn7) + 6 ≤ sn7 + 6; omega) ?_
  refine lv_istore (lv' := [(5, .int (nI 1)), (0, .ref b), (1, .ref xb), (2, .ref r), (3, .ref ob), (4, .int (nI (4 * i9)))]) hx hb dL_law_820 hl (by decide) rfl (fun ls hl => ?_)
  refine lv_aload_n hx hb dL_law_822 rfl (lv_at hl 3 rfl) ?_
  refine lv_aload_n hx hb dL_law_823 rfl (lv_at hl 1 rfl) ?_
  refine lv_iload hx hb dL_law_824 (lv_at hl 5 rfl) ?_
  refine lv_iconst (v := nI 1) hx hb dL_law_826 (by decide) ?_
  refine mn_iadd hB dL_law_827 ?_
  refine va_sld hx hb hX hbl hbA hS (vp_in_nI (by omega) (by omega)) dL_law_828 ?_
  refine mh_top (y := .int x) (by rw [nI_clamp (by omega), a1]) ?_
  refine lv_aload_n hx hb dL_law_829 rfl (lv_at hl 1 rfl) ?_
  refine lv_iload hx hb dL_law_830 (lv_at hl 5 rfl) ?_
  refine lv_iconst (v := nI 2) hx hb dL_law_832 (by decide) ?_
  refine mn_iadd hB dL_law_833 ?_
  refine va_sld hx hb hX hbl hbA hS (vp_in_nI (by omega) (by omega)) dL_law_834 ?_
  refine mh_top (y := .int y) (by rw [nI_clamp (by omega), a2]) ?_
  refine lv_aload_n hx hb dL_law_835 rfl (lv_at hl 1 rfl) ?_
  refine lv_iload hx hb dL_law_836 (lv_at hl 5 rfl) ?_
  refine lv_iconst (v := nI 3) hx hb dL_law_838 (by decide) ?_
  refine mn_iadd hB dL_law_839 ?_
  refine va_sld hx hb hX hbl hbA hS (vp_in_nI (by omega) (by omega)) dL_law_840 ?_
  refine mh_top (y := .int z) (by rw [nI_clamp (by omega), a3]) ?_
  refine cl_L_143 (As := [.int x, .int y, .int z]) (rest := []) hB (c_X11_give_t1 l g H r q zsp rm (nI n) sl sv tx (nI ln) zth zsg zbg zwd zhg zin zop zbe zwi zhi zbk zot zer zen zpo zpi zgr zsh zsn x y z hR (by first | assumption | omega) (Or.inl hx1)) hR.o rfl hl.1 (Nat.le_of_ble_eq_true rfl) dL_law_841 ⟨Nat.le_of_ble_eq_true rfl, Nat.le_of_ble_eq_true rfl⟩ ⟨by show (ce7 + 1) + 0 ≤ 622861; omega, by show (sn7 + 6) + 0 ≤ 7227521; omega⟩ hS (by have hz9 := hS.1; rintro q9 (h9 | h9) <;> first | exact h9.elim | (have h8 : r ≤ q9 ∧ q9 < r + 16 := h9; show xb ≤ q9; omega) | (have h8 : ((xb ≤ q9 ∧ q9 < xb + 68) ∨ lim ≤ q9) ∨ q9 = ob := h9; show xb ≤ q9; omega) | (have h8 : (xb ≤ q9 ∧ q9 < xb + 68) ∨ lim ≤ q9 := h9; show xb ≤ q9; omega) | (show xb ≤ q9; omega)) (fun v H1 locs hpo hfr hS => ?_)
  obtain ⟨rfl, hR⟩ := hpo
  have hC := hC.keptM hfr (fun a9 y9 => by first | exact y9.elim | (have y8 : r ≤ a9 ∧ a9 < r + 16 := y9; omega))
  have hO := Fr.keep hfr hO (fun y9 => by first | exact y9.elim | (have y8 : r ≤ ob ∧ ob < r + 16 := y9; omega) | (have y8 : (xb ≤ ob ∧ ob < xb + 68) ∨ lim ≤ ob := y9; omega))
  generalize H1 = H at hfr hS hX hC hO hR ⊢
  refine W.widen (k := ce7 + 1) (n := sn7 + 6) (by show (ce7 + 1) + 0 ≤ ce7 + 1; omega) (by show (sn7 + 6) + 0 ≤ sn7 + 6; omega) ?_
  refine lv_istore (lv' := [(6, .int (nI 0)), (5, .int (nI 1)), (0, .ref b), (1, .ref xb), (2, .ref r), (3, .ref ob), (4, .int (nI (4 * i9)))]) hx hb dL_law_844 hl (by decide) rfl (fun ls hl => ?_)
  refine lv_aload_n hx hb dL_law_846 rfl (lv_at hl 4 rfl) ?_
  refine cl_L_102 (As := []) (rest := []) hB (c_X11_thrown l g H r q zsp rm (nI n) sl sv tx (nI ln) (nI 1) zsg zbg zwd zhg zin zop zbe zwi zhi zbk zot zer zen zpo zpi zgr zsh zsn hR) hR.o rfl hl.1 (Nat.le_of_ble_eq_true rfl) dL_law_847 ⟨Nat.le_of_ble_eq_true rfl, Nat.le_of_ble_eq_true rfl⟩ ⟨by show (ce7 + 1) + 0 ≤ 622861; omega, by show (sn7 + 6) + 0 ≤ 7227521; omega⟩ hS (by have hz9 := hS.1; rintro q9 (h9 | h9) <;> first | exact h9.elim | (have h8 : r ≤ q9 ∧ q9 < r + 16 := h9; show xb ≤ q9; omega) | (have h8 : ((xb ≤ q9 ∧ q9 < xb + 68) ∨ lim ≤ q9) ∨ q9 = ob := h9; show xb ≤ q9; omega) | (have h8 : (xb ≤ q9 ∧ q9 < xb + 68) ∨ lim ≤ q9 := h9; show xb ≤ q9; omega) | (show xb ≤ q9; omega)) (fun v H1 locs hpo hfr hS => ?_)
  obtain ⟨rfl, rfl⟩ := hpo
  refine W.widen (k := ce7 + 1) (n := sn7 + 6) (by show (ce7 + 1) + 0 ≤ ce7 + 1; omega) (by show (sn7 + 6) + 0 ≤ sn7 + 6; omega) ?_
  refine lv_iload hx hb dL_law_850 (lv_at hl 1 rfl) ?_
  refine lv_icmp_eq (tgt := 857) hx hb dL_law_852 (by decide) (fun h_852 => ?_) (fun h9 => absurd rfl h9)
  refine lv_iload hx hb dL_law_857 (lv_at hl 1 rfl) ?_
  refine mn_if_ne (tgt := 874) hB dL_law_859 (by decide) (by omega) (fun h_859 => ?_) (fun h => by exfalso; omega)
  refine lv_goto (tgt := 1803) hx hb dL_law_874 (by decide) ?_
  refine W.widen (k := ce7 + 30) (n := sn7 + 1100) (by omega) (by omega) ?_
  exact kk _ _ _ ⟨hC, ⟨_, _, _, _, _, _, _, _, _, _, _, _, _, _, _, _, _, _, _, _, hR⟩, ⟨_, hO⟩, hTx⟩ hS (lv_sub hl [2, 3, 4, 5, 6] rfl)

set_option maxRecDepth 100000 in
set_option maxHeartbeats 800000 in
theorem s_give_t1b {p : Program} {l : Launch} {e : Env} {s : State} {m : MethodId} {args : Array Value} {below : List Frame} {meth : Method} {c : Code} {H : Heap} {locs : List Loc} {ce7 sn7 : Nat} {Q : State → Prop} {g : GG} {b L xb r ob lim : Nat} {xs : Nat → Int32} {i9 : Nat} {ls : Array Slot} {q : Nat → Int32} {n : Nat} {rm sl sv tx : Nat → Int32} {ln : Nat} {zsp : Nat → Int32} {zth : Int32} {zsg : Nat → Int32} {zbg : Nat → Int32} {zwd : Nat → Int32} {zhg : Nat → Int32} {zin : Nat → Int32} {zop : Int32} {zbe : Int32} {zwi : Int32} {zhi : Int32} {zbk : Nat → Int32} {zot : Nat → Int32} {zer : Int32} {zen : Int32} {zpo : Nat → Int32} {zpi : Int32} {zgr : Int32} {zsh : Nat → Int32} {zsn : Int32} {o : Nat → Int64} (hfl : l.stackTraces = false) (hE : LE p s m meth c g b L xs xb r ob lim) (hi : 4 * i9 + 3 < L) (hC : CLS g xb lim q n rm sl sv tx ln H) (hR : ModAt g r q zsp rm (nI n) sl sv tx (nI ln) zth zsg zbg zwd zhg zin zop zbe zwi zhi zbk zot zer zen zpo zpi zgr zsh zsn H) (hO : at_ g H ob (eL g 1 o)) (hTx : TxT tx ln) (hS : va_S (fun q9 => xb ≤ q9) s.heap H locs) (hl : lv_has ls 7 [(0, .ref b), (1, .ref xb), (2, .ref r), (3, .ref ob), (4, .int (nI (4 * i9)))]) (hce7 : ce7 + 30 ≤ 622861) (hsn7 : sn7 + 1100 ≤ 7227521) (k : Nat) (y : Int32) (z : Int32) (a1 : xs (4 * i9 + 1) = nI k) (a2 : xs (4 * i9 + 2) = y) (a3 : xs (4 * i9 + 3) = z) (hk : k < nmQ q) (hx1 : isIx y 6 = false) (kk : ∀ (H1 : Heap) (locs1 : List Loc) (ls1 : Array Slot), LI g xb r ob lim q n rm sl sv tx ln H1 → va_S (fun q9 => xb ≤ q9) s.heap H1 locs1 → lv_has ls1 7 [(0, .ref b), (1, .ref xb), (2, .ref r), (3, .ref ob), (4, .int (nI (4 * i9)))] → W p l e room_1 s m args below meth c H1 locs1 (ce7 + 30) (sn7 + 1100) Q (F0 m 1803 ls1 [])) : W p l e room_1 s m args below meth c H locs ce7 sn7 Q (F0 m 797 ls []) := by
  obtain ⟨hB, hZ9, hX, hbl, hL9, hxs, hr9, hob9, hlm9⟩ := hE
  have hx := hB.x
  have hb := hB.b
  have hbA : ¬ (fun q9 => xb ≤ q9) b := fun y9 => by have y8 : xb ≤ b := y9; omega
  have hW := hC.wf
  have hn14 := hC.n14
  have hl6c := hC.l60
  have hnm5 := hW.2.2.1
  refine lv_aload_n hx hb dL_law_797 rfl (lv_at hl 1 rfl) ?_
  refine lv_aload_n hx hb dL_law_798 rfl (lv_at hl 0 rfl) ?_
  refine lv_iload hx hb dL_law_799 (lv_at hl 4 rfl) ?_
  refine lv_iconst (v := nI 1) hx hb dL_law_801 (by decide) ?_
  refine mn_iadd hB dL_law_802 ?_
  refine va_sld hx hb hX hbl hbA hS (vp_in_nI (by omega) (by omega)) dL_law_803 ?_
  refine mh_top (y := .int (nI k)) (by rw [nI_clamp (by omega), a1]) ?_
  refine lv_aload_n hx hb dL_law_804 rfl (lv_at hl 0 rfl) ?_
  refine lv_iload hx hb dL_law_805 (lv_at hl 4 rfl) ?_
  refine lv_iconst (v := nI 2) hx hb dL_law_807 (by decide) ?_
  refine mn_iadd hB dL_law_808 ?_
  refine va_sld hx hb hX hbl hbA hS (vp_in_nI (by omega) (by omega)) dL_law_809 ?_
  refine mh_top (y := .int y) (by rw [nI_clamp (by omega), a2]) ?_
  refine lv_aload_n hx hb dL_law_810 rfl (lv_at hl 0 rfl) ?_
  refine lv_iload hx hb dL_law_811 (lv_at hl 4 rfl) ?_
  refine lv_iconst (v := nI 3) hx hb dL_law_813 (by decide) ?_
  refine mn_iadd hB dL_law_814 ?_
  refine va_sld hx hb hX hbl hbA hS (vp_in_nI (by omega) (by omega)) dL_law_815 ?_
  refine mh_top (y := .int z) (by rw [nI_clamp (by omega), a3]) ?_
  refine lv_aload_n hx hb dL_law_816 rfl (lv_at hl 3 rfl) ?_
  refine cw_141 (As := [.ref xb, .int (nI k), .int y, .int z, .ref ob]) (rest := []) hB (hZ9.at hS (fun _ h9 => h9)) (w_give_t1b l g H xb lim q n rm sl sv tx ln k y z ob o (hC) (hO) (hk) (hx1) (⟨by omega, by omega⟩) (hfl)) rfl hl.1 (Nat.le_of_ble_eq_true rfl) dL_law_817 ⟨Nat.le_of_ble_eq_true rfl, Nat.le_of_ble_eq_true rfl⟩ ⟨by show (ce7) + 1 ≤ 622861; omega, by show (sn7) + 6 ≤ 7227521; omega⟩ hS (by have hz9 := hS.1; rintro q9 (h9 | h9) <;> first | exact h9.elim | (have h8 : r ≤ q9 ∧ q9 < r + 16 := h9; show xb ≤ q9; omega) | (have h8 : ((xb ≤ q9 ∧ q9 < xb + 68) ∨ lim ≤ q9) ∨ q9 = ob := h9; show xb ≤ q9; omega) | (have h8 : (xb ≤ q9 ∧ q9 < xb + 68) ∨ lim ≤ q9 := h9; show xb ≤ q9; omega) | (show xb ≤ q9; omega)) (fun v H1 locs hpo hfr hS => ?_)
  obtain ⟨rfl, hC, hO⟩ := hpo
  have hR := hR.keptF hfr (fun q9 h1 h2 y9 => by first | exact y9.elim | (have y8 : ((xb ≤ q9 ∧ q9 < xb + 68) ∨ lim ≤ q9) ∨ q9 = ob := y9; omega) | (have y8 : (xb ≤ q9 ∧ q9 < xb + 68) ∨ lim ≤ q9 := y9; omega))
  generalize H1 = H at hfr hS hR hX hC hO ⊢
  refine W.widen (k := ce7 + 1) (n := sn7 + 6) (by show (ce7) + 1 ≤ ce7 + 1; omega) (by show (sn7) + 6 ≤ sn7 + 6; omega) ?_
  refine lv_istore (lv' := [(5, .int (nI 1)), (0, .ref b), (1, .ref xb), (2, .ref r), (3, .ref ob), (4, .int (nI (4 * i9)))]) hx hb dL_law_820 hl (by decide) rfl (fun ls hl => ?_)
  refine lv_aload_n hx hb dL_law_822 rfl (lv_at hl 3 rfl) ?_
  refine lv_aload_n hx hb dL_law_823 rfl (lv_at hl 1 rfl) ?_
  refine lv_iload hx hb dL_law_824 (lv_at hl 5 rfl) ?_
  refine lv_iconst (v := nI 1) hx hb dL_law_826 (by decide) ?_
  refine mn_iadd hB dL_law_827 ?_
  refine va_sld hx hb hX hbl hbA hS (vp_in_nI (by omega) (by omega)) dL_law_828 ?_
  refine mh_top (y := .int (nI k)) (by rw [nI_clamp (by omega), a1]) ?_
  refine lv_aload_n hx hb dL_law_829 rfl (lv_at hl 1 rfl) ?_
  refine lv_iload hx hb dL_law_830 (lv_at hl 5 rfl) ?_
  refine lv_iconst (v := nI 2) hx hb dL_law_832 (by decide) ?_
  refine mn_iadd hB dL_law_833 ?_
  refine va_sld hx hb hX hbl hbA hS (vp_in_nI (by omega) (by omega)) dL_law_834 ?_
  refine mh_top (y := .int y) (by rw [nI_clamp (by omega), a2]) ?_
  refine lv_aload_n hx hb dL_law_835 rfl (lv_at hl 1 rfl) ?_
  refine lv_iload hx hb dL_law_836 (lv_at hl 5 rfl) ?_
  refine lv_iconst (v := nI 3) hx hb dL_law_838 (by decide) ?_
  refine mn_iadd hB dL_law_839 ?_
  refine va_sld hx hb hX hbl hbA hS (vp_in_nI (by omega) (by omega)) dL_law_840 ?_
  refine mh_top (y := .int z) (by rw [nI_clamp (by omega), a3]) ?_
  refine cl_L_143 (As := [.int (nI k), .int y, .int z]) (rest := []) hB (c_X11_give_t1 l g H r q zsp rm (nI n) sl sv tx (nI ln) zth zsg zbg zwd zhg zin zop zbe zwi zhi zbk zot zer zen zpo zpi zgr zsh zsn (nI k) y z hR (by first | assumption | omega) (Or.inr hx1)) hR.o rfl hl.1 (Nat.le_of_ble_eq_true rfl) dL_law_841 ⟨Nat.le_of_ble_eq_true rfl, Nat.le_of_ble_eq_true rfl⟩ ⟨by show (ce7 + 1) + 0 ≤ 622861; omega, by show (sn7 + 6) + 0 ≤ 7227521; omega⟩ hS (by have hz9 := hS.1; rintro q9 (h9 | h9) <;> first | exact h9.elim | (have h8 : r ≤ q9 ∧ q9 < r + 16 := h9; show xb ≤ q9; omega) | (have h8 : ((xb ≤ q9 ∧ q9 < xb + 68) ∨ lim ≤ q9) ∨ q9 = ob := h9; show xb ≤ q9; omega) | (have h8 : (xb ≤ q9 ∧ q9 < xb + 68) ∨ lim ≤ q9 := h9; show xb ≤ q9; omega) | (show xb ≤ q9; omega)) (fun v H1 locs hpo hfr hS => ?_)
  obtain ⟨rfl, hR⟩ := hpo
  have hC := hC.keptM hfr (fun a9 y9 => by first | exact y9.elim | (have y8 : r ≤ a9 ∧ a9 < r + 16 := y9; omega))
  have hO := Fr.keep hfr hO (fun y9 => by first | exact y9.elim | (have y8 : r ≤ ob ∧ ob < r + 16 := y9; omega) | (have y8 : (xb ≤ ob ∧ ob < xb + 68) ∨ lim ≤ ob := y9; omega))
  generalize H1 = H at hfr hS hX hC hO hR ⊢
  refine W.widen (k := ce7 + 1) (n := sn7 + 6) (by show (ce7 + 1) + 0 ≤ ce7 + 1; omega) (by show (sn7 + 6) + 0 ≤ sn7 + 6; omega) ?_
  refine lv_istore (lv' := [(6, .int (nI 0)), (5, .int (nI 1)), (0, .ref b), (1, .ref xb), (2, .ref r), (3, .ref ob), (4, .int (nI (4 * i9)))]) hx hb dL_law_844 hl (by decide) rfl (fun ls hl => ?_)
  refine lv_aload_n hx hb dL_law_846 rfl (lv_at hl 4 rfl) ?_
  refine cl_L_102 (As := []) (rest := []) hB (c_X11_thrown l g H r q zsp rm (nI n) sl sv tx (nI ln) (nI 1) zsg zbg zwd zhg zin zop zbe zwi zhi zbk zot zer zen zpo zpi zgr zsh zsn hR) hR.o rfl hl.1 (Nat.le_of_ble_eq_true rfl) dL_law_847 ⟨Nat.le_of_ble_eq_true rfl, Nat.le_of_ble_eq_true rfl⟩ ⟨by show (ce7 + 1) + 0 ≤ 622861; omega, by show (sn7 + 6) + 0 ≤ 7227521; omega⟩ hS (by have hz9 := hS.1; rintro q9 (h9 | h9) <;> first | exact h9.elim | (have h8 : r ≤ q9 ∧ q9 < r + 16 := h9; show xb ≤ q9; omega) | (have h8 : ((xb ≤ q9 ∧ q9 < xb + 68) ∨ lim ≤ q9) ∨ q9 = ob := h9; show xb ≤ q9; omega) | (have h8 : (xb ≤ q9 ∧ q9 < xb + 68) ∨ lim ≤ q9 := h9; show xb ≤ q9; omega) | (show xb ≤ q9; omega)) (fun v H1 locs hpo hfr hS => ?_)
  obtain ⟨rfl, rfl⟩ := hpo
  refine W.widen (k := ce7 + 1) (n := sn7 + 6) (by show (ce7 + 1) + 0 ≤ ce7 + 1; omega) (by show (sn7 + 6) + 0 ≤ sn7 + 6; omega) ?_
  refine lv_iload hx hb dL_law_850 (lv_at hl 1 rfl) ?_
  refine lv_icmp_eq (tgt := 857) hx hb dL_law_852 (by decide) (fun h_852 => ?_) (fun h9 => absurd rfl h9)
  refine lv_iload hx hb dL_law_857 (lv_at hl 1 rfl) ?_
  refine mn_if_ne (tgt := 874) hB dL_law_859 (by decide) (by omega) (fun h_859 => ?_) (fun h => by exfalso; omega)
  refine lv_goto (tgt := 1803) hx hb dL_law_874 (by decide) ?_
  refine W.widen (k := ce7 + 30) (n := sn7 + 1100) (by omega) (by omega) ?_
  exact kk _ _ _ ⟨hC, ⟨_, _, _, _, _, _, _, _, _, _, _, _, _, _, _, _, _, _, _, _, hR⟩, ⟨_, hO⟩, hTx⟩ hS (lv_sub hl [2, 3, 4, 5, 6] rfl)

set_option maxRecDepth 100000 in
set_option maxHeartbeats 800000 in
theorem s_give_t2 {p : Program} {l : Launch} {e : Env} {s : State} {m : MethodId} {args : Array Value} {below : List Frame} {meth : Method} {c : Code} {H : Heap} {locs : List Loc} {ce7 sn7 : Nat} {Q : State → Prop} {g : GG} {b L xb r ob lim : Nat} {xs : Nat → Int32} {i9 : Nat} {ls : Array Slot} {q : Nat → Int32} {n : Nat} {rm sl sv tx : Nat → Int32} {ln : Nat} {zsp : Nat → Int32} {zth : Int32} {zsg : Nat → Int32} {zbg : Nat → Int32} {zwd : Nat → Int32} {zhg : Nat → Int32} {zin : Nat → Int32} {zop : Int32} {zbe : Int32} {zwi : Int32} {zhi : Int32} {zbk : Nat → Int32} {zot : Nat → Int32} {zer : Int32} {zen : Int32} {zpo : Nat → Int32} {zpi : Int32} {zgr : Int32} {zsh : Nat → Int32} {zsn : Int32} {o : Nat → Int64} (hfl : l.stackTraces = false) (hE : LE p s m meth c g b L xs xb r ob lim) (hi : 4 * i9 + 3 < L) (hC : CLS g xb lim q n rm sl sv tx ln H) (hR : ModAt g r q zsp rm (nI n) sl sv tx (nI ln) zth zsg zbg zwd zhg zin zop zbe zwi zhi zbk zot zer zen zpo zpi zgr zsh zsn H) (hO : at_ g H ob (eL g 1 o)) (hTx : TxT tx ln) (hS : va_S (fun q9 => xb ≤ q9) s.heap H locs) (hl : lv_has ls 7 [(0, .ref b), (1, .ref xb), (2, .ref r), (3, .ref ob), (4, .int (nI (4 * i9)))]) (hce7 : ce7 + 30 ≤ 622861) (hsn7 : sn7 + 1100 ≤ 7227521) (k : Nat) (c0 : Nat) (z : Int32) (a1 : xs (4 * i9 + 1) = nI k) (a2 : xs (4 * i9 + 2) = nI c0) (a3 : xs (4 * i9 + 3) = z) (hk : k < nmQ q) (hc : c0 < 6) (hx1 : inL z.toInt64 1 99 = false) (kk : ∀ (H1 : Heap) (locs1 : List Loc) (ls1 : Array Slot), LI g xb r ob lim q n rm sl sv tx ln H1 → va_S (fun q9 => xb ≤ q9) s.heap H1 locs1 → lv_has ls1 7 [(0, .ref b), (1, .ref xb), (2, .ref r), (3, .ref ob), (4, .int (nI (4 * i9)))] → W p l e room_1 s m args below meth c H1 locs1 (ce7 + 30) (sn7 + 1100) Q (F0 m 1803 ls1 [])) : W p l e room_1 s m args below meth c H locs ce7 sn7 Q (F0 m 797 ls []) := by
  obtain ⟨hB, hZ9, hX, hbl, hL9, hxs, hr9, hob9, hlm9⟩ := hE
  have hx := hB.x
  have hb := hB.b
  have hbA : ¬ (fun q9 => xb ≤ q9) b := fun y9 => by have y8 : xb ≤ b := y9; omega
  have hW := hC.wf
  have hn14 := hC.n14
  have hl6c := hC.l60
  have hnm5 := hW.2.2.1
  refine lv_aload_n hx hb dL_law_797 rfl (lv_at hl 1 rfl) ?_
  refine lv_aload_n hx hb dL_law_798 rfl (lv_at hl 0 rfl) ?_
  refine lv_iload hx hb dL_law_799 (lv_at hl 4 rfl) ?_
  refine lv_iconst (v := nI 1) hx hb dL_law_801 (by decide) ?_
  refine mn_iadd hB dL_law_802 ?_
  refine va_sld hx hb hX hbl hbA hS (vp_in_nI (by omega) (by omega)) dL_law_803 ?_
  refine mh_top (y := .int (nI k)) (by rw [nI_clamp (by omega), a1]) ?_
  refine lv_aload_n hx hb dL_law_804 rfl (lv_at hl 0 rfl) ?_
  refine lv_iload hx hb dL_law_805 (lv_at hl 4 rfl) ?_
  refine lv_iconst (v := nI 2) hx hb dL_law_807 (by decide) ?_
  refine mn_iadd hB dL_law_808 ?_
  refine va_sld hx hb hX hbl hbA hS (vp_in_nI (by omega) (by omega)) dL_law_809 ?_
  refine mh_top (y := .int (nI c0)) (by rw [nI_clamp (by omega), a2]) ?_
  refine lv_aload_n hx hb dL_law_810 rfl (lv_at hl 0 rfl) ?_
  refine lv_iload hx hb dL_law_811 (lv_at hl 4 rfl) ?_
  refine lv_iconst (v := nI 3) hx hb dL_law_813 (by decide) ?_
  refine mn_iadd hB dL_law_814 ?_
  refine va_sld hx hb hX hbl hbA hS (vp_in_nI (by omega) (by omega)) dL_law_815 ?_
  refine mh_top (y := .int z) (by rw [nI_clamp (by omega), a3]) ?_
  refine lv_aload_n hx hb dL_law_816 rfl (lv_at hl 3 rfl) ?_
  refine cw_141 (As := [.ref xb, .int (nI k), .int (nI c0), .int z, .ref ob]) (rest := []) hB (hZ9.at hS (fun _ h9 => h9)) (w_give_t2 l g H xb lim q n rm sl sv tx ln k c0 z ob o (hC) (hO) (hk) (hc) (hx1) (⟨by omega, by omega⟩) (hfl)) rfl hl.1 (Nat.le_of_ble_eq_true rfl) dL_law_817 ⟨Nat.le_of_ble_eq_true rfl, Nat.le_of_ble_eq_true rfl⟩ ⟨by show (ce7) + 1 ≤ 622861; omega, by show (sn7) + 6 ≤ 7227521; omega⟩ hS (by have hz9 := hS.1; rintro q9 (h9 | h9) <;> first | exact h9.elim | (have h8 : r ≤ q9 ∧ q9 < r + 16 := h9; show xb ≤ q9; omega) | (have h8 : ((xb ≤ q9 ∧ q9 < xb + 68) ∨ lim ≤ q9) ∨ q9 = ob := h9; show xb ≤ q9; omega) | (have h8 : (xb ≤ q9 ∧ q9 < xb + 68) ∨ lim ≤ q9 := h9; show xb ≤ q9; omega) | (show xb ≤ q9; omega)) (fun v H1 locs hpo hfr hS => ?_)
  obtain ⟨rfl, hC, hO⟩ := hpo
  have hR := hR.keptF hfr (fun q9 h1 h2 y9 => by first | exact y9.elim | (have y8 : ((xb ≤ q9 ∧ q9 < xb + 68) ∨ lim ≤ q9) ∨ q9 = ob := y9; omega) | (have y8 : (xb ≤ q9 ∧ q9 < xb + 68) ∨ lim ≤ q9 := y9; omega))
  generalize H1 = H at hfr hS hR hX hC hO ⊢
  refine W.widen (k := ce7 + 1) (n := sn7 + 6) (by show (ce7) + 1 ≤ ce7 + 1; omega) (by show (sn7) + 6 ≤ sn7 + 6; omega) ?_
  refine lv_istore (lv' := [(5, .int (nI 2)), (0, .ref b), (1, .ref xb), (2, .ref r), (3, .ref ob), (4, .int (nI (4 * i9)))]) hx hb dL_law_820 hl (by decide) rfl (fun ls hl => ?_)
  refine lv_aload_n hx hb dL_law_822 rfl (lv_at hl 3 rfl) ?_
  refine lv_aload_n hx hb dL_law_823 rfl (lv_at hl 1 rfl) ?_
  refine lv_iload hx hb dL_law_824 (lv_at hl 5 rfl) ?_
  refine lv_iconst (v := nI 1) hx hb dL_law_826 (by decide) ?_
  refine mn_iadd hB dL_law_827 ?_
  refine va_sld hx hb hX hbl hbA hS (vp_in_nI (by omega) (by omega)) dL_law_828 ?_
  refine mh_top (y := .int (nI k)) (by rw [nI_clamp (by omega), a1]) ?_
  refine lv_aload_n hx hb dL_law_829 rfl (lv_at hl 1 rfl) ?_
  refine lv_iload hx hb dL_law_830 (lv_at hl 5 rfl) ?_
  refine lv_iconst (v := nI 2) hx hb dL_law_832 (by decide) ?_
  refine mn_iadd hB dL_law_833 ?_
  refine va_sld hx hb hX hbl hbA hS (vp_in_nI (by omega) (by omega)) dL_law_834 ?_
  refine mh_top (y := .int (nI c0)) (by rw [nI_clamp (by omega), a2]) ?_
  refine lv_aload_n hx hb dL_law_835 rfl (lv_at hl 1 rfl) ?_
  refine lv_iload hx hb dL_law_836 (lv_at hl 5 rfl) ?_
  refine lv_iconst (v := nI 3) hx hb dL_law_838 (by decide) ?_
  refine mn_iadd hB dL_law_839 ?_
  refine va_sld hx hb hX hbl hbA hS (vp_in_nI (by omega) (by omega)) dL_law_840 ?_
  refine mh_top (y := .int z) (by rw [nI_clamp (by omega), a3]) ?_
  refine cl_L_143 (As := [.int (nI k), .int (nI c0), .int z]) (rest := []) hB (c_X11_give_t2 l g H r q zsp rm (nI n) sl sv tx (nI ln) zth zsg zbg zwd zhg zin zop zbe zwi zhi zbk zot zer zen zpo zpi zgr zsh zsn k c0 z hR (by first | assumption | omega) (hk) (hc) (hx1)) hR.o rfl hl.1 (Nat.le_of_ble_eq_true rfl) dL_law_841 ⟨Nat.le_of_ble_eq_true rfl, Nat.le_of_ble_eq_true rfl⟩ ⟨by show (ce7 + 1) + 0 ≤ 622861; omega, by show (sn7 + 6) + 0 ≤ 7227521; omega⟩ hS (by have hz9 := hS.1; rintro q9 (h9 | h9) <;> first | exact h9.elim | (have h8 : r ≤ q9 ∧ q9 < r + 16 := h9; show xb ≤ q9; omega) | (have h8 : ((xb ≤ q9 ∧ q9 < xb + 68) ∨ lim ≤ q9) ∨ q9 = ob := h9; show xb ≤ q9; omega) | (have h8 : (xb ≤ q9 ∧ q9 < xb + 68) ∨ lim ≤ q9 := h9; show xb ≤ q9; omega) | (show xb ≤ q9; omega)) (fun v H1 locs hpo hfr hS => ?_)
  obtain ⟨rfl, hR⟩ := hpo
  have hC := hC.keptM hfr (fun a9 y9 => by first | exact y9.elim | (have y8 : r ≤ a9 ∧ a9 < r + 16 := y9; omega))
  have hO := Fr.keep hfr hO (fun y9 => by first | exact y9.elim | (have y8 : r ≤ ob ∧ ob < r + 16 := y9; omega) | (have y8 : (xb ≤ ob ∧ ob < xb + 68) ∨ lim ≤ ob := y9; omega))
  generalize H1 = H at hfr hS hX hC hO hR ⊢
  refine W.widen (k := ce7 + 1) (n := sn7 + 6) (by show (ce7 + 1) + 0 ≤ ce7 + 1; omega) (by show (sn7 + 6) + 0 ≤ sn7 + 6; omega) ?_
  refine lv_istore (lv' := [(6, .int (nI 0)), (5, .int (nI 2)), (0, .ref b), (1, .ref xb), (2, .ref r), (3, .ref ob), (4, .int (nI (4 * i9)))]) hx hb dL_law_844 hl (by decide) rfl (fun ls hl => ?_)
  refine lv_aload_n hx hb dL_law_846 rfl (lv_at hl 4 rfl) ?_
  refine cl_L_102 (As := []) (rest := []) hB (c_X11_thrown l g H r q zsp rm (nI n) sl sv tx (nI ln) (nI 2) zsg zbg zwd zhg zin zop zbe zwi zhi zbk zot zer zen zpo zpi zgr zsh zsn hR) hR.o rfl hl.1 (Nat.le_of_ble_eq_true rfl) dL_law_847 ⟨Nat.le_of_ble_eq_true rfl, Nat.le_of_ble_eq_true rfl⟩ ⟨by show (ce7 + 1) + 0 ≤ 622861; omega, by show (sn7 + 6) + 0 ≤ 7227521; omega⟩ hS (by have hz9 := hS.1; rintro q9 (h9 | h9) <;> first | exact h9.elim | (have h8 : r ≤ q9 ∧ q9 < r + 16 := h9; show xb ≤ q9; omega) | (have h8 : ((xb ≤ q9 ∧ q9 < xb + 68) ∨ lim ≤ q9) ∨ q9 = ob := h9; show xb ≤ q9; omega) | (have h8 : (xb ≤ q9 ∧ q9 < xb + 68) ∨ lim ≤ q9 := h9; show xb ≤ q9; omega) | (show xb ≤ q9; omega)) (fun v H1 locs hpo hfr hS => ?_)
  obtain ⟨rfl, rfl⟩ := hpo
  refine W.widen (k := ce7 + 1) (n := sn7 + 6) (by show (ce7 + 1) + 0 ≤ ce7 + 1; omega) (by show (sn7 + 6) + 0 ≤ sn7 + 6; omega) ?_
  refine lv_iload hx hb dL_law_850 (lv_at hl 1 rfl) ?_
  refine lv_icmp_eq (tgt := 857) hx hb dL_law_852 (by decide) (fun h_852 => ?_) (fun h9 => absurd rfl h9)
  refine lv_iload hx hb dL_law_857 (lv_at hl 1 rfl) ?_
  refine mn_if_ne (tgt := 874) hB dL_law_859 (by decide) (by omega) (fun h_859 => ?_) (fun h => by exfalso; omega)
  refine lv_goto (tgt := 1803) hx hb dL_law_874 (by decide) ?_
  refine W.widen (k := ce7 + 30) (n := sn7 + 1100) (by omega) (by omega) ?_
  exact kk _ _ _ ⟨hC, ⟨_, _, _, _, _, _, _, _, _, _, _, _, _, _, _, _, _, _, _, _, hR⟩, ⟨_, hO⟩, hTx⟩ hS (lv_sub hl [2, 3, 4, 5, 6] rfl)

set_option maxRecDepth 100000 in
set_option maxHeartbeats 800000 in
theorem s_give_ok {p : Program} {l : Launch} {e : Env} {s : State} {m : MethodId} {args : Array Value} {below : List Frame} {meth : Method} {c : Code} {H : Heap} {locs : List Loc} {ce7 sn7 : Nat} {Q : State → Prop} {g : GG} {b L xb r ob lim : Nat} {xs : Nat → Int32} {i9 : Nat} {ls : Array Slot} {q : Nat → Int32} {n : Nat} {rm sl sv tx : Nat → Int32} {ln : Nat} {zsp : Nat → Int32} {zth : Int32} {zsg : Nat → Int32} {zbg : Nat → Int32} {zwd : Nat → Int32} {zhg : Nat → Int32} {zin : Nat → Int32} {zop : Int32} {zbe : Int32} {zwi : Int32} {zhi : Int32} {zbk : Nat → Int32} {zot : Nat → Int32} {zer : Int32} {zen : Int32} {zpo : Nat → Int32} {zpi : Int32} {zgr : Int32} {zsh : Nat → Int32} {zsn : Int32} {o : Nat → Int64} (hfl : l.stackTraces = false) (hE : LE p s m meth c g b L xs xb r ob lim) (hi : 4 * i9 + 3 < L) (hC : CLS g xb lim q n rm sl sv tx ln H) (hR : ModAt g r q zsp rm (nI n) sl sv tx (nI ln) zth zsg zbg zwd zhg zin zop zbe zwi zhi zbk zot zer zen zpo zpi zgr zsh zsn H) (hO : at_ g H ob (eL g 1 o)) (hTx : TxT tx ln) (hS : va_S (fun q9 => xb ≤ q9) s.heap H locs) (hl : lv_has ls 7 [(0, .ref b), (1, .ref xb), (2, .ref r), (3, .ref ob), (4, .int (nI (4 * i9)))]) (hce7 : ce7 + 30 ≤ 622861) (hsn7 : sn7 + 1100 ≤ 7227521) (k : Nat) (c0 : Nat) (x : Nat) (a1 : xs (4 * i9 + 1) = nI k) (a2 : xs (4 * i9 + 2) = nI c0) (a3 : xs (4 * i9 + 3) = nI x) (hk : k < nmQ q) (hc : c0 < 6) (hx1 : 0 < x) (hx2 : x < 100) (kk : ∀ (H1 : Heap) (locs1 : List Loc) (ls1 : Array Slot), LI g xb r ob lim (givQ q k c0 (nI x)) (nxtS n) (remA rm n q) sl sv tx ln H1 → va_S (fun q9 => xb ≤ q9) s.heap H1 locs1 → lv_has ls1 7 [(0, .ref b), (1, .ref xb), (2, .ref r), (3, .ref ob), (4, .int (nI (4 * i9)))] → W p l e room_1 s m args below meth c H1 locs1 (ce7 + 30) (sn7 + 1100) Q (F0 m 1803 ls1 [])) : W p l e room_1 s m args below meth c H locs ce7 sn7 Q (F0 m 797 ls []) := by
  obtain ⟨hB, hZ9, hX, hbl, hL9, hxs, hr9, hob9, hlm9⟩ := hE
  have hx := hB.x
  have hb := hB.b
  have hbA : ¬ (fun q9 => xb ≤ q9) b := fun y9 => by have y8 : xb ≤ b := y9; omega
  have hW := hC.wf
  have hn14 := hC.n14
  have hl6c := hC.l60
  have hnm5 := hW.2.2.1
  refine lv_aload_n hx hb dL_law_797 rfl (lv_at hl 1 rfl) ?_
  refine lv_aload_n hx hb dL_law_798 rfl (lv_at hl 0 rfl) ?_
  refine lv_iload hx hb dL_law_799 (lv_at hl 4 rfl) ?_
  refine lv_iconst (v := nI 1) hx hb dL_law_801 (by decide) ?_
  refine mn_iadd hB dL_law_802 ?_
  refine va_sld hx hb hX hbl hbA hS (vp_in_nI (by omega) (by omega)) dL_law_803 ?_
  refine mh_top (y := .int (nI k)) (by rw [nI_clamp (by omega), a1]) ?_
  refine lv_aload_n hx hb dL_law_804 rfl (lv_at hl 0 rfl) ?_
  refine lv_iload hx hb dL_law_805 (lv_at hl 4 rfl) ?_
  refine lv_iconst (v := nI 2) hx hb dL_law_807 (by decide) ?_
  refine mn_iadd hB dL_law_808 ?_
  refine va_sld hx hb hX hbl hbA hS (vp_in_nI (by omega) (by omega)) dL_law_809 ?_
  refine mh_top (y := .int (nI c0)) (by rw [nI_clamp (by omega), a2]) ?_
  refine lv_aload_n hx hb dL_law_810 rfl (lv_at hl 0 rfl) ?_
  refine lv_iload hx hb dL_law_811 (lv_at hl 4 rfl) ?_
  refine lv_iconst (v := nI 3) hx hb dL_law_813 (by decide) ?_
  refine mn_iadd hB dL_law_814 ?_
  refine va_sld hx hb hX hbl hbA hS (vp_in_nI (by omega) (by omega)) dL_law_815 ?_
  refine mh_top (y := .int (nI x)) (by rw [nI_clamp (by omega), a3]) ?_
  refine lv_aload_n hx hb dL_law_816 rfl (lv_at hl 3 rfl) ?_
  refine cw_141 (As := [.ref xb, .int (nI k), .int (nI c0), .int (nI x), .ref ob]) (rest := []) hB (hZ9.at hS (fun _ h9 => h9)) (w_give_ok l g H xb lim q n rm sl sv tx ln k c0 x ob o (hC) (hO) (hk) (hc) (hx1) (hx2) (⟨by omega, by omega⟩) (hfl)) rfl hl.1 (Nat.le_of_ble_eq_true rfl) dL_law_817 ⟨Nat.le_of_ble_eq_true rfl, Nat.le_of_ble_eq_true rfl⟩ ⟨by show (ce7) + 26 ≤ 622861; omega, by show (sn7) + 126 ≤ 7227521; omega⟩ hS (by have hz9 := hS.1; rintro q9 (h9 | h9) <;> first | exact h9.elim | (have h8 : r ≤ q9 ∧ q9 < r + 16 := h9; show xb ≤ q9; omega) | (have h8 : ((xb ≤ q9 ∧ q9 < xb + 68) ∨ lim ≤ q9) ∨ q9 = ob := h9; show xb ≤ q9; omega) | (have h8 : (xb ≤ q9 ∧ q9 < xb + 68) ∨ lim ≤ q9 := h9; show xb ≤ q9; omega) | (show xb ≤ q9; omega)) (fun v H1 locs hpo hfr hS => ?_)
  obtain ⟨rfl, hC, hO⟩ := hpo
  have hR := hR.keptF hfr (fun q9 h1 h2 y9 => by first | exact y9.elim | (have y8 : ((xb ≤ q9 ∧ q9 < xb + 68) ∨ lim ≤ q9) ∨ q9 = ob := y9; omega) | (have y8 : (xb ≤ q9 ∧ q9 < xb + 68) ∨ lim ≤ q9 := y9; omega))
  generalize H1 = H at hfr hS hR hX hC hO ⊢
  refine W.widen (k := ce7 + 26) (n := sn7 + 126) (by show (ce7) + 26 ≤ ce7 + 26; omega) (by show (sn7) + 126 ≤ sn7 + 126; omega) ?_
  refine lv_istore (lv' := [(5, .int (nI 0)), (0, .ref b), (1, .ref xb), (2, .ref r), (3, .ref ob), (4, .int (nI (4 * i9)))]) hx hb dL_law_820 hl (by decide) rfl (fun ls hl => ?_)
  refine lv_aload_n hx hb dL_law_822 rfl (lv_at hl 3 rfl) ?_
  refine lv_aload_n hx hb dL_law_823 rfl (lv_at hl 1 rfl) ?_
  refine lv_iload hx hb dL_law_824 (lv_at hl 5 rfl) ?_
  refine lv_iconst (v := nI 1) hx hb dL_law_826 (by decide) ?_
  refine mn_iadd hB dL_law_827 ?_
  refine va_sld hx hb hX hbl hbA hS (vp_in_nI (by omega) (by omega)) dL_law_828 ?_
  refine mh_top (y := .int (nI k)) (by rw [nI_clamp (by omega), a1]) ?_
  refine lv_aload_n hx hb dL_law_829 rfl (lv_at hl 1 rfl) ?_
  refine lv_iload hx hb dL_law_830 (lv_at hl 5 rfl) ?_
  refine lv_iconst (v := nI 2) hx hb dL_law_832 (by decide) ?_
  refine mn_iadd hB dL_law_833 ?_
  refine va_sld hx hb hX hbl hbA hS (vp_in_nI (by omega) (by omega)) dL_law_834 ?_
  refine mh_top (y := .int (nI c0)) (by rw [nI_clamp (by omega), a2]) ?_
  refine lv_aload_n hx hb dL_law_835 rfl (lv_at hl 1 rfl) ?_
  refine lv_iload hx hb dL_law_836 (lv_at hl 5 rfl) ?_
  refine lv_iconst (v := nI 3) hx hb dL_law_838 (by decide) ?_
  refine mn_iadd hB dL_law_839 ?_
  refine va_sld hx hb hX hbl hbA hS (vp_in_nI (by omega) (by omega)) dL_law_840 ?_
  refine mh_top (y := .int (nI x)) (by rw [nI_clamp (by omega), a3]) ?_
  refine cl_L_143 (As := [.int (nI k), .int (nI c0), .int (nI x)]) (rest := []) hB (c_X11_give l g H r q zsp rm sl sv tx (nI ln) zth zsg zbg zwd zhg zin zop zbe zwi zhi zbk zot zer zen zpo zpi zgr zsh zsn n k c0 x hR (by first | assumption | omega) (by first | assumption | omega) (hk) (hc) (hx1) (hx2)) hR.o rfl hl.1 (Nat.le_of_ble_eq_true rfl) dL_law_841 ⟨Nat.le_of_ble_eq_true rfl, Nat.le_of_ble_eq_true rfl⟩ ⟨by show (ce7 + 26) + 0 ≤ 622861; omega, by show (sn7 + 126) + 0 ≤ 7227521; omega⟩ hS (by have hz9 := hS.1; rintro q9 (h9 | h9) <;> first | exact h9.elim | (have h8 : r ≤ q9 ∧ q9 < r + 16 := h9; show xb ≤ q9; omega) | (have h8 : ((xb ≤ q9 ∧ q9 < xb + 68) ∨ lim ≤ q9) ∨ q9 = ob := h9; show xb ≤ q9; omega) | (have h8 : (xb ≤ q9 ∧ q9 < xb + 68) ∨ lim ≤ q9 := h9; show xb ≤ q9; omega) | (show xb ≤ q9; omega)) (fun v H1 locs hpo hfr hS => ?_)
  obtain ⟨rfl, hR⟩ := hpo
  have hC := hC.keptM hfr (fun a9 y9 => by first | exact y9.elim | (have y8 : r ≤ a9 ∧ a9 < r + 16 := y9; omega))
  have hO := Fr.keep hfr hO (fun y9 => by first | exact y9.elim | (have y8 : r ≤ ob ∧ ob < r + 16 := y9; omega) | (have y8 : (xb ≤ ob ∧ ob < xb + 68) ∨ lim ≤ ob := y9; omega))
  generalize H1 = H at hfr hS hX hC hO hR ⊢
  refine W.widen (k := ce7 + 26) (n := sn7 + 126) (by show (ce7 + 26) + 0 ≤ ce7 + 26; omega) (by show (sn7 + 126) + 0 ≤ sn7 + 126; omega) ?_
  refine lv_istore (lv' := [(6, .int (givQ q k c0 (nI x) (50 + c0))), (5, .int (nI 0)), (0, .ref b), (1, .ref xb), (2, .ref r), (3, .ref ob), (4, .int (nI (4 * i9)))]) hx hb dL_law_844 hl (by decide) rfl (fun ls hl => ?_)
  refine lv_aload_n hx hb dL_law_846 rfl (lv_at hl 4 rfl) ?_
  refine cl_L_102 (As := []) (rest := []) hB (c_X11_thrown l g H r (givQ q k c0 (nI x)) zsp (remA rm n q) (nI (nxtS n)) sl sv tx (nI ln) (nI 0) zsg zbg zwd zhg zin zop zbe zwi zhi zbk zot zer zen zpo zpi zgr zsh zsn hR) hR.o rfl hl.1 (Nat.le_of_ble_eq_true rfl) dL_law_847 ⟨Nat.le_of_ble_eq_true rfl, Nat.le_of_ble_eq_true rfl⟩ ⟨by show (ce7 + 26) + 0 ≤ 622861; omega, by show (sn7 + 126) + 0 ≤ 7227521; omega⟩ hS (by have hz9 := hS.1; rintro q9 (h9 | h9) <;> first | exact h9.elim | (have h8 : r ≤ q9 ∧ q9 < r + 16 := h9; show xb ≤ q9; omega) | (have h8 : ((xb ≤ q9 ∧ q9 < xb + 68) ∨ lim ≤ q9) ∨ q9 = ob := h9; show xb ≤ q9; omega) | (have h8 : (xb ≤ q9 ∧ q9 < xb + 68) ∨ lim ≤ q9 := h9; show xb ≤ q9; omega) | (show xb ≤ q9; omega)) (fun v H1 locs hpo hfr hS => ?_)
  obtain ⟨rfl, rfl⟩ := hpo
  refine W.widen (k := ce7 + 26) (n := sn7 + 126) (by show (ce7 + 26) + 0 ≤ ce7 + 26; omega) (by show (sn7 + 126) + 0 ≤ sn7 + 126; omega) ?_
  refine lv_iload hx hb dL_law_850 (lv_at hl 1 rfl) ?_
  refine lv_icmp_eq (tgt := 857) hx hb dL_law_852 (by decide) (fun h_852 => ?_) (fun h9 => absurd rfl h9)
  refine lv_iload hx hb dL_law_857 (lv_at hl 1 rfl) ?_
  refine mn_if_ne (tgt := 874) hB dL_law_859 (by decide) (by omega) (fun h => by exfalso; omega) (fun h_859 => ?_)
  refine lv_aload_n hx hb dL_law_862 rfl (lv_at hl 5 rfl) ?_
  refine lv_iconst (v := nI 0) hx hb dL_law_863 (by decide) ?_
  refine mn_lald hB hO (by omega) (by omega) dL_law_864 ?_
  refine mh_top (y := .long ((givQ q k c0 (nI x) (50 + c0)).toInt64)) (rfl) ?_
  refine lv_iload hx hb dL_law_865 (lv_at hl 0 rfl) ?_
  refine lv_i2l (v := (givQ q k c0 (nI x) (50 + c0)).toInt64) hx hb dL_law_867 rfl ?_
  refine W.lcmp hx hb dL_law_868 ?_
  refine ml_if_eq (tgt := 874) hB dL_law_869 (by decide) (fun h_869 => ?_) (fun h => absurd rfl h)
  refine lv_goto (tgt := 1803) hx hb dL_law_874 (by decide) ?_
  refine W.widen (k := ce7 + 30) (n := sn7 + 1100) (by omega) (by omega) ?_
  exact kk _ _ _ ⟨hC, ⟨_, _, _, _, _, _, _, _, _, _, _, _, _, _, _, _, _, _, _, _, hR⟩, ⟨_, hO⟩, hTx⟩ hS (lv_sub hl [2, 3, 4, 5, 6] rfl)

set_option maxRecDepth 100000 in
set_option maxHeartbeats 800000 in
theorem s_start_t1 {p : Program} {l : Launch} {e : Env} {s : State} {m : MethodId} {args : Array Value} {below : List Frame} {meth : Method} {c : Code} {H : Heap} {locs : List Loc} {ce7 sn7 : Nat} {Q : State → Prop} {g : GG} {b L xb r ob lim : Nat} {xs : Nat → Int32} {i9 : Nat} {ls : Array Slot} {q : Nat → Int32} {n : Nat} {rm sl sv tx : Nat → Int32} {ln : Nat} {zsp : Nat → Int32} {zth : Int32} {zsg : Nat → Int32} {zbg : Nat → Int32} {zwd : Nat → Int32} {zhg : Nat → Int32} {zin : Nat → Int32} {zop : Int32} {zbe : Int32} {zwi : Int32} {zhi : Int32} {zbk : Nat → Int32} {zot : Nat → Int32} {zer : Int32} {zen : Int32} {zpo : Nat → Int32} {zpi : Int32} {zgr : Int32} {zsh : Nat → Int32} {zsn : Int32} {o : Nat → Int64} (hfl : l.stackTraces = false) (hE : LE p s m meth c g b L xs xb r ob lim) (hi : 4 * i9 + 3 < L) (hC : CLS g xb lim q n rm sl sv tx ln H) (hR : ModAt g r q zsp rm (nI n) sl sv tx (nI ln) zth zsg zbg zwd zhg zin zop zbe zwi zhi zbk zot zer zen zpo zpi zgr zsh zsn H) (hO : at_ g H ob (eL g 1 o)) (hTx : TxT tx ln) (hS : va_S (fun q9 => xb ≤ q9) s.heap H locs) (hl : lv_has ls 7 [(0, .ref b), (1, .ref xb), (2, .ref r), (3, .ref ob), (4, .int (nI (4 * i9)))]) (hce7 : ce7 + 30 ≤ 622861) (hsn7 : sn7 + 1100 ≤ 7227521) (x : Int32) (a1 : xs (4 * i9 + 1) = x) (hx1 : isIx x 3 = false) (kk : ∀ (H1 : Heap) (locs1 : List Loc) (ls1 : Array Slot), LI g xb r ob lim q n rm sl sv tx ln H1 → va_S (fun q9 => xb ≤ q9) s.heap H1 locs1 → lv_has ls1 7 [(0, .ref b), (1, .ref xb), (2, .ref r), (3, .ref ob), (4, .int (nI (4 * i9)))] → W p l e room_1 s m args below meth c H1 locs1 (ce7 + 30) (sn7 + 1100) Q (F0 m 1803 ls1 [])) : W p l e room_1 s m args below meth c H locs ce7 sn7 Q (F0 m 877 ls []) := by
  obtain ⟨hB, hZ9, hX, hbl, hL9, hxs, hr9, hob9, hlm9⟩ := hE
  have hx := hB.x
  have hb := hB.b
  have hbA : ¬ (fun q9 => xb ≤ q9) b := fun y9 => by have y8 : xb ≤ b := y9; omega
  have hW := hC.wf
  have hn14 := hC.n14
  have hl6c := hC.l60
  have hnm5 := hW.2.2.1
  refine lv_aload_n hx hb dL_law_877 rfl (lv_at hl 1 rfl) ?_
  refine lv_aload_n hx hb dL_law_878 rfl (lv_at hl 0 rfl) ?_
  refine lv_iload hx hb dL_law_879 (lv_at hl 4 rfl) ?_
  refine lv_iconst (v := nI 1) hx hb dL_law_881 (by decide) ?_
  refine mn_iadd hB dL_law_882 ?_
  refine va_sld hx hb hX hbl hbA hS (vp_in_nI (by omega) (by omega)) dL_law_883 ?_
  refine mh_top (y := .int x) (by rw [nI_clamp (by omega), a1]) ?_
  refine lv_aload_n hx hb dL_law_884 rfl (lv_at hl 3 rfl) ?_
  refine cw_144 (As := [.ref xb, .int x, .ref ob]) (rest := []) hB (hZ9.at hS (fun _ h9 => h9)) (w_start_t1 l g H xb lim q n rm sl sv tx ln x ob o (hC) (hO) (hx1) (⟨by omega, by omega⟩) (hfl)) rfl hl.1 (Nat.le_of_ble_eq_true rfl) dL_law_885 ⟨Nat.le_of_ble_eq_true rfl, Nat.le_of_ble_eq_true rfl⟩ ⟨by show (ce7) + 1 ≤ 622861; omega, by show (sn7) + 6 ≤ 7227521; omega⟩ hS (by have hz9 := hS.1; rintro q9 (h9 | h9) <;> first | exact h9.elim | (have h8 : r ≤ q9 ∧ q9 < r + 16 := h9; show xb ≤ q9; omega) | (have h8 : ((xb ≤ q9 ∧ q9 < xb + 68) ∨ lim ≤ q9) ∨ q9 = ob := h9; show xb ≤ q9; omega) | (have h8 : (xb ≤ q9 ∧ q9 < xb + 68) ∨ lim ≤ q9 := h9; show xb ≤ q9; omega) | (show xb ≤ q9; omega)) (fun v H1 locs hpo hfr hS => ?_)
  obtain ⟨rfl, hC, hO⟩ := hpo
  have hR := hR.keptF hfr (fun q9 h1 h2 y9 => by first | exact y9.elim | (have y8 : ((xb ≤ q9 ∧ q9 < xb + 68) ∨ lim ≤ q9) ∨ q9 = ob := y9; omega) | (have y8 : (xb ≤ q9 ∧ q9 < xb + 68) ∨ lim ≤ q9 := y9; omega))
  generalize H1 = H at hfr hS hR hX hC hO ⊢
  refine W.widen (k := ce7 + 1) (n := sn7 + 6) (by show (ce7) + 1 ≤ ce7 + 1; omega) (by show (sn7) + 6 ≤ sn7 + 6; omega) ?_
  refine lv_istore (lv' := [(5, .int (nI 1)), (0, .ref b), (1, .ref xb), (2, .ref r), (3, .ref ob), (4, .int (nI (4 * i9)))]) hx hb dL_law_888 hl (by decide) rfl (fun ls hl => ?_)
  refine lv_aload_n hx hb dL_law_890 rfl (lv_at hl 3 rfl) ?_
  refine lv_aload_n hx hb dL_law_891 rfl (lv_at hl 1 rfl) ?_
  refine lv_iload hx hb dL_law_892 (lv_at hl 5 rfl) ?_
  refine lv_iconst (v := nI 1) hx hb dL_law_894 (by decide) ?_
  refine mn_iadd hB dL_law_895 ?_
  refine va_sld hx hb hX hbl hbA hS (vp_in_nI (by omega) (by omega)) dL_law_896 ?_
  refine mh_top (y := .int x) (by rw [nI_clamp (by omega), a1]) ?_
  refine cl_L_146 (As := [.int x]) (rest := []) hB (c_X11_start_t1 l g H r q zsp rm (nI n) sl sv tx (nI ln) zth zsg zbg zwd zhg zin zop zbe zwi zhi zbk zot zer zen zpo zpi zgr zsh zsn x hR (hx1)) hR.o rfl hl.1 (Nat.le_of_ble_eq_true rfl) dL_law_897 ⟨Nat.le_of_ble_eq_true rfl, Nat.le_of_ble_eq_true rfl⟩ ⟨by show (ce7 + 1) + 0 ≤ 622861; omega, by show (sn7 + 6) + 0 ≤ 7227521; omega⟩ hS (by have hz9 := hS.1; rintro q9 (h9 | h9) <;> first | exact h9.elim | (have h8 : r ≤ q9 ∧ q9 < r + 16 := h9; show xb ≤ q9; omega) | (have h8 : ((xb ≤ q9 ∧ q9 < xb + 68) ∨ lim ≤ q9) ∨ q9 = ob := h9; show xb ≤ q9; omega) | (have h8 : (xb ≤ q9 ∧ q9 < xb + 68) ∨ lim ≤ q9 := h9; show xb ≤ q9; omega) | (show xb ≤ q9; omega)) (fun v H1 locs hpo hfr hS => ?_)
  obtain ⟨rfl, hR⟩ := hpo
  have hC := hC.keptM hfr (fun a9 y9 => by first | exact y9.elim | (have y8 : r ≤ a9 ∧ a9 < r + 16 := y9; omega))
  have hO := Fr.keep hfr hO (fun y9 => by first | exact y9.elim | (have y8 : r ≤ ob ∧ ob < r + 16 := y9; omega) | (have y8 : (xb ≤ ob ∧ ob < xb + 68) ∨ lim ≤ ob := y9; omega))
  generalize H1 = H at hfr hS hX hC hO hR ⊢
  refine W.widen (k := ce7 + 1) (n := sn7 + 6) (by show (ce7 + 1) + 0 ≤ ce7 + 1; omega) (by show (sn7 + 6) + 0 ≤ sn7 + 6; omega) ?_
  refine lv_istore (lv' := [(6, .int (nI 0)), (5, .int (nI 1)), (0, .ref b), (1, .ref xb), (2, .ref r), (3, .ref ob), (4, .int (nI (4 * i9)))]) hx hb dL_law_900 hl (by decide) rfl (fun ls hl => ?_)
  refine lv_aload_n hx hb dL_law_902 rfl (lv_at hl 4 rfl) ?_
  refine cl_L_102 (As := []) (rest := []) hB (c_X11_thrown l g H r q zsp rm (nI n) sl sv tx (nI ln) (nI 1) zsg zbg zwd zhg zin zop zbe zwi zhi zbk zot zer zen zpo zpi zgr zsh zsn hR) hR.o rfl hl.1 (Nat.le_of_ble_eq_true rfl) dL_law_903 ⟨Nat.le_of_ble_eq_true rfl, Nat.le_of_ble_eq_true rfl⟩ ⟨by show (ce7 + 1) + 0 ≤ 622861; omega, by show (sn7 + 6) + 0 ≤ 7227521; omega⟩ hS (by have hz9 := hS.1; rintro q9 (h9 | h9) <;> first | exact h9.elim | (have h8 : r ≤ q9 ∧ q9 < r + 16 := h9; show xb ≤ q9; omega) | (have h8 : ((xb ≤ q9 ∧ q9 < xb + 68) ∨ lim ≤ q9) ∨ q9 = ob := h9; show xb ≤ q9; omega) | (have h8 : (xb ≤ q9 ∧ q9 < xb + 68) ∨ lim ≤ q9 := h9; show xb ≤ q9; omega) | (show xb ≤ q9; omega)) (fun v H1 locs hpo hfr hS => ?_)
  obtain ⟨rfl, rfl⟩ := hpo
  refine W.widen (k := ce7 + 1) (n := sn7 + 6) (by show (ce7 + 1) + 0 ≤ ce7 + 1; omega) (by show (sn7 + 6) + 0 ≤ sn7 + 6; omega) ?_
  refine lv_iload hx hb dL_law_906 (lv_at hl 1 rfl) ?_
  refine lv_icmp_eq (tgt := 913) hx hb dL_law_908 (by decide) (fun h_908 => ?_) (fun h9 => absurd rfl h9)
  refine lv_iload hx hb dL_law_913 (lv_at hl 1 rfl) ?_
  refine mn_if_ne (tgt := 930) hB dL_law_915 (by decide) (by omega) (fun h_915 => ?_) (fun h => by exfalso; omega)
  refine lv_goto (tgt := 1803) hx hb dL_law_930 (by decide) ?_
  refine W.widen (k := ce7 + 30) (n := sn7 + 1100) (by omega) (by omega) ?_
  exact kk _ _ _ ⟨hC, ⟨_, _, _, _, _, _, _, _, _, _, _, _, _, _, _, _, _, _, _, _, hR⟩, ⟨_, hO⟩, hTx⟩ hS (lv_sub hl [2, 3, 4, 5, 6] rfl)

set_option maxRecDepth 100000 in
set_option maxHeartbeats 800000 in
theorem s_start_A {p : Program} {l : Launch} {e : Env} {s : State} {m : MethodId} {args : Array Value} {below : List Frame} {meth : Method} {c : Code} {H : Heap} {locs : List Loc} {ce7 sn7 : Nat} {Q : State → Prop} {g : GG} {b L xb r ob lim : Nat} {xs : Nat → Int32} {i9 : Nat} {ls : Array Slot} {q : Nat → Int32} {n : Nat} {rm sl sv tx : Nat → Int32} {ln : Nat} {zsp : Nat → Int32} {zth : Int32} {zsg : Nat → Int32} {zbg : Nat → Int32} {zwd : Nat → Int32} {zhg : Nat → Int32} {zin : Nat → Int32} {zop : Int32} {zbe : Int32} {zwi : Int32} {zhi : Int32} {zbk : Nat → Int32} {zot : Nat → Int32} {zer : Int32} {zen : Int32} {zpo : Nat → Int32} {zpi : Int32} {zgr : Int32} {zsh : Nat → Int32} {zsn : Int32} {o : Nat → Int64} (hfl : l.stackTraces = false) (hE : LE p s m meth c g b L xs xb r ob lim) (hi : 4 * i9 + 3 < L) (hC : CLS g xb lim q n rm sl sv tx ln H) (hR : ModAt g r q zsp rm (nI n) sl sv tx (nI ln) zth zsg zbg zwd zhg zin zop zbe zwi zhi zbk zot zer zen zpo zpi zgr zsh zsn H) (hO : at_ g H ob (eL g 1 o)) (hTx : TxT tx ln) (hS : va_S (fun q9 => xb ≤ q9) s.heap H locs) (hl : lv_has ls 7 [(0, .ref b), (1, .ref xb), (2, .ref r), (3, .ref ob), (4, .int (nI (4 * i9)))]) (hce7 : ce7 + 30 ≤ 622861) (hsn7 : sn7 + 1100 ≤ 7227521) (f : Nat) (e9 : Nat) (a1 : xs (4 * i9 + 1) = nI f) (hf : f < 3) (hs0 : 0 < szF q f) (hw : wholeS (qn tx) ln = .inl e9) (kk : ∀ (H1 : Heap) (locs1 : List Loc) (ls1 : Array Slot), LI g xb r ob lim q n rm sl sv tx ln H1 → va_S (fun q9 => xb ≤ q9) s.heap H1 locs1 → lv_has ls1 7 [(0, .ref b), (1, .ref xb), (2, .ref r), (3, .ref ob), (4, .int (nI (4 * i9)))] → W p l e room_1 s m args below meth c H1 locs1 (ce7 + 30) (sn7 + 1100) Q (F0 m 1803 ls1 [])) : W p l e room_1 s m args below meth c H locs ce7 sn7 Q (F0 m 877 ls []) := by
  obtain ⟨hB, hZ9, hX, hbl, hL9, hxs, hr9, hob9, hlm9⟩ := hE
  have hx := hB.x
  have hb := hB.b
  have hbA : ¬ (fun q9 => xb ≤ q9) b := fun y9 => by have y8 : xb ≤ b := y9; omega
  have hW := hC.wf
  have hn14 := hC.n14
  have hl6c := hC.l60
  have hnm5 := hW.2.2.1
  have he60 := whole_le hl6c hw
  refine lv_aload_n hx hb dL_law_877 rfl (lv_at hl 1 rfl) ?_
  refine lv_aload_n hx hb dL_law_878 rfl (lv_at hl 0 rfl) ?_
  refine lv_iload hx hb dL_law_879 (lv_at hl 4 rfl) ?_
  refine lv_iconst (v := nI 1) hx hb dL_law_881 (by decide) ?_
  refine mn_iadd hB dL_law_882 ?_
  refine va_sld hx hb hX hbl hbA hS (vp_in_nI (by omega) (by omega)) dL_law_883 ?_
  refine mh_top (y := .int (nI f)) (by rw [nI_clamp (by omega), a1]) ?_
  refine lv_aload_n hx hb dL_law_884 rfl (lv_at hl 3 rfl) ?_
  refine cw_144 (As := [.ref xb, .int (nI f), .ref ob]) (rest := []) hB (hZ9.at hS (fun _ h9 => h9)) (w_start_A l g H xb lim q n rm sl sv tx ln f ob o (hC) (hO) (hf) (hs0) (⟨by omega, by omega⟩) (hfl)) rfl hl.1 (Nat.le_of_ble_eq_true rfl) dL_law_885 ⟨Nat.le_of_ble_eq_true rfl, Nat.le_of_ble_eq_true rfl⟩ ⟨by show (ce7) + 1 ≤ 622861; omega, by show (sn7) + 6 ≤ 7227521; omega⟩ hS (by have hz9 := hS.1; rintro q9 (h9 | h9) <;> first | exact h9.elim | (have h8 : r ≤ q9 ∧ q9 < r + 16 := h9; show xb ≤ q9; omega) | (have h8 : ((xb ≤ q9 ∧ q9 < xb + 68) ∨ lim ≤ q9) ∨ q9 = ob := h9; show xb ≤ q9; omega) | (have h8 : (xb ≤ q9 ∧ q9 < xb + 68) ∨ lim ≤ q9 := h9; show xb ≤ q9; omega) | (show xb ≤ q9; omega)) (fun v H1 locs hpo hfr hS => ?_)
  obtain ⟨rfl, hC, hO⟩ := hpo
  have hR := hR.keptF hfr (fun q9 h1 h2 y9 => by first | exact y9.elim | (have y8 : ((xb ≤ q9 ∧ q9 < xb + 68) ∨ lim ≤ q9) ∨ q9 = ob := y9; omega) | (have y8 : (xb ≤ q9 ∧ q9 < xb + 68) ∨ lim ≤ q9 := y9; omega))
  generalize H1 = H at hfr hS hR hX hC hO ⊢
  refine W.widen (k := ce7 + 1) (n := sn7 + 6) (by show (ce7) + 1 ≤ ce7 + 1; omega) (by show (sn7) + 6 ≤ sn7 + 6; omega) ?_
  refine lv_istore (lv' := [(5, .int (nI 2)), (0, .ref b), (1, .ref xb), (2, .ref r), (3, .ref ob), (4, .int (nI (4 * i9)))]) hx hb dL_law_888 hl (by decide) rfl (fun ls hl => ?_)
  refine lv_aload_n hx hb dL_law_890 rfl (lv_at hl 3 rfl) ?_
  refine lv_aload_n hx hb dL_law_891 rfl (lv_at hl 1 rfl) ?_
  refine lv_iload hx hb dL_law_892 (lv_at hl 5 rfl) ?_
  refine lv_iconst (v := nI 1) hx hb dL_law_894 (by decide) ?_
  refine mn_iadd hB dL_law_895 ?_
  refine va_sld hx hb hX hbl hbA hS (vp_in_nI (by omega) (by omega)) dL_law_896 ?_
  refine mh_top (y := .int (nI f)) (by rw [nI_clamp (by omega), a1]) ?_
  refine cl_L_146 (As := [.int (nI f)]) (rest := []) hB (c_X11_start_t2 l g H r q zsp rm (nI n) sl sv tx zth zsg zbg zwd zhg zin zop zbe zwi zhi zbk zot zer zen zpo zpi zgr zsh zsn (qn tx) ln e9 f hR (by first | assumption | omega) (hTx) (hw) (hf)) hR.o rfl hl.1 (Nat.le_of_ble_eq_true rfl) dL_law_897 ⟨Nat.le_of_ble_eq_true rfl, Nat.le_of_ble_eq_true rfl⟩ ⟨by show (ce7 + 1) + 0 ≤ 622861; omega, by show (sn7 + 6) + 0 ≤ 7227521; omega⟩ hS (by have hz9 := hS.1; rintro q9 (h9 | h9) <;> first | exact h9.elim | (have h8 : r ≤ q9 ∧ q9 < r + 16 := h9; show xb ≤ q9; omega) | (have h8 : ((xb ≤ q9 ∧ q9 < xb + 68) ∨ lim ≤ q9) ∨ q9 = ob := h9; show xb ≤ q9; omega) | (have h8 : (xb ≤ q9 ∧ q9 < xb + 68) ∨ lim ≤ q9 := h9; show xb ≤ q9; omega) | (show xb ≤ q9; omega)) (fun v H1 locs hpo hfr hS => ?_)
  obtain ⟨rfl, op2_1, be2_2, wi2_3, hi2_4, bk2_5, ot2_6, wd2_7, hg2_8, in2_9, er2_10, en2_11, sg2_12, bg2_13, hR⟩ := hpo
  have hC := hC.keptM hfr (fun a9 y9 => by first | exact y9.elim | (have y8 : r ≤ a9 ∧ a9 < r + 16 := y9; omega))
  have hO := Fr.keep hfr hO (fun y9 => by first | exact y9.elim | (have y8 : r ≤ ob ∧ ob < r + 16 := y9; omega) | (have y8 : (xb ≤ ob ∧ ob < xb + 68) ∨ lim ≤ ob := y9; omega))
  generalize H1 = H at hfr hS hX hC hO hR ⊢
  refine W.widen (k := ce7 + 1) (n := sn7 + 6) (by show (ce7 + 1) + 0 ≤ ce7 + 1; omega) (by show (sn7 + 6) + 0 ≤ sn7 + 6; omega) ?_
  refine lv_istore (lv' := [(6, .int (nI 0)), (5, .int (nI 2)), (0, .ref b), (1, .ref xb), (2, .ref r), (3, .ref ob), (4, .int (nI (4 * i9)))]) hx hb dL_law_900 hl (by decide) rfl (fun ls hl => ?_)
  refine lv_aload_n hx hb dL_law_902 rfl (lv_at hl 4 rfl) ?_
  refine cl_L_102 (As := []) (rest := []) hB (c_X11_thrown l g H r q zsp rm (nI n) sl sv tx (nI ln) (nI 2) sg2_12 bg2_13 wd2_7 hg2_8 in2_9 op2_1 be2_2 wi2_3 hi2_4 bk2_5 ot2_6 er2_10 en2_11 zpo zpi zgr zsh zsn hR) hR.o rfl hl.1 (Nat.le_of_ble_eq_true rfl) dL_law_903 ⟨Nat.le_of_ble_eq_true rfl, Nat.le_of_ble_eq_true rfl⟩ ⟨by show (ce7 + 1) + 0 ≤ 622861; omega, by show (sn7 + 6) + 0 ≤ 7227521; omega⟩ hS (by have hz9 := hS.1; rintro q9 (h9 | h9) <;> first | exact h9.elim | (have h8 : r ≤ q9 ∧ q9 < r + 16 := h9; show xb ≤ q9; omega) | (have h8 : ((xb ≤ q9 ∧ q9 < xb + 68) ∨ lim ≤ q9) ∨ q9 = ob := h9; show xb ≤ q9; omega) | (have h8 : (xb ≤ q9 ∧ q9 < xb + 68) ∨ lim ≤ q9 := h9; show xb ≤ q9; omega) | (show xb ≤ q9; omega)) (fun v H1 locs hpo hfr hS => ?_)
  obtain ⟨rfl, rfl⟩ := hpo
  refine W.widen (k := ce7 + 1) (n := sn7 + 6) (by show (ce7 + 1) + 0 ≤ ce7 + 1; omega) (by show (sn7 + 6) + 0 ≤ sn7 + 6; omega) ?_
  refine lv_iload hx hb dL_law_906 (lv_at hl 1 rfl) ?_
  refine lv_icmp_eq (tgt := 913) hx hb dL_law_908 (by decide) (fun h_908 => ?_) (fun h9 => absurd rfl h9)
  refine lv_iload hx hb dL_law_913 (lv_at hl 1 rfl) ?_
  refine mn_if_ne (tgt := 930) hB dL_law_915 (by decide) (by omega) (fun h_915 => ?_) (fun h => by exfalso; omega)
  refine lv_goto (tgt := 1803) hx hb dL_law_930 (by decide) ?_
  refine W.widen (k := ce7 + 30) (n := sn7 + 1100) (by omega) (by omega) ?_
  exact kk _ _ _ ⟨hC, ⟨_, _, _, _, _, _, _, _, _, _, _, _, _, _, _, _, _, _, _, _, hR⟩, ⟨_, hO⟩, hTx⟩ hS (lv_sub hl [2, 3, 4, 5, 6] rfl)

set_option maxRecDepth 100000 in
set_option maxHeartbeats 800000 in
theorem s_start_B {p : Program} {l : Launch} {e : Env} {s : State} {m : MethodId} {args : Array Value} {below : List Frame} {meth : Method} {c : Code} {H : Heap} {locs : List Loc} {ce7 sn7 : Nat} {Q : State → Prop} {g : GG} {b L xb r ob lim : Nat} {xs : Nat → Int32} {i9 : Nat} {ls : Array Slot} {q : Nat → Int32} {n : Nat} {rm sl sv tx : Nat → Int32} {ln : Nat} {zsp : Nat → Int32} {zth : Int32} {zsg : Nat → Int32} {zbg : Nat → Int32} {zwd : Nat → Int32} {zhg : Nat → Int32} {zin : Nat → Int32} {zop : Int32} {zbe : Int32} {zwi : Int32} {zhi : Int32} {zbk : Nat → Int32} {zot : Nat → Int32} {zer : Int32} {zen : Int32} {zpo : Nat → Int32} {zpi : Int32} {zgr : Int32} {zsh : Nat → Int32} {zsn : Int32} {o : Nat → Int64} (hfl : l.stackTraces = false) (hE : LE p s m meth c g b L xs xb r ob lim) (hi : 4 * i9 + 3 < L) (hC : CLS g xb lim q n rm sl sv tx ln H) (hR : ModAt g r q zsp rm (nI n) sl sv tx (nI ln) zth zsg zbg zwd zhg zin zop zbe zwi zhi zbk zot zer zen zpo zpi zgr zsh zsn H) (hO : at_ g H ob (eL g 1 o)) (hTx : TxT tx ln) (hS : va_S (fun q9 => xb ≤ q9) s.heap H locs) (hl : lv_has ls 7 [(0, .ref b), (1, .ref xb), (2, .ref r), (3, .ref ob), (4, .int (nI (4 * i9)))]) (hce7 : ce7 + 30 ≤ 622861) (hsn7 : sn7 + 1100 ≤ 7227521) (f : Nat) (b1 : PBl) (a1 : xs (4 * i9 + 1) = nI f) (hf : f < 3) (hs0 : 0 < szF q f) (hw : wholeS (qn tx) ln = .inr b1) (kk : ∀ (H1 : Heap) (locs1 : List Loc) (ls1 : Array Slot), LI g xb r ob lim q n rm sl sv tx ln H1 → va_S (fun q9 => xb ≤ q9) s.heap H1 locs1 → lv_has ls1 7 [(0, .ref b), (1, .ref xb), (2, .ref r), (3, .ref ob), (4, .int (nI (4 * i9)))] → W p l e room_1 s m args below meth c H1 locs1 (ce7 + 30) (sn7 + 1100) Q (F0 m 1803 ls1 [])) : W p l e room_1 s m args below meth c H locs ce7 sn7 Q (F0 m 877 ls []) := by
  obtain ⟨hB, hZ9, hX, hbl, hL9, hxs, hr9, hob9, hlm9⟩ := hE
  have hx := hB.x
  have hb := hB.b
  have hbA : ¬ (fun q9 => xb ≤ q9) b := fun y9 => by have y8 : xb ≤ b := y9; omega
  have hW := hC.wf
  have hn14 := hC.n14
  have hl6c := hC.l60
  have hnm5 := hW.2.2.1
  refine lv_aload_n hx hb dL_law_877 rfl (lv_at hl 1 rfl) ?_
  refine lv_aload_n hx hb dL_law_878 rfl (lv_at hl 0 rfl) ?_
  refine lv_iload hx hb dL_law_879 (lv_at hl 4 rfl) ?_
  refine lv_iconst (v := nI 1) hx hb dL_law_881 (by decide) ?_
  refine mn_iadd hB dL_law_882 ?_
  refine va_sld hx hb hX hbl hbA hS (vp_in_nI (by omega) (by omega)) dL_law_883 ?_
  refine mh_top (y := .int (nI f)) (by rw [nI_clamp (by omega), a1]) ?_
  refine lv_aload_n hx hb dL_law_884 rfl (lv_at hl 3 rfl) ?_
  refine cw_144 (As := [.ref xb, .int (nI f), .ref ob]) (rest := []) hB (hZ9.at hS (fun _ h9 => h9)) (w_start_A l g H xb lim q n rm sl sv tx ln f ob o (hC) (hO) (hf) (hs0) (⟨by omega, by omega⟩) (hfl)) rfl hl.1 (Nat.le_of_ble_eq_true rfl) dL_law_885 ⟨Nat.le_of_ble_eq_true rfl, Nat.le_of_ble_eq_true rfl⟩ ⟨by show (ce7) + 1 ≤ 622861; omega, by show (sn7) + 6 ≤ 7227521; omega⟩ hS (by have hz9 := hS.1; rintro q9 (h9 | h9) <;> first | exact h9.elim | (have h8 : r ≤ q9 ∧ q9 < r + 16 := h9; show xb ≤ q9; omega) | (have h8 : ((xb ≤ q9 ∧ q9 < xb + 68) ∨ lim ≤ q9) ∨ q9 = ob := h9; show xb ≤ q9; omega) | (have h8 : (xb ≤ q9 ∧ q9 < xb + 68) ∨ lim ≤ q9 := h9; show xb ≤ q9; omega) | (show xb ≤ q9; omega)) (fun v H1 locs hpo hfr hS => ?_)
  obtain ⟨rfl, hC, hO⟩ := hpo
  have hR := hR.keptF hfr (fun q9 h1 h2 y9 => by first | exact y9.elim | (have y8 : ((xb ≤ q9 ∧ q9 < xb + 68) ∨ lim ≤ q9) ∨ q9 = ob := y9; omega) | (have y8 : (xb ≤ q9 ∧ q9 < xb + 68) ∨ lim ≤ q9 := y9; omega))
  generalize H1 = H at hfr hS hR hX hC hO ⊢
  refine W.widen (k := ce7 + 1) (n := sn7 + 6) (by show (ce7) + 1 ≤ ce7 + 1; omega) (by show (sn7) + 6 ≤ sn7 + 6; omega) ?_
  refine lv_istore (lv' := [(5, .int (nI 2)), (0, .ref b), (1, .ref xb), (2, .ref r), (3, .ref ob), (4, .int (nI (4 * i9)))]) hx hb dL_law_888 hl (by decide) rfl (fun ls hl => ?_)
  refine lv_aload_n hx hb dL_law_890 rfl (lv_at hl 3 rfl) ?_
  refine lv_aload_n hx hb dL_law_891 rfl (lv_at hl 1 rfl) ?_
  refine lv_iload hx hb dL_law_892 (lv_at hl 5 rfl) ?_
  refine lv_iconst (v := nI 1) hx hb dL_law_894 (by decide) ?_
  refine mn_iadd hB dL_law_895 ?_
  refine va_sld hx hb hX hbl hbA hS (vp_in_nI (by omega) (by omega)) dL_law_896 ?_
  refine mh_top (y := .int (nI f)) (by rw [nI_clamp (by omega), a1]) ?_
  refine cl_L_146 (As := [.int (nI f)]) (rest := []) hB (c_X11_start_t2b l g H r q zsp rm (nI n) sl sv tx zth zsg zbg zwd zhg zin zop zbe zwi zhi zbk zot zer zen zpo zpi zgr zsh zsn (qn tx) ln b1 f hR (by first | assumption | omega) (hTx) (hw) (hf) (by first | assumption | omega) (hs0)) hR.o rfl hl.1 (Nat.le_of_ble_eq_true rfl) dL_law_897 ⟨Nat.le_of_ble_eq_true rfl, Nat.le_of_ble_eq_true rfl⟩ ⟨by show (ce7 + 1) + 0 ≤ 622861; omega, by show (sn7 + 6) + 0 ≤ 7227521; omega⟩ hS (by have hz9 := hS.1; rintro q9 (h9 | h9) <;> first | exact h9.elim | (have h8 : r ≤ q9 ∧ q9 < r + 16 := h9; show xb ≤ q9; omega) | (have h8 : ((xb ≤ q9 ∧ q9 < xb + 68) ∨ lim ≤ q9) ∨ q9 = ob := h9; show xb ≤ q9; omega) | (have h8 : (xb ≤ q9 ∧ q9 < xb + 68) ∨ lim ≤ q9 := h9; show xb ≤ q9; omega) | (show xb ≤ q9; omega)) (fun v H1 locs hpo hfr hS => ?_)
  obtain ⟨rfl, op2_1, be2_2, wi2_3, hi2_4, bk2_5, ot2_6, wd2_7, hg2_8, in2_9, er2_10, en2_11, sg2_12, bg2_13, hR⟩ := hpo
  have hC := hC.keptM hfr (fun a9 y9 => by first | exact y9.elim | (have y8 : r ≤ a9 ∧ a9 < r + 16 := y9; omega))
  have hO := Fr.keep hfr hO (fun y9 => by first | exact y9.elim | (have y8 : r ≤ ob ∧ ob < r + 16 := y9; omega) | (have y8 : (xb ≤ ob ∧ ob < xb + 68) ∨ lim ≤ ob := y9; omega))
  generalize H1 = H at hfr hS hX hC hO hR ⊢
  refine W.widen (k := ce7 + 1) (n := sn7 + 6) (by show (ce7 + 1) + 0 ≤ ce7 + 1; omega) (by show (sn7 + 6) + 0 ≤ sn7 + 6; omega) ?_
  refine lv_istore (lv' := [(6, .int (nI 0)), (5, .int (nI 2)), (0, .ref b), (1, .ref xb), (2, .ref r), (3, .ref ob), (4, .int (nI (4 * i9)))]) hx hb dL_law_900 hl (by decide) rfl (fun ls hl => ?_)
  refine lv_aload_n hx hb dL_law_902 rfl (lv_at hl 4 rfl) ?_
  refine cl_L_102 (As := []) (rest := []) hB (c_X11_thrown l g H r q zsp rm (nI n) sl sv tx (nI ln) (nI 2) sg2_12 bg2_13 wd2_7 hg2_8 in2_9 op2_1 be2_2 wi2_3 hi2_4 bk2_5 ot2_6 er2_10 en2_11 zpo zpi zgr zsh zsn hR) hR.o rfl hl.1 (Nat.le_of_ble_eq_true rfl) dL_law_903 ⟨Nat.le_of_ble_eq_true rfl, Nat.le_of_ble_eq_true rfl⟩ ⟨by show (ce7 + 1) + 0 ≤ 622861; omega, by show (sn7 + 6) + 0 ≤ 7227521; omega⟩ hS (by have hz9 := hS.1; rintro q9 (h9 | h9) <;> first | exact h9.elim | (have h8 : r ≤ q9 ∧ q9 < r + 16 := h9; show xb ≤ q9; omega) | (have h8 : ((xb ≤ q9 ∧ q9 < xb + 68) ∨ lim ≤ q9) ∨ q9 = ob := h9; show xb ≤ q9; omega) | (have h8 : (xb ≤ q9 ∧ q9 < xb + 68) ∨ lim ≤ q9 := h9; show xb ≤ q9; omega) | (show xb ≤ q9; omega)) (fun v H1 locs hpo hfr hS => ?_)
  obtain ⟨rfl, rfl⟩ := hpo
  refine W.widen (k := ce7 + 1) (n := sn7 + 6) (by show (ce7 + 1) + 0 ≤ ce7 + 1; omega) (by show (sn7 + 6) + 0 ≤ sn7 + 6; omega) ?_
  refine lv_iload hx hb dL_law_906 (lv_at hl 1 rfl) ?_
  refine lv_icmp_eq (tgt := 913) hx hb dL_law_908 (by decide) (fun h_908 => ?_) (fun h9 => absurd rfl h9)
  refine lv_iload hx hb dL_law_913 (lv_at hl 1 rfl) ?_
  refine mn_if_ne (tgt := 930) hB dL_law_915 (by decide) (by omega) (fun h_915 => ?_) (fun h => by exfalso; omega)
  refine lv_goto (tgt := 1803) hx hb dL_law_930 (by decide) ?_
  refine W.widen (k := ce7 + 30) (n := sn7 + 1100) (by omega) (by omega) ?_
  exact kk _ _ _ ⟨hC, ⟨_, _, _, _, _, _, _, _, _, _, _, _, _, _, _, _, _, _, _, _, hR⟩, ⟨_, hO⟩, hTx⟩ hS (lv_sub hl [2, 3, 4, 5, 6] rfl)

set_option maxRecDepth 100000 in
set_option maxHeartbeats 800000 in
theorem s_start_C {p : Program} {l : Launch} {e : Env} {s : State} {m : MethodId} {args : Array Value} {below : List Frame} {meth : Method} {c : Code} {H : Heap} {locs : List Loc} {ce7 sn7 : Nat} {Q : State → Prop} {g : GG} {b L xb r ob lim : Nat} {xs : Nat → Int32} {i9 : Nat} {ls : Array Slot} {q : Nat → Int32} {n : Nat} {rm sl sv tx : Nat → Int32} {ln : Nat} {zsp : Nat → Int32} {zth : Int32} {zsg : Nat → Int32} {zbg : Nat → Int32} {zwd : Nat → Int32} {zhg : Nat → Int32} {zin : Nat → Int32} {zop : Int32} {zbe : Int32} {zwi : Int32} {zhi : Int32} {zbk : Nat → Int32} {zot : Nat → Int32} {zer : Int32} {zen : Int32} {zpo : Nat → Int32} {zpi : Int32} {zgr : Int32} {zsh : Nat → Int32} {zsn : Int32} {o : Nat → Int64} (hfl : l.stackTraces = false) (hE : LE p s m meth c g b L xs xb r ob lim) (hi : 4 * i9 + 3 < L) (hC : CLS g xb lim q n rm sl sv tx ln H) (hR : ModAt g r q zsp rm (nI n) sl sv tx (nI ln) zth zsg zbg zwd zhg zin zop zbe zwi zhi zbk zot zer zen zpo zpi zgr zsh zsn H) (hO : at_ g H ob (eL g 1 o)) (hTx : TxT tx ln) (hS : va_S (fun q9 => xb ≤ q9) s.heap H locs) (hl : lv_has ls 7 [(0, .ref b), (1, .ref xb), (2, .ref r), (3, .ref ob), (4, .int (nI (4 * i9)))]) (hce7 : ce7 + 30 ≤ 622861) (hsn7 : sn7 + 1100 ≤ 7227521) (f : Nat) (e9 : Nat) (a1 : xs (4 * i9 + 1) = nI f) (hf : f < 3) (hs0 : szF q f = 0) (hw : wholeS (qn tx) ln = .inl e9) (kk : ∀ (H1 : Heap) (locs1 : List Loc) (ls1 : Array Slot), LI g xb r ob lim q n rm sl sv tx ln H1 → va_S (fun q9 => xb ≤ q9) s.heap H1 locs1 → lv_has ls1 7 [(0, .ref b), (1, .ref xb), (2, .ref r), (3, .ref ob), (4, .int (nI (4 * i9)))] → W p l e room_1 s m args below meth c H1 locs1 (ce7 + 30) (sn7 + 1100) Q (F0 m 1803 ls1 [])) : W p l e room_1 s m args below meth c H locs ce7 sn7 Q (F0 m 877 ls []) := by
  obtain ⟨hB, hZ9, hX, hbl, hL9, hxs, hr9, hob9, hlm9⟩ := hE
  have hx := hB.x
  have hb := hB.b
  have hbA : ¬ (fun q9 => xb ≤ q9) b := fun y9 => by have y8 : xb ≤ b := y9; omega
  have hW := hC.wf
  have hn14 := hC.n14
  have hl6c := hC.l60
  have hnm5 := hW.2.2.1
  have he60 := whole_le hl6c hw
  refine lv_aload_n hx hb dL_law_877 rfl (lv_at hl 1 rfl) ?_
  refine lv_aload_n hx hb dL_law_878 rfl (lv_at hl 0 rfl) ?_
  refine lv_iload hx hb dL_law_879 (lv_at hl 4 rfl) ?_
  refine lv_iconst (v := nI 1) hx hb dL_law_881 (by decide) ?_
  refine mn_iadd hB dL_law_882 ?_
  refine va_sld hx hb hX hbl hbA hS (vp_in_nI (by omega) (by omega)) dL_law_883 ?_
  refine mh_top (y := .int (nI f)) (by rw [nI_clamp (by omega), a1]) ?_
  refine lv_aload_n hx hb dL_law_884 rfl (lv_at hl 3 rfl) ?_
  refine cw_144 (As := [.ref xb, .int (nI f), .ref ob]) (rest := []) hB (hZ9.at hS (fun _ h9 => h9)) (w_start_C l g H xb lim q n rm sl sv tx ln (qn tx) f e9 ob o (hC) (hO) (hTx) (hf) (hs0) (hw) (⟨by omega, by omega⟩) (hfl)) rfl hl.1 (Nat.le_of_ble_eq_true rfl) dL_law_885 ⟨Nat.le_of_ble_eq_true rfl, Nat.le_of_ble_eq_true rfl⟩ ⟨by show (ce7) + 1 ≤ 622861; omega, by show (sn7) + 6 ≤ 7227521; omega⟩ hS (by have hz9 := hS.1; rintro q9 (h9 | h9) <;> first | exact h9.elim | (have h8 : r ≤ q9 ∧ q9 < r + 16 := h9; show xb ≤ q9; omega) | (have h8 : ((xb ≤ q9 ∧ q9 < xb + 68) ∨ lim ≤ q9) ∨ q9 = ob := h9; show xb ≤ q9; omega) | (have h8 : (xb ≤ q9 ∧ q9 < xb + 68) ∨ lim ≤ q9 := h9; show xb ≤ q9; omega) | (show xb ≤ q9; omega)) (fun v H1 locs hpo hfr hS => ?_)
  obtain ⟨rfl, hC, hO⟩ := hpo
  have hR := hR.keptF hfr (fun q9 h1 h2 y9 => by first | exact y9.elim | (have y8 : ((xb ≤ q9 ∧ q9 < xb + 68) ∨ lim ≤ q9) ∨ q9 = ob := y9; omega) | (have y8 : (xb ≤ q9 ∧ q9 < xb + 68) ∨ lim ≤ q9 := y9; omega))
  generalize H1 = H at hfr hS hR hX hC hO ⊢
  refine W.widen (k := ce7 + 1) (n := sn7 + 6) (by show (ce7) + 1 ≤ ce7 + 1; omega) (by show (sn7) + 6 ≤ sn7 + 6; omega) ?_
  refine lv_istore (lv' := [(5, .int (nI 2)), (0, .ref b), (1, .ref xb), (2, .ref r), (3, .ref ob), (4, .int (nI (4 * i9)))]) hx hb dL_law_888 hl (by decide) rfl (fun ls hl => ?_)
  refine lv_aload_n hx hb dL_law_890 rfl (lv_at hl 3 rfl) ?_
  refine lv_aload_n hx hb dL_law_891 rfl (lv_at hl 1 rfl) ?_
  refine lv_iload hx hb dL_law_892 (lv_at hl 5 rfl) ?_
  refine lv_iconst (v := nI 1) hx hb dL_law_894 (by decide) ?_
  refine mn_iadd hB dL_law_895 ?_
  refine va_sld hx hb hX hbl hbA hS (vp_in_nI (by omega) (by omega)) dL_law_896 ?_
  refine mh_top (y := .int (nI f)) (by rw [nI_clamp (by omega), a1]) ?_
  refine cl_L_146 (As := [.int (nI f)]) (rest := []) hB (c_X11_start_t2 l g H r q zsp rm (nI n) sl sv tx zth zsg zbg zwd zhg zin zop zbe zwi zhi zbk zot zer zen zpo zpi zgr zsh zsn (qn tx) ln e9 f hR (by first | assumption | omega) (hTx) (hw) (hf)) hR.o rfl hl.1 (Nat.le_of_ble_eq_true rfl) dL_law_897 ⟨Nat.le_of_ble_eq_true rfl, Nat.le_of_ble_eq_true rfl⟩ ⟨by show (ce7 + 1) + 0 ≤ 622861; omega, by show (sn7 + 6) + 0 ≤ 7227521; omega⟩ hS (by have hz9 := hS.1; rintro q9 (h9 | h9) <;> first | exact h9.elim | (have h8 : r ≤ q9 ∧ q9 < r + 16 := h9; show xb ≤ q9; omega) | (have h8 : ((xb ≤ q9 ∧ q9 < xb + 68) ∨ lim ≤ q9) ∨ q9 = ob := h9; show xb ≤ q9; omega) | (have h8 : (xb ≤ q9 ∧ q9 < xb + 68) ∨ lim ≤ q9 := h9; show xb ≤ q9; omega) | (show xb ≤ q9; omega)) (fun v H1 locs hpo hfr hS => ?_)
  obtain ⟨rfl, op2_1, be2_2, wi2_3, hi2_4, bk2_5, ot2_6, wd2_7, hg2_8, in2_9, er2_10, en2_11, sg2_12, bg2_13, hR⟩ := hpo
  have hC := hC.keptM hfr (fun a9 y9 => by first | exact y9.elim | (have y8 : r ≤ a9 ∧ a9 < r + 16 := y9; omega))
  have hO := Fr.keep hfr hO (fun y9 => by first | exact y9.elim | (have y8 : r ≤ ob ∧ ob < r + 16 := y9; omega) | (have y8 : (xb ≤ ob ∧ ob < xb + 68) ∨ lim ≤ ob := y9; omega))
  generalize H1 = H at hfr hS hX hC hO hR ⊢
  refine W.widen (k := ce7 + 1) (n := sn7 + 6) (by show (ce7 + 1) + 0 ≤ ce7 + 1; omega) (by show (sn7 + 6) + 0 ≤ sn7 + 6; omega) ?_
  refine lv_istore (lv' := [(6, .int (nI 0)), (5, .int (nI 2)), (0, .ref b), (1, .ref xb), (2, .ref r), (3, .ref ob), (4, .int (nI (4 * i9)))]) hx hb dL_law_900 hl (by decide) rfl (fun ls hl => ?_)
  refine lv_aload_n hx hb dL_law_902 rfl (lv_at hl 4 rfl) ?_
  refine cl_L_102 (As := []) (rest := []) hB (c_X11_thrown l g H r q zsp rm (nI n) sl sv tx (nI ln) (nI 2) sg2_12 bg2_13 wd2_7 hg2_8 in2_9 op2_1 be2_2 wi2_3 hi2_4 bk2_5 ot2_6 er2_10 en2_11 zpo zpi zgr zsh zsn hR) hR.o rfl hl.1 (Nat.le_of_ble_eq_true rfl) dL_law_903 ⟨Nat.le_of_ble_eq_true rfl, Nat.le_of_ble_eq_true rfl⟩ ⟨by show (ce7 + 1) + 0 ≤ 622861; omega, by show (sn7 + 6) + 0 ≤ 7227521; omega⟩ hS (by have hz9 := hS.1; rintro q9 (h9 | h9) <;> first | exact h9.elim | (have h8 : r ≤ q9 ∧ q9 < r + 16 := h9; show xb ≤ q9; omega) | (have h8 : ((xb ≤ q9 ∧ q9 < xb + 68) ∨ lim ≤ q9) ∨ q9 = ob := h9; show xb ≤ q9; omega) | (have h8 : (xb ≤ q9 ∧ q9 < xb + 68) ∨ lim ≤ q9 := h9; show xb ≤ q9; omega) | (show xb ≤ q9; omega)) (fun v H1 locs hpo hfr hS => ?_)
  obtain ⟨rfl, rfl⟩ := hpo
  refine W.widen (k := ce7 + 1) (n := sn7 + 6) (by show (ce7 + 1) + 0 ≤ ce7 + 1; omega) (by show (sn7 + 6) + 0 ≤ sn7 + 6; omega) ?_
  refine lv_iload hx hb dL_law_906 (lv_at hl 1 rfl) ?_
  refine lv_icmp_eq (tgt := 913) hx hb dL_law_908 (by decide) (fun h_908 => ?_) (fun h9 => absurd rfl h9)
  refine lv_iload hx hb dL_law_913 (lv_at hl 1 rfl) ?_
  refine mn_if_ne (tgt := 930) hB dL_law_915 (by decide) (by omega) (fun h_915 => ?_) (fun h => by exfalso; omega)
  refine lv_goto (tgt := 1803) hx hb dL_law_930 (by decide) ?_
  refine W.widen (k := ce7 + 30) (n := sn7 + 1100) (by omega) (by omega) ?_
  exact kk _ _ _ ⟨hC, ⟨_, _, _, _, _, _, _, _, _, _, _, _, _, _, _, _, _, _, _, _, hR⟩, ⟨_, hO⟩, hTx⟩ hS (lv_sub hl [2, 3, 4, 5, 6] rfl)

set_option maxRecDepth 100000 in
set_option maxHeartbeats 800000 in
theorem s_start_ok {p : Program} {l : Launch} {e : Env} {s : State} {m : MethodId} {args : Array Value} {below : List Frame} {meth : Method} {c : Code} {H : Heap} {locs : List Loc} {ce7 sn7 : Nat} {Q : State → Prop} {g : GG} {b L xb r ob lim : Nat} {xs : Nat → Int32} {i9 : Nat} {ls : Array Slot} {q : Nat → Int32} {n : Nat} {rm sl sv tx : Nat → Int32} {ln : Nat} {zsp : Nat → Int32} {zth : Int32} {zsg : Nat → Int32} {zbg : Nat → Int32} {zwd : Nat → Int32} {zhg : Nat → Int32} {zin : Nat → Int32} {zop : Int32} {zbe : Int32} {zwi : Int32} {zhi : Int32} {zbk : Nat → Int32} {zot : Nat → Int32} {zer : Int32} {zen : Int32} {zpo : Nat → Int32} {zpi : Int32} {zgr : Int32} {zsh : Nat → Int32} {zsn : Int32} {o : Nat → Int64} (hfl : l.stackTraces = false) (hE : LE p s m meth c g b L xs xb r ob lim) (hi : 4 * i9 + 3 < L) (hC : CLS g xb lim q n rm sl sv tx ln H) (hR : ModAt g r q zsp rm (nI n) sl sv tx (nI ln) zth zsg zbg zwd zhg zin zop zbe zwi zhi zbk zot zer zen zpo zpi zgr zsh zsn H) (hO : at_ g H ob (eL g 1 o)) (hTx : TxT tx ln) (hS : va_S (fun q9 => xb ≤ q9) s.heap H locs) (hl : lv_has ls 7 [(0, .ref b), (1, .ref xb), (2, .ref r), (3, .ref ob), (4, .int (nI (4 * i9)))]) (hce7 : ce7 + 30 ≤ 622861) (hsn7 : sn7 + 1100 ≤ 7227521) (f : Nat) (bq : PBl) (a1 : xs (4 * i9 + 1) = nI f) (hf : f < 3) (hs0 : szF q f = 0) (hw : wholeS (qn tx) ln = .inr bq) (kk : ∀ (H1 : Heap) (locs1 : List Loc) (ls1 : Array Slot), LI g xb r ob lim (stQ q f bq) (nxtS n) (remA rm n q) sl sv tx ln H1 → va_S (fun q9 => xb ≤ q9) s.heap H1 locs1 → lv_has ls1 7 [(0, .ref b), (1, .ref xb), (2, .ref r), (3, .ref ob), (4, .int (nI (4 * i9)))] → W p l e room_1 s m args below meth c H1 locs1 (ce7 + 30) (sn7 + 1100) Q (F0 m 1803 ls1 [])) : W p l e room_1 s m args below meth c H locs ce7 sn7 Q (F0 m 877 ls []) := by
  obtain ⟨hB, hZ9, hX, hbl, hL9, hxs, hr9, hob9, hlm9⟩ := hE
  have hx := hB.x
  have hb := hB.b
  have hbA : ¬ (fun q9 => xb ≤ q9) b := fun y9 => by have y8 : xb ≤ b := y9; omega
  have hW := hC.wf
  have hn14 := hC.n14
  have hl6c := hC.l60
  have hnm5 := hW.2.2.1
  refine lv_aload_n hx hb dL_law_877 rfl (lv_at hl 1 rfl) ?_
  refine lv_aload_n hx hb dL_law_878 rfl (lv_at hl 0 rfl) ?_
  refine lv_iload hx hb dL_law_879 (lv_at hl 4 rfl) ?_
  refine lv_iconst (v := nI 1) hx hb dL_law_881 (by decide) ?_
  refine mn_iadd hB dL_law_882 ?_
  refine va_sld hx hb hX hbl hbA hS (vp_in_nI (by omega) (by omega)) dL_law_883 ?_
  refine mh_top (y := .int (nI f)) (by rw [nI_clamp (by omega), a1]) ?_
  refine lv_aload_n hx hb dL_law_884 rfl (lv_at hl 3 rfl) ?_
  refine cw_144 (As := [.ref xb, .int (nI f), .ref ob]) (rest := []) hB (hZ9.at hS (fun _ h9 => h9)) (w_start_ok l g H xb lim q n rm sl sv tx ln (qn tx) f bq ob o (hC) (hO) (hTx) (hf) (hs0) (hw) (⟨by omega, by omega⟩) (hfl)) rfl hl.1 (Nat.le_of_ble_eq_true rfl) dL_law_885 ⟨Nat.le_of_ble_eq_true rfl, Nat.le_of_ble_eq_true rfl⟩ ⟨by show (ce7) + 28 ≤ 622861; omega, by show (sn7) + 385 ≤ 7227521; omega⟩ hS (by have hz9 := hS.1; rintro q9 (h9 | h9) <;> first | exact h9.elim | (have h8 : r ≤ q9 ∧ q9 < r + 16 := h9; show xb ≤ q9; omega) | (have h8 : ((xb ≤ q9 ∧ q9 < xb + 68) ∨ lim ≤ q9) ∨ q9 = ob := h9; show xb ≤ q9; omega) | (have h8 : (xb ≤ q9 ∧ q9 < xb + 68) ∨ lim ≤ q9 := h9; show xb ≤ q9; omega) | (show xb ≤ q9; omega)) (fun v H1 locs hpo hfr hS => ?_)
  obtain ⟨rfl, hC, hO⟩ := hpo
  have hR := hR.keptF hfr (fun q9 h1 h2 y9 => by first | exact y9.elim | (have y8 : ((xb ≤ q9 ∧ q9 < xb + 68) ∨ lim ≤ q9) ∨ q9 = ob := y9; omega) | (have y8 : (xb ≤ q9 ∧ q9 < xb + 68) ∨ lim ≤ q9 := y9; omega))
  generalize H1 = H at hfr hS hR hX hC hO ⊢
  refine W.widen (k := ce7 + 28) (n := sn7 + 385) (by show (ce7) + 28 ≤ ce7 + 28; omega) (by show (sn7) + 385 ≤ sn7 + 385; omega) ?_
  refine lv_istore (lv' := [(5, .int (nI 0)), (0, .ref b), (1, .ref xb), (2, .ref r), (3, .ref ob), (4, .int (nI (4 * i9)))]) hx hb dL_law_888 hl (by decide) rfl (fun ls hl => ?_)
  refine lv_aload_n hx hb dL_law_890 rfl (lv_at hl 3 rfl) ?_
  refine lv_aload_n hx hb dL_law_891 rfl (lv_at hl 1 rfl) ?_
  refine lv_iload hx hb dL_law_892 (lv_at hl 5 rfl) ?_
  refine lv_iconst (v := nI 1) hx hb dL_law_894 (by decide) ?_
  refine mn_iadd hB dL_law_895 ?_
  refine va_sld hx hb hX hbl hbA hS (vp_in_nI (by omega) (by omega)) dL_law_896 ?_
  refine mh_top (y := .int (nI f)) (by rw [nI_clamp (by omega), a1]) ?_
  refine cl_L_146 (As := [.int (nI f)]) (rest := []) hB (c_X11_start l g H r q zsp rm sl sv tx zth zsg zbg zwd zhg zin zop zbe zwi zhi zbk zot zer zen zpo zpi zgr zsh zsn (qn tx) ln n bq f hR (by first | assumption | omega) (hTx) (by first | assumption | omega) (hw) (hf) (by first | assumption | omega) (hs0)) hR.o rfl hl.1 (Nat.le_of_ble_eq_true rfl) dL_law_897 ⟨Nat.le_of_ble_eq_true rfl, Nat.le_of_ble_eq_true rfl⟩ ⟨by show (ce7 + 28) + 0 ≤ 622861; omega, by show (sn7 + 385) + 0 ≤ 7227521; omega⟩ hS (by have hz9 := hS.1; rintro q9 (h9 | h9) <;> first | exact h9.elim | (have h8 : r ≤ q9 ∧ q9 < r + 16 := h9; show xb ≤ q9; omega) | (have h8 : ((xb ≤ q9 ∧ q9 < xb + 68) ∨ lim ≤ q9) ∨ q9 = ob := h9; show xb ≤ q9; omega) | (have h8 : (xb ≤ q9 ∧ q9 < xb + 68) ∨ lim ≤ q9 := h9; show xb ≤ q9; omega) | (show xb ≤ q9; omega)) (fun v H1 locs hpo hfr hS => ?_)
  obtain ⟨rfl, op2_1, be2_2, wi2_3, hi2_4, bk2_5, ot2_6, wd2_7, hg2_8, in2_9, er2_10, en2_11, sg2_12, bg2_13, hR⟩ := hpo
  have hC := hC.keptM hfr (fun a9 y9 => by first | exact y9.elim | (have y8 : r ≤ a9 ∧ a9 < r + 16 := y9; omega))
  have hO := Fr.keep hfr hO (fun y9 => by first | exact y9.elim | (have y8 : r ≤ ob ∧ ob < r + 16 := y9; omega) | (have y8 : (xb ≤ ob ∧ ob < xb + 68) ∨ lim ≤ ob := y9; omega))
  generalize H1 = H at hfr hS hX hC hO hR ⊢
  refine W.widen (k := ce7 + 28) (n := sn7 + 385) (by show (ce7 + 28) + 0 ≤ ce7 + 28; omega) (by show (sn7 + 385) + 0 ≤ sn7 + 385; omega) ?_
  refine lv_istore (lv' := [(6, .int (nI (bq.1 * bq.2.1))), (5, .int (nI 0)), (0, .ref b), (1, .ref xb), (2, .ref r), (3, .ref ob), (4, .int (nI (4 * i9)))]) hx hb dL_law_900 hl (by decide) rfl (fun ls hl => ?_)
  refine lv_aload_n hx hb dL_law_902 rfl (lv_at hl 4 rfl) ?_
  refine cl_L_102 (As := []) (rest := []) hB (c_X11_thrown l g H r (stQ q f bq) zsp (remA rm n q) (nI (nxtS n)) sl sv tx (nI ln) (nI 0) sg2_12 bg2_13 wd2_7 hg2_8 in2_9 op2_1 be2_2 wi2_3 hi2_4 bk2_5 ot2_6 er2_10 en2_11 zpo zpi zgr zsh zsn hR) hR.o rfl hl.1 (Nat.le_of_ble_eq_true rfl) dL_law_903 ⟨Nat.le_of_ble_eq_true rfl, Nat.le_of_ble_eq_true rfl⟩ ⟨by show (ce7 + 28) + 0 ≤ 622861; omega, by show (sn7 + 385) + 0 ≤ 7227521; omega⟩ hS (by have hz9 := hS.1; rintro q9 (h9 | h9) <;> first | exact h9.elim | (have h8 : r ≤ q9 ∧ q9 < r + 16 := h9; show xb ≤ q9; omega) | (have h8 : ((xb ≤ q9 ∧ q9 < xb + 68) ∨ lim ≤ q9) ∨ q9 = ob := h9; show xb ≤ q9; omega) | (have h8 : (xb ≤ q9 ∧ q9 < xb + 68) ∨ lim ≤ q9 := h9; show xb ≤ q9; omega) | (show xb ≤ q9; omega)) (fun v H1 locs hpo hfr hS => ?_)
  obtain ⟨rfl, rfl⟩ := hpo
  refine W.widen (k := ce7 + 28) (n := sn7 + 385) (by show (ce7 + 28) + 0 ≤ ce7 + 28; omega) (by show (sn7 + 385) + 0 ≤ sn7 + 385; omega) ?_
  refine lv_iload hx hb dL_law_906 (lv_at hl 1 rfl) ?_
  refine lv_icmp_eq (tgt := 913) hx hb dL_law_908 (by decide) (fun h_908 => ?_) (fun h9 => absurd rfl h9)
  refine lv_iload hx hb dL_law_913 (lv_at hl 1 rfl) ?_
  refine mn_if_ne (tgt := 930) hB dL_law_915 (by decide) (by omega) (fun h => by exfalso; omega) (fun h_915 => ?_)
  refine lv_aload_n hx hb dL_law_918 rfl (lv_at hl 5 rfl) ?_
  refine lv_iconst (v := nI 0) hx hb dL_law_919 (by decide) ?_
  refine mn_lald hB hO (by omega) (by omega) dL_law_920 ?_
  refine mh_top (y := .long ((nI (bq.1 * bq.2.1)).toInt64)) (rfl) ?_
  refine lv_iload hx hb dL_law_921 (lv_at hl 0 rfl) ?_
  refine lv_i2l (v := (nI (bq.1 * bq.2.1)).toInt64) hx hb dL_law_923 rfl ?_
  refine W.lcmp hx hb dL_law_924 ?_
  refine ml_if_eq (tgt := 930) hB dL_law_925 (by decide) (fun h_925 => ?_) (fun h => absurd rfl h)
  refine lv_goto (tgt := 1803) hx hb dL_law_930 (by decide) ?_
  refine W.widen (k := ce7 + 30) (n := sn7 + 1100) (by omega) (by omega) ?_
  exact kk _ _ _ ⟨hC, ⟨_, _, _, _, _, _, _, _, _, _, _, _, _, _, _, _, _, _, _, _, hR⟩, ⟨_, hO⟩, hTx⟩ hS (lv_sub hl [2, 3, 4, 5, 6] rfl)

set_option maxRecDepth 100000 in
set_option maxHeartbeats 800000 in
theorem s_recolour_t1 {p : Program} {l : Launch} {e : Env} {s : State} {m : MethodId} {args : Array Value} {below : List Frame} {meth : Method} {c : Code} {H : Heap} {locs : List Loc} {ce7 sn7 : Nat} {Q : State → Prop} {g : GG} {b L xb r ob lim : Nat} {xs : Nat → Int32} {i9 : Nat} {ls : Array Slot} {q : Nat → Int32} {n : Nat} {rm sl sv tx : Nat → Int32} {ln : Nat} {zsp : Nat → Int32} {zth : Int32} {zsg : Nat → Int32} {zbg : Nat → Int32} {zwd : Nat → Int32} {zhg : Nat → Int32} {zin : Nat → Int32} {zop : Int32} {zbe : Int32} {zwi : Int32} {zhi : Int32} {zbk : Nat → Int32} {zot : Nat → Int32} {zer : Int32} {zen : Int32} {zpo : Nat → Int32} {zpi : Int32} {zgr : Int32} {zsh : Nat → Int32} {zsn : Int32} {o : Nat → Int64} (hfl : l.stackTraces = false) (hE : LE p s m meth c g b L xs xb r ob lim) (hi : 4 * i9 + 3 < L) (hC : CLS g xb lim q n rm sl sv tx ln H) (hR : ModAt g r q zsp rm (nI n) sl sv tx (nI ln) zth zsg zbg zwd zhg zin zop zbe zwi zhi zbk zot zer zen zpo zpi zgr zsh zsn H) (hO : at_ g H ob (eL g 1 o)) (hTx : TxT tx ln) (hS : va_S (fun q9 => xb ≤ q9) s.heap H locs) (hl : lv_has ls 7 [(0, .ref b), (1, .ref xb), (2, .ref r), (3, .ref ob), (4, .int (nI (4 * i9)))]) (hce7 : ce7 + 30 ≤ 622861) (hsn7 : sn7 + 1100 ≤ 7227521) (x : Int32) (y : Int32) (z : Int32) (a1 : xs (4 * i9 + 1) = x) (a2 : xs (4 * i9 + 2) = y) (a3 : xs (4 * i9 + 3) = z) (hx1 : isIx x 3 = false) (kk : ∀ (H1 : Heap) (locs1 : List Loc) (ls1 : Array Slot), LI g xb r ob lim q n rm sl sv tx ln H1 → va_S (fun q9 => xb ≤ q9) s.heap H1 locs1 → lv_has ls1 7 [(0, .ref b), (1, .ref xb), (2, .ref r), (3, .ref ob), (4, .int (nI (4 * i9)))] → W p l e room_1 s m args below meth c H1 locs1 (ce7 + 30) (sn7 + 1100) Q (F0 m 1803 ls1 [])) : W p l e room_1 s m args below meth c H locs ce7 sn7 Q (F0 m 933 ls []) := by
  obtain ⟨hB, hZ9, hX, hbl, hL9, hxs, hr9, hob9, hlm9⟩ := hE
  have hx := hB.x
  have hb := hB.b
  have hbA : ¬ (fun q9 => xb ≤ q9) b := fun y9 => by have y8 : xb ≤ b := y9; omega
  have hW := hC.wf
  have hn14 := hC.n14
  have hl6c := hC.l60
  have hnm5 := hW.2.2.1
  refine lv_aload_n hx hb dL_law_933 rfl (lv_at hl 1 rfl) ?_
  refine lv_aload_n hx hb dL_law_934 rfl (lv_at hl 0 rfl) ?_
  refine lv_iload hx hb dL_law_935 (lv_at hl 4 rfl) ?_
  refine lv_iconst (v := nI 1) hx hb dL_law_937 (by decide) ?_
  refine mn_iadd hB dL_law_938 ?_
  refine va_sld hx hb hX hbl hbA hS (vp_in_nI (by omega) (by omega)) dL_law_939 ?_
  refine mh_top (y := .int x) (by rw [nI_clamp (by omega), a1]) ?_
  refine lv_aload_n hx hb dL_law_940 rfl (lv_at hl 0 rfl) ?_
  refine lv_iload hx hb dL_law_941 (lv_at hl 4 rfl) ?_
  refine lv_iconst (v := nI 2) hx hb dL_law_943 (by decide) ?_
  refine mn_iadd hB dL_law_944 ?_
  refine va_sld hx hb hX hbl hbA hS (vp_in_nI (by omega) (by omega)) dL_law_945 ?_
  refine mh_top (y := .int y) (by rw [nI_clamp (by omega), a2]) ?_
  refine lv_aload_n hx hb dL_law_946 rfl (lv_at hl 0 rfl) ?_
  refine lv_iload hx hb dL_law_947 (lv_at hl 4 rfl) ?_
  refine lv_iconst (v := nI 3) hx hb dL_law_949 (by decide) ?_
  refine mn_iadd hB dL_law_950 ?_
  refine va_sld hx hb hX hbl hbA hS (vp_in_nI (by omega) (by omega)) dL_law_951 ?_
  refine mh_top (y := .int z) (by rw [nI_clamp (by omega), a3]) ?_
  refine lv_aload_n hx hb dL_law_952 rfl (lv_at hl 3 rfl) ?_
  refine cw_147 (As := [.ref xb, .int x, .int y, .int z, .ref ob]) (rest := []) hB (hZ9.at hS (fun _ h9 => h9)) (w_recolour_t1 l g H xb lim q n rm sl sv tx ln x y z ob o (hC) (hO) (hx1) (⟨by omega, by omega⟩) (hfl)) rfl hl.1 (Nat.le_of_ble_eq_true rfl) dL_law_953 ⟨Nat.le_of_ble_eq_true rfl, Nat.le_of_ble_eq_true rfl⟩ ⟨by show (ce7) + 1 ≤ 622861; omega, by show (sn7) + 6 ≤ 7227521; omega⟩ hS (by have hz9 := hS.1; rintro q9 (h9 | h9) <;> first | exact h9.elim | (have h8 : r ≤ q9 ∧ q9 < r + 16 := h9; show xb ≤ q9; omega) | (have h8 : ((xb ≤ q9 ∧ q9 < xb + 68) ∨ lim ≤ q9) ∨ q9 = ob := h9; show xb ≤ q9; omega) | (have h8 : (xb ≤ q9 ∧ q9 < xb + 68) ∨ lim ≤ q9 := h9; show xb ≤ q9; omega) | (show xb ≤ q9; omega)) (fun v H1 locs hpo hfr hS => ?_)
  obtain ⟨rfl, hC, hO⟩ := hpo
  have hR := hR.keptF hfr (fun q9 h1 h2 y9 => by first | exact y9.elim | (have y8 : ((xb ≤ q9 ∧ q9 < xb + 68) ∨ lim ≤ q9) ∨ q9 = ob := y9; omega) | (have y8 : (xb ≤ q9 ∧ q9 < xb + 68) ∨ lim ≤ q9 := y9; omega))
  generalize H1 = H at hfr hS hR hX hC hO ⊢
  refine W.widen (k := ce7 + 1) (n := sn7 + 6) (by show (ce7) + 1 ≤ ce7 + 1; omega) (by show (sn7) + 6 ≤ sn7 + 6; omega) ?_
  refine lv_istore (lv' := [(5, .int (nI 1)), (0, .ref b), (1, .ref xb), (2, .ref r), (3, .ref ob), (4, .int (nI (4 * i9)))]) hx hb dL_law_956 hl (by decide) rfl (fun ls hl => ?_)
  refine lv_aload_n hx hb dL_law_958 rfl (lv_at hl 3 rfl) ?_
  refine lv_aload_n hx hb dL_law_959 rfl (lv_at hl 1 rfl) ?_
  refine lv_iload hx hb dL_law_960 (lv_at hl 5 rfl) ?_
  refine lv_iconst (v := nI 1) hx hb dL_law_962 (by decide) ?_
  refine mn_iadd hB dL_law_963 ?_
  refine va_sld hx hb hX hbl hbA hS (vp_in_nI (by omega) (by omega)) dL_law_964 ?_
  refine mh_top (y := .int x) (by rw [nI_clamp (by omega), a1]) ?_
  refine lv_aload_n hx hb dL_law_965 rfl (lv_at hl 1 rfl) ?_
  refine lv_iload hx hb dL_law_966 (lv_at hl 5 rfl) ?_
  refine lv_iconst (v := nI 2) hx hb dL_law_968 (by decide) ?_
  refine mn_iadd hB dL_law_969 ?_
  refine va_sld hx hb hX hbl hbA hS (vp_in_nI (by omega) (by omega)) dL_law_970 ?_
  refine mh_top (y := .int y) (by rw [nI_clamp (by omega), a2]) ?_
  refine lv_aload_n hx hb dL_law_971 rfl (lv_at hl 1 rfl) ?_
  refine lv_iload hx hb dL_law_972 (lv_at hl 5 rfl) ?_
  refine lv_iconst (v := nI 3) hx hb dL_law_974 (by decide) ?_
  refine mn_iadd hB dL_law_975 ?_
  refine va_sld hx hb hX hbl hbA hS (vp_in_nI (by omega) (by omega)) dL_law_976 ?_
  refine mh_top (y := .int z) (by rw [nI_clamp (by omega), a3]) ?_
  refine cl_L_149 (As := [.int x, .int y, .int z]) (rest := []) hB (c_X11_recolour_t1 l g H r q zsp rm (nI n) sl sv tx (nI ln) zth zsg zbg zwd zhg zin zop zbe zwi zhi zbk zot zer zen zpo zpi zgr zsh zsn x y z hR (Or.inl hx1)) hR.o rfl hl.1 (Nat.le_of_ble_eq_true rfl) dL_law_977 ⟨Nat.le_of_ble_eq_true rfl, Nat.le_of_ble_eq_true rfl⟩ ⟨by show (ce7 + 1) + 0 ≤ 622861; omega, by show (sn7 + 6) + 0 ≤ 7227521; omega⟩ hS (by have hz9 := hS.1; rintro q9 (h9 | h9) <;> first | exact h9.elim | (have h8 : r ≤ q9 ∧ q9 < r + 16 := h9; show xb ≤ q9; omega) | (have h8 : ((xb ≤ q9 ∧ q9 < xb + 68) ∨ lim ≤ q9) ∨ q9 = ob := h9; show xb ≤ q9; omega) | (have h8 : (xb ≤ q9 ∧ q9 < xb + 68) ∨ lim ≤ q9 := h9; show xb ≤ q9; omega) | (show xb ≤ q9; omega)) (fun v H1 locs hpo hfr hS => ?_)
  obtain ⟨rfl, hR⟩ := hpo
  have hC := hC.keptM hfr (fun a9 y9 => by first | exact y9.elim | (have y8 : r ≤ a9 ∧ a9 < r + 16 := y9; omega))
  have hO := Fr.keep hfr hO (fun y9 => by first | exact y9.elim | (have y8 : r ≤ ob ∧ ob < r + 16 := y9; omega) | (have y8 : (xb ≤ ob ∧ ob < xb + 68) ∨ lim ≤ ob := y9; omega))
  generalize H1 = H at hfr hS hX hC hO hR ⊢
  refine W.widen (k := ce7 + 1) (n := sn7 + 6) (by show (ce7 + 1) + 0 ≤ ce7 + 1; omega) (by show (sn7 + 6) + 0 ≤ sn7 + 6; omega) ?_
  refine lv_istore (lv' := [(6, .int (nI 0)), (5, .int (nI 1)), (0, .ref b), (1, .ref xb), (2, .ref r), (3, .ref ob), (4, .int (nI (4 * i9)))]) hx hb dL_law_980 hl (by decide) rfl (fun ls hl => ?_)
  refine lv_aload_n hx hb dL_law_982 rfl (lv_at hl 4 rfl) ?_
  refine cl_L_102 (As := []) (rest := []) hB (c_X11_thrown l g H r q zsp rm (nI n) sl sv tx (nI ln) (nI 1) zsg zbg zwd zhg zin zop zbe zwi zhi zbk zot zer zen zpo zpi zgr zsh zsn hR) hR.o rfl hl.1 (Nat.le_of_ble_eq_true rfl) dL_law_983 ⟨Nat.le_of_ble_eq_true rfl, Nat.le_of_ble_eq_true rfl⟩ ⟨by show (ce7 + 1) + 0 ≤ 622861; omega, by show (sn7 + 6) + 0 ≤ 7227521; omega⟩ hS (by have hz9 := hS.1; rintro q9 (h9 | h9) <;> first | exact h9.elim | (have h8 : r ≤ q9 ∧ q9 < r + 16 := h9; show xb ≤ q9; omega) | (have h8 : ((xb ≤ q9 ∧ q9 < xb + 68) ∨ lim ≤ q9) ∨ q9 = ob := h9; show xb ≤ q9; omega) | (have h8 : (xb ≤ q9 ∧ q9 < xb + 68) ∨ lim ≤ q9 := h9; show xb ≤ q9; omega) | (show xb ≤ q9; omega)) (fun v H1 locs hpo hfr hS => ?_)
  obtain ⟨rfl, rfl⟩ := hpo
  refine W.widen (k := ce7 + 1) (n := sn7 + 6) (by show (ce7 + 1) + 0 ≤ ce7 + 1; omega) (by show (sn7 + 6) + 0 ≤ sn7 + 6; omega) ?_
  refine lv_iload hx hb dL_law_986 (lv_at hl 1 rfl) ?_
  refine lv_icmp_eq (tgt := 993) hx hb dL_law_988 (by decide) (fun h_988 => ?_) (fun h9 => absurd rfl h9)
  refine lv_iload hx hb dL_law_993 (lv_at hl 1 rfl) ?_
  refine mn_if_ne (tgt := 1010) hB dL_law_995 (by decide) (by omega) (fun h_995 => ?_) (fun h => by exfalso; omega)
  refine lv_goto (tgt := 1803) hx hb dL_law_1010 (by decide) ?_
  refine W.widen (k := ce7 + 30) (n := sn7 + 1100) (by omega) (by omega) ?_
  exact kk _ _ _ ⟨hC, ⟨_, _, _, _, _, _, _, _, _, _, _, _, _, _, _, _, _, _, _, _, hR⟩, ⟨_, hO⟩, hTx⟩ hS (lv_sub hl [2, 3, 4, 5, 6] rfl)

set_option maxRecDepth 100000 in
set_option maxHeartbeats 800000 in
theorem s_recolour_t1b {p : Program} {l : Launch} {e : Env} {s : State} {m : MethodId} {args : Array Value} {below : List Frame} {meth : Method} {c : Code} {H : Heap} {locs : List Loc} {ce7 sn7 : Nat} {Q : State → Prop} {g : GG} {b L xb r ob lim : Nat} {xs : Nat → Int32} {i9 : Nat} {ls : Array Slot} {q : Nat → Int32} {n : Nat} {rm sl sv tx : Nat → Int32} {ln : Nat} {zsp : Nat → Int32} {zth : Int32} {zsg : Nat → Int32} {zbg : Nat → Int32} {zwd : Nat → Int32} {zhg : Nat → Int32} {zin : Nat → Int32} {zop : Int32} {zbe : Int32} {zwi : Int32} {zhi : Int32} {zbk : Nat → Int32} {zot : Nat → Int32} {zer : Int32} {zen : Int32} {zpo : Nat → Int32} {zpi : Int32} {zgr : Int32} {zsh : Nat → Int32} {zsn : Int32} {o : Nat → Int64} (hfl : l.stackTraces = false) (hE : LE p s m meth c g b L xs xb r ob lim) (hi : 4 * i9 + 3 < L) (hC : CLS g xb lim q n rm sl sv tx ln H) (hR : ModAt g r q zsp rm (nI n) sl sv tx (nI ln) zth zsg zbg zwd zhg zin zop zbe zwi zhi zbk zot zer zen zpo zpi zgr zsh zsn H) (hO : at_ g H ob (eL g 1 o)) (hTx : TxT tx ln) (hS : va_S (fun q9 => xb ≤ q9) s.heap H locs) (hl : lv_has ls 7 [(0, .ref b), (1, .ref xb), (2, .ref r), (3, .ref ob), (4, .int (nI (4 * i9)))]) (hce7 : ce7 + 30 ≤ 622861) (hsn7 : sn7 + 1100 ≤ 7227521) (f : Nat) (y : Int32) (z : Int32) (a1 : xs (4 * i9 + 1) = nI f) (a2 : xs (4 * i9 + 2) = y) (a3 : xs (4 * i9 + 3) = z) (hf : f < 3) (hx1 : isIx y 6 = false) (kk : ∀ (H1 : Heap) (locs1 : List Loc) (ls1 : Array Slot), LI g xb r ob lim q n rm sl sv tx ln H1 → va_S (fun q9 => xb ≤ q9) s.heap H1 locs1 → lv_has ls1 7 [(0, .ref b), (1, .ref xb), (2, .ref r), (3, .ref ob), (4, .int (nI (4 * i9)))] → W p l e room_1 s m args below meth c H1 locs1 (ce7 + 30) (sn7 + 1100) Q (F0 m 1803 ls1 [])) : W p l e room_1 s m args below meth c H locs ce7 sn7 Q (F0 m 933 ls []) := by
  obtain ⟨hB, hZ9, hX, hbl, hL9, hxs, hr9, hob9, hlm9⟩ := hE
  have hx := hB.x
  have hb := hB.b
  have hbA : ¬ (fun q9 => xb ≤ q9) b := fun y9 => by have y8 : xb ≤ b := y9; omega
  have hW := hC.wf
  have hn14 := hC.n14
  have hl6c := hC.l60
  have hnm5 := hW.2.2.1
  refine lv_aload_n hx hb dL_law_933 rfl (lv_at hl 1 rfl) ?_
  refine lv_aload_n hx hb dL_law_934 rfl (lv_at hl 0 rfl) ?_
  refine lv_iload hx hb dL_law_935 (lv_at hl 4 rfl) ?_
  refine lv_iconst (v := nI 1) hx hb dL_law_937 (by decide) ?_
  refine mn_iadd hB dL_law_938 ?_
  refine va_sld hx hb hX hbl hbA hS (vp_in_nI (by omega) (by omega)) dL_law_939 ?_
  refine mh_top (y := .int (nI f)) (by rw [nI_clamp (by omega), a1]) ?_
  refine lv_aload_n hx hb dL_law_940 rfl (lv_at hl 0 rfl) ?_
  refine lv_iload hx hb dL_law_941 (lv_at hl 4 rfl) ?_
  refine lv_iconst (v := nI 2) hx hb dL_law_943 (by decide) ?_
  refine mn_iadd hB dL_law_944 ?_
  refine va_sld hx hb hX hbl hbA hS (vp_in_nI (by omega) (by omega)) dL_law_945 ?_
  refine mh_top (y := .int y) (by rw [nI_clamp (by omega), a2]) ?_
  refine lv_aload_n hx hb dL_law_946 rfl (lv_at hl 0 rfl) ?_
  refine lv_iload hx hb dL_law_947 (lv_at hl 4 rfl) ?_
  refine lv_iconst (v := nI 3) hx hb dL_law_949 (by decide) ?_
  refine mn_iadd hB dL_law_950 ?_
  refine va_sld hx hb hX hbl hbA hS (vp_in_nI (by omega) (by omega)) dL_law_951 ?_
  refine mh_top (y := .int z) (by rw [nI_clamp (by omega), a3]) ?_
  refine lv_aload_n hx hb dL_law_952 rfl (lv_at hl 3 rfl) ?_
  refine cw_147 (As := [.ref xb, .int (nI f), .int y, .int z, .ref ob]) (rest := []) hB (hZ9.at hS (fun _ h9 => h9)) (w_recolour_t1b l g H xb lim q n rm sl sv tx ln f y z ob o (hC) (hO) (hf) (hx1) (⟨by omega, by omega⟩) (hfl)) rfl hl.1 (Nat.le_of_ble_eq_true rfl) dL_law_953 ⟨Nat.le_of_ble_eq_true rfl, Nat.le_of_ble_eq_true rfl⟩ ⟨by show (ce7) + 1 ≤ 622861; omega, by show (sn7) + 6 ≤ 7227521; omega⟩ hS (by have hz9 := hS.1; rintro q9 (h9 | h9) <;> first | exact h9.elim | (have h8 : r ≤ q9 ∧ q9 < r + 16 := h9; show xb ≤ q9; omega) | (have h8 : ((xb ≤ q9 ∧ q9 < xb + 68) ∨ lim ≤ q9) ∨ q9 = ob := h9; show xb ≤ q9; omega) | (have h8 : (xb ≤ q9 ∧ q9 < xb + 68) ∨ lim ≤ q9 := h9; show xb ≤ q9; omega) | (show xb ≤ q9; omega)) (fun v H1 locs hpo hfr hS => ?_)
  obtain ⟨rfl, hC, hO⟩ := hpo
  have hR := hR.keptF hfr (fun q9 h1 h2 y9 => by first | exact y9.elim | (have y8 : ((xb ≤ q9 ∧ q9 < xb + 68) ∨ lim ≤ q9) ∨ q9 = ob := y9; omega) | (have y8 : (xb ≤ q9 ∧ q9 < xb + 68) ∨ lim ≤ q9 := y9; omega))
  generalize H1 = H at hfr hS hR hX hC hO ⊢
  refine W.widen (k := ce7 + 1) (n := sn7 + 6) (by show (ce7) + 1 ≤ ce7 + 1; omega) (by show (sn7) + 6 ≤ sn7 + 6; omega) ?_
  refine lv_istore (lv' := [(5, .int (nI 1)), (0, .ref b), (1, .ref xb), (2, .ref r), (3, .ref ob), (4, .int (nI (4 * i9)))]) hx hb dL_law_956 hl (by decide) rfl (fun ls hl => ?_)
  refine lv_aload_n hx hb dL_law_958 rfl (lv_at hl 3 rfl) ?_
  refine lv_aload_n hx hb dL_law_959 rfl (lv_at hl 1 rfl) ?_
  refine lv_iload hx hb dL_law_960 (lv_at hl 5 rfl) ?_
  refine lv_iconst (v := nI 1) hx hb dL_law_962 (by decide) ?_
  refine mn_iadd hB dL_law_963 ?_
  refine va_sld hx hb hX hbl hbA hS (vp_in_nI (by omega) (by omega)) dL_law_964 ?_
  refine mh_top (y := .int (nI f)) (by rw [nI_clamp (by omega), a1]) ?_
  refine lv_aload_n hx hb dL_law_965 rfl (lv_at hl 1 rfl) ?_
  refine lv_iload hx hb dL_law_966 (lv_at hl 5 rfl) ?_
  refine lv_iconst (v := nI 2) hx hb dL_law_968 (by decide) ?_
  refine mn_iadd hB dL_law_969 ?_
  refine va_sld hx hb hX hbl hbA hS (vp_in_nI (by omega) (by omega)) dL_law_970 ?_
  refine mh_top (y := .int y) (by rw [nI_clamp (by omega), a2]) ?_
  refine lv_aload_n hx hb dL_law_971 rfl (lv_at hl 1 rfl) ?_
  refine lv_iload hx hb dL_law_972 (lv_at hl 5 rfl) ?_
  refine lv_iconst (v := nI 3) hx hb dL_law_974 (by decide) ?_
  refine mn_iadd hB dL_law_975 ?_
  refine va_sld hx hb hX hbl hbA hS (vp_in_nI (by omega) (by omega)) dL_law_976 ?_
  refine mh_top (y := .int z) (by rw [nI_clamp (by omega), a3]) ?_
  refine cl_L_149 (As := [.int (nI f), .int y, .int z]) (rest := []) hB (c_X11_recolour_t1 l g H r q zsp rm (nI n) sl sv tx (nI ln) zth zsg zbg zwd zhg zin zop zbe zwi zhi zbk zot zer zen zpo zpi zgr zsh zsn (nI f) y z hR (Or.inr (Or.inl hx1))) hR.o rfl hl.1 (Nat.le_of_ble_eq_true rfl) dL_law_977 ⟨Nat.le_of_ble_eq_true rfl, Nat.le_of_ble_eq_true rfl⟩ ⟨by show (ce7 + 1) + 0 ≤ 622861; omega, by show (sn7 + 6) + 0 ≤ 7227521; omega⟩ hS (by have hz9 := hS.1; rintro q9 (h9 | h9) <;> first | exact h9.elim | (have h8 : r ≤ q9 ∧ q9 < r + 16 := h9; show xb ≤ q9; omega) | (have h8 : ((xb ≤ q9 ∧ q9 < xb + 68) ∨ lim ≤ q9) ∨ q9 = ob := h9; show xb ≤ q9; omega) | (have h8 : (xb ≤ q9 ∧ q9 < xb + 68) ∨ lim ≤ q9 := h9; show xb ≤ q9; omega) | (show xb ≤ q9; omega)) (fun v H1 locs hpo hfr hS => ?_)
  obtain ⟨rfl, hR⟩ := hpo
  have hC := hC.keptM hfr (fun a9 y9 => by first | exact y9.elim | (have y8 : r ≤ a9 ∧ a9 < r + 16 := y9; omega))
  have hO := Fr.keep hfr hO (fun y9 => by first | exact y9.elim | (have y8 : r ≤ ob ∧ ob < r + 16 := y9; omega) | (have y8 : (xb ≤ ob ∧ ob < xb + 68) ∨ lim ≤ ob := y9; omega))
  generalize H1 = H at hfr hS hX hC hO hR ⊢
  refine W.widen (k := ce7 + 1) (n := sn7 + 6) (by show (ce7 + 1) + 0 ≤ ce7 + 1; omega) (by show (sn7 + 6) + 0 ≤ sn7 + 6; omega) ?_
  refine lv_istore (lv' := [(6, .int (nI 0)), (5, .int (nI 1)), (0, .ref b), (1, .ref xb), (2, .ref r), (3, .ref ob), (4, .int (nI (4 * i9)))]) hx hb dL_law_980 hl (by decide) rfl (fun ls hl => ?_)
  refine lv_aload_n hx hb dL_law_982 rfl (lv_at hl 4 rfl) ?_
  refine cl_L_102 (As := []) (rest := []) hB (c_X11_thrown l g H r q zsp rm (nI n) sl sv tx (nI ln) (nI 1) zsg zbg zwd zhg zin zop zbe zwi zhi zbk zot zer zen zpo zpi zgr zsh zsn hR) hR.o rfl hl.1 (Nat.le_of_ble_eq_true rfl) dL_law_983 ⟨Nat.le_of_ble_eq_true rfl, Nat.le_of_ble_eq_true rfl⟩ ⟨by show (ce7 + 1) + 0 ≤ 622861; omega, by show (sn7 + 6) + 0 ≤ 7227521; omega⟩ hS (by have hz9 := hS.1; rintro q9 (h9 | h9) <;> first | exact h9.elim | (have h8 : r ≤ q9 ∧ q9 < r + 16 := h9; show xb ≤ q9; omega) | (have h8 : ((xb ≤ q9 ∧ q9 < xb + 68) ∨ lim ≤ q9) ∨ q9 = ob := h9; show xb ≤ q9; omega) | (have h8 : (xb ≤ q9 ∧ q9 < xb + 68) ∨ lim ≤ q9 := h9; show xb ≤ q9; omega) | (show xb ≤ q9; omega)) (fun v H1 locs hpo hfr hS => ?_)
  obtain ⟨rfl, rfl⟩ := hpo
  refine W.widen (k := ce7 + 1) (n := sn7 + 6) (by show (ce7 + 1) + 0 ≤ ce7 + 1; omega) (by show (sn7 + 6) + 0 ≤ sn7 + 6; omega) ?_
  refine lv_iload hx hb dL_law_986 (lv_at hl 1 rfl) ?_
  refine lv_icmp_eq (tgt := 993) hx hb dL_law_988 (by decide) (fun h_988 => ?_) (fun h9 => absurd rfl h9)
  refine lv_iload hx hb dL_law_993 (lv_at hl 1 rfl) ?_
  refine mn_if_ne (tgt := 1010) hB dL_law_995 (by decide) (by omega) (fun h_995 => ?_) (fun h => by exfalso; omega)
  refine lv_goto (tgt := 1803) hx hb dL_law_1010 (by decide) ?_
  refine W.widen (k := ce7 + 30) (n := sn7 + 1100) (by omega) (by omega) ?_
  exact kk _ _ _ ⟨hC, ⟨_, _, _, _, _, _, _, _, _, _, _, _, _, _, _, _, _, _, _, _, hR⟩, ⟨_, hO⟩, hTx⟩ hS (lv_sub hl [2, 3, 4, 5, 6] rfl)

set_option maxRecDepth 100000 in
set_option maxHeartbeats 800000 in
theorem s_recolour_t1c {p : Program} {l : Launch} {e : Env} {s : State} {m : MethodId} {args : Array Value} {below : List Frame} {meth : Method} {c : Code} {H : Heap} {locs : List Loc} {ce7 sn7 : Nat} {Q : State → Prop} {g : GG} {b L xb r ob lim : Nat} {xs : Nat → Int32} {i9 : Nat} {ls : Array Slot} {q : Nat → Int32} {n : Nat} {rm sl sv tx : Nat → Int32} {ln : Nat} {zsp : Nat → Int32} {zth : Int32} {zsg : Nat → Int32} {zbg : Nat → Int32} {zwd : Nat → Int32} {zhg : Nat → Int32} {zin : Nat → Int32} {zop : Int32} {zbe : Int32} {zwi : Int32} {zhi : Int32} {zbk : Nat → Int32} {zot : Nat → Int32} {zer : Int32} {zen : Int32} {zpo : Nat → Int32} {zpi : Int32} {zgr : Int32} {zsh : Nat → Int32} {zsn : Int32} {o : Nat → Int64} (hfl : l.stackTraces = false) (hE : LE p s m meth c g b L xs xb r ob lim) (hi : 4 * i9 + 3 < L) (hC : CLS g xb lim q n rm sl sv tx ln H) (hR : ModAt g r q zsp rm (nI n) sl sv tx (nI ln) zth zsg zbg zwd zhg zin zop zbe zwi zhi zbk zot zer zen zpo zpi zgr zsh zsn H) (hO : at_ g H ob (eL g 1 o)) (hTx : TxT tx ln) (hS : va_S (fun q9 => xb ≤ q9) s.heap H locs) (hl : lv_has ls 7 [(0, .ref b), (1, .ref xb), (2, .ref r), (3, .ref ob), (4, .int (nI (4 * i9)))]) (hce7 : ce7 + 30 ≤ 622861) (hsn7 : sn7 + 1100 ≤ 7227521) (f : Nat) (c0 : Nat) (z : Int32) (a1 : xs (4 * i9 + 1) = nI f) (a2 : xs (4 * i9 + 2) = nI c0) (a3 : xs (4 * i9 + 3) = z) (hf : f < 3) (hc : c0 < 6) (hx1 : isIx z 6 = false) (kk : ∀ (H1 : Heap) (locs1 : List Loc) (ls1 : Array Slot), LI g xb r ob lim q n rm sl sv tx ln H1 → va_S (fun q9 => xb ≤ q9) s.heap H1 locs1 → lv_has ls1 7 [(0, .ref b), (1, .ref xb), (2, .ref r), (3, .ref ob), (4, .int (nI (4 * i9)))] → W p l e room_1 s m args below meth c H1 locs1 (ce7 + 30) (sn7 + 1100) Q (F0 m 1803 ls1 [])) : W p l e room_1 s m args below meth c H locs ce7 sn7 Q (F0 m 933 ls []) := by
  obtain ⟨hB, hZ9, hX, hbl, hL9, hxs, hr9, hob9, hlm9⟩ := hE
  have hx := hB.x
  have hb := hB.b
  have hbA : ¬ (fun q9 => xb ≤ q9) b := fun y9 => by have y8 : xb ≤ b := y9; omega
  have hW := hC.wf
  have hn14 := hC.n14
  have hl6c := hC.l60
  have hnm5 := hW.2.2.1
  refine lv_aload_n hx hb dL_law_933 rfl (lv_at hl 1 rfl) ?_
  refine lv_aload_n hx hb dL_law_934 rfl (lv_at hl 0 rfl) ?_
  refine lv_iload hx hb dL_law_935 (lv_at hl 4 rfl) ?_
  refine lv_iconst (v := nI 1) hx hb dL_law_937 (by decide) ?_
  refine mn_iadd hB dL_law_938 ?_
  refine va_sld hx hb hX hbl hbA hS (vp_in_nI (by omega) (by omega)) dL_law_939 ?_
  refine mh_top (y := .int (nI f)) (by rw [nI_clamp (by omega), a1]) ?_
  refine lv_aload_n hx hb dL_law_940 rfl (lv_at hl 0 rfl) ?_
  refine lv_iload hx hb dL_law_941 (lv_at hl 4 rfl) ?_
  refine lv_iconst (v := nI 2) hx hb dL_law_943 (by decide) ?_
  refine mn_iadd hB dL_law_944 ?_
  refine va_sld hx hb hX hbl hbA hS (vp_in_nI (by omega) (by omega)) dL_law_945 ?_
  refine mh_top (y := .int (nI c0)) (by rw [nI_clamp (by omega), a2]) ?_
  refine lv_aload_n hx hb dL_law_946 rfl (lv_at hl 0 rfl) ?_
  refine lv_iload hx hb dL_law_947 (lv_at hl 4 rfl) ?_
  refine lv_iconst (v := nI 3) hx hb dL_law_949 (by decide) ?_
  refine mn_iadd hB dL_law_950 ?_
  refine va_sld hx hb hX hbl hbA hS (vp_in_nI (by omega) (by omega)) dL_law_951 ?_
  refine mh_top (y := .int z) (by rw [nI_clamp (by omega), a3]) ?_
  refine lv_aload_n hx hb dL_law_952 rfl (lv_at hl 3 rfl) ?_
  refine cw_147 (As := [.ref xb, .int (nI f), .int (nI c0), .int z, .ref ob]) (rest := []) hB (hZ9.at hS (fun _ h9 => h9)) (w_recolour_t1c l g H xb lim q n rm sl sv tx ln f c0 z ob o (hC) (hO) (hf) (hc) (hx1) (⟨by omega, by omega⟩) (hfl)) rfl hl.1 (Nat.le_of_ble_eq_true rfl) dL_law_953 ⟨Nat.le_of_ble_eq_true rfl, Nat.le_of_ble_eq_true rfl⟩ ⟨by show (ce7) + 1 ≤ 622861; omega, by show (sn7) + 6 ≤ 7227521; omega⟩ hS (by have hz9 := hS.1; rintro q9 (h9 | h9) <;> first | exact h9.elim | (have h8 : r ≤ q9 ∧ q9 < r + 16 := h9; show xb ≤ q9; omega) | (have h8 : ((xb ≤ q9 ∧ q9 < xb + 68) ∨ lim ≤ q9) ∨ q9 = ob := h9; show xb ≤ q9; omega) | (have h8 : (xb ≤ q9 ∧ q9 < xb + 68) ∨ lim ≤ q9 := h9; show xb ≤ q9; omega) | (show xb ≤ q9; omega)) (fun v H1 locs hpo hfr hS => ?_)
  obtain ⟨rfl, hC, hO⟩ := hpo
  have hR := hR.keptF hfr (fun q9 h1 h2 y9 => by first | exact y9.elim | (have y8 : ((xb ≤ q9 ∧ q9 < xb + 68) ∨ lim ≤ q9) ∨ q9 = ob := y9; omega) | (have y8 : (xb ≤ q9 ∧ q9 < xb + 68) ∨ lim ≤ q9 := y9; omega))
  generalize H1 = H at hfr hS hR hX hC hO ⊢
  refine W.widen (k := ce7 + 1) (n := sn7 + 6) (by show (ce7) + 1 ≤ ce7 + 1; omega) (by show (sn7) + 6 ≤ sn7 + 6; omega) ?_
  refine lv_istore (lv' := [(5, .int (nI 1)), (0, .ref b), (1, .ref xb), (2, .ref r), (3, .ref ob), (4, .int (nI (4 * i9)))]) hx hb dL_law_956 hl (by decide) rfl (fun ls hl => ?_)
  refine lv_aload_n hx hb dL_law_958 rfl (lv_at hl 3 rfl) ?_
  refine lv_aload_n hx hb dL_law_959 rfl (lv_at hl 1 rfl) ?_
  refine lv_iload hx hb dL_law_960 (lv_at hl 5 rfl) ?_
  refine lv_iconst (v := nI 1) hx hb dL_law_962 (by decide) ?_
  refine mn_iadd hB dL_law_963 ?_
  refine va_sld hx hb hX hbl hbA hS (vp_in_nI (by omega) (by omega)) dL_law_964 ?_
  refine mh_top (y := .int (nI f)) (by rw [nI_clamp (by omega), a1]) ?_
  refine lv_aload_n hx hb dL_law_965 rfl (lv_at hl 1 rfl) ?_
  refine lv_iload hx hb dL_law_966 (lv_at hl 5 rfl) ?_
  refine lv_iconst (v := nI 2) hx hb dL_law_968 (by decide) ?_
  refine mn_iadd hB dL_law_969 ?_
  refine va_sld hx hb hX hbl hbA hS (vp_in_nI (by omega) (by omega)) dL_law_970 ?_
  refine mh_top (y := .int (nI c0)) (by rw [nI_clamp (by omega), a2]) ?_
  refine lv_aload_n hx hb dL_law_971 rfl (lv_at hl 1 rfl) ?_
  refine lv_iload hx hb dL_law_972 (lv_at hl 5 rfl) ?_
  refine lv_iconst (v := nI 3) hx hb dL_law_974 (by decide) ?_
  refine mn_iadd hB dL_law_975 ?_
  refine va_sld hx hb hX hbl hbA hS (vp_in_nI (by omega) (by omega)) dL_law_976 ?_
  refine mh_top (y := .int z) (by rw [nI_clamp (by omega), a3]) ?_
  refine cl_L_149 (As := [.int (nI f), .int (nI c0), .int z]) (rest := []) hB (c_X11_recolour_t1 l g H r q zsp rm (nI n) sl sv tx (nI ln) zth zsg zbg zwd zhg zin zop zbe zwi zhi zbk zot zer zen zpo zpi zgr zsh zsn (nI f) (nI c0) z hR (Or.inr (Or.inr hx1))) hR.o rfl hl.1 (Nat.le_of_ble_eq_true rfl) dL_law_977 ⟨Nat.le_of_ble_eq_true rfl, Nat.le_of_ble_eq_true rfl⟩ ⟨by show (ce7 + 1) + 0 ≤ 622861; omega, by show (sn7 + 6) + 0 ≤ 7227521; omega⟩ hS (by have hz9 := hS.1; rintro q9 (h9 | h9) <;> first | exact h9.elim | (have h8 : r ≤ q9 ∧ q9 < r + 16 := h9; show xb ≤ q9; omega) | (have h8 : ((xb ≤ q9 ∧ q9 < xb + 68) ∨ lim ≤ q9) ∨ q9 = ob := h9; show xb ≤ q9; omega) | (have h8 : (xb ≤ q9 ∧ q9 < xb + 68) ∨ lim ≤ q9 := h9; show xb ≤ q9; omega) | (show xb ≤ q9; omega)) (fun v H1 locs hpo hfr hS => ?_)
  obtain ⟨rfl, hR⟩ := hpo
  have hC := hC.keptM hfr (fun a9 y9 => by first | exact y9.elim | (have y8 : r ≤ a9 ∧ a9 < r + 16 := y9; omega))
  have hO := Fr.keep hfr hO (fun y9 => by first | exact y9.elim | (have y8 : r ≤ ob ∧ ob < r + 16 := y9; omega) | (have y8 : (xb ≤ ob ∧ ob < xb + 68) ∨ lim ≤ ob := y9; omega))
  generalize H1 = H at hfr hS hX hC hO hR ⊢
  refine W.widen (k := ce7 + 1) (n := sn7 + 6) (by show (ce7 + 1) + 0 ≤ ce7 + 1; omega) (by show (sn7 + 6) + 0 ≤ sn7 + 6; omega) ?_
  refine lv_istore (lv' := [(6, .int (nI 0)), (5, .int (nI 1)), (0, .ref b), (1, .ref xb), (2, .ref r), (3, .ref ob), (4, .int (nI (4 * i9)))]) hx hb dL_law_980 hl (by decide) rfl (fun ls hl => ?_)
  refine lv_aload_n hx hb dL_law_982 rfl (lv_at hl 4 rfl) ?_
  refine cl_L_102 (As := []) (rest := []) hB (c_X11_thrown l g H r q zsp rm (nI n) sl sv tx (nI ln) (nI 1) zsg zbg zwd zhg zin zop zbe zwi zhi zbk zot zer zen zpo zpi zgr zsh zsn hR) hR.o rfl hl.1 (Nat.le_of_ble_eq_true rfl) dL_law_983 ⟨Nat.le_of_ble_eq_true rfl, Nat.le_of_ble_eq_true rfl⟩ ⟨by show (ce7 + 1) + 0 ≤ 622861; omega, by show (sn7 + 6) + 0 ≤ 7227521; omega⟩ hS (by have hz9 := hS.1; rintro q9 (h9 | h9) <;> first | exact h9.elim | (have h8 : r ≤ q9 ∧ q9 < r + 16 := h9; show xb ≤ q9; omega) | (have h8 : ((xb ≤ q9 ∧ q9 < xb + 68) ∨ lim ≤ q9) ∨ q9 = ob := h9; show xb ≤ q9; omega) | (have h8 : (xb ≤ q9 ∧ q9 < xb + 68) ∨ lim ≤ q9 := h9; show xb ≤ q9; omega) | (show xb ≤ q9; omega)) (fun v H1 locs hpo hfr hS => ?_)
  obtain ⟨rfl, rfl⟩ := hpo
  refine W.widen (k := ce7 + 1) (n := sn7 + 6) (by show (ce7 + 1) + 0 ≤ ce7 + 1; omega) (by show (sn7 + 6) + 0 ≤ sn7 + 6; omega) ?_
  refine lv_iload hx hb dL_law_986 (lv_at hl 1 rfl) ?_
  refine lv_icmp_eq (tgt := 993) hx hb dL_law_988 (by decide) (fun h_988 => ?_) (fun h9 => absurd rfl h9)
  refine lv_iload hx hb dL_law_993 (lv_at hl 1 rfl) ?_
  refine mn_if_ne (tgt := 1010) hB dL_law_995 (by decide) (by omega) (fun h_995 => ?_) (fun h => by exfalso; omega)
  refine lv_goto (tgt := 1803) hx hb dL_law_1010 (by decide) ?_
  refine W.widen (k := ce7 + 30) (n := sn7 + 1100) (by omega) (by omega) ?_
  exact kk _ _ _ ⟨hC, ⟨_, _, _, _, _, _, _, _, _, _, _, _, _, _, _, _, _, _, _, _, hR⟩, ⟨_, hO⟩, hTx⟩ hS (lv_sub hl [2, 3, 4, 5, 6] rfl)

set_option maxRecDepth 100000 in
set_option maxHeartbeats 800000 in
theorem s_recolour_t2 {p : Program} {l : Launch} {e : Env} {s : State} {m : MethodId} {args : Array Value} {below : List Frame} {meth : Method} {c : Code} {H : Heap} {locs : List Loc} {ce7 sn7 : Nat} {Q : State → Prop} {g : GG} {b L xb r ob lim : Nat} {xs : Nat → Int32} {i9 : Nat} {ls : Array Slot} {q : Nat → Int32} {n : Nat} {rm sl sv tx : Nat → Int32} {ln : Nat} {zsp : Nat → Int32} {zth : Int32} {zsg : Nat → Int32} {zbg : Nat → Int32} {zwd : Nat → Int32} {zhg : Nat → Int32} {zin : Nat → Int32} {zop : Int32} {zbe : Int32} {zwi : Int32} {zhi : Int32} {zbk : Nat → Int32} {zot : Nat → Int32} {zer : Int32} {zen : Int32} {zpo : Nat → Int32} {zpi : Int32} {zgr : Int32} {zsh : Nat → Int32} {zsn : Int32} {o : Nat → Int64} (hfl : l.stackTraces = false) (hE : LE p s m meth c g b L xs xb r ob lim) (hi : 4 * i9 + 3 < L) (hC : CLS g xb lim q n rm sl sv tx ln H) (hR : ModAt g r q zsp rm (nI n) sl sv tx (nI ln) zth zsg zbg zwd zhg zin zop zbe zwi zhi zbk zot zer zen zpo zpi zgr zsh zsn H) (hO : at_ g H ob (eL g 1 o)) (hTx : TxT tx ln) (hS : va_S (fun q9 => xb ≤ q9) s.heap H locs) (hl : lv_has ls 7 [(0, .ref b), (1, .ref xb), (2, .ref r), (3, .ref ob), (4, .int (nI (4 * i9)))]) (hce7 : ce7 + 30 ≤ 622861) (hsn7 : sn7 + 1100 ≤ 7227521) (f : Nat) (a0 : Nat) (b0 : Nat) (a1 : xs (4 * i9 + 1) = nI f) (a2 : xs (4 * i9 + 2) = nI a0) (a3 : xs (4 * i9 + 3) = nI b0) (hf : f < 3) (ha : a0 < 6) (hb8 : b0 < 6) (hs0 : ¬ (0 < szF q f ∧ swF q f = 0)) (kk : ∀ (H1 : Heap) (locs1 : List Loc) (ls1 : Array Slot), LI g xb r ob lim q n rm sl sv tx ln H1 → va_S (fun q9 => xb ≤ q9) s.heap H1 locs1 → lv_has ls1 7 [(0, .ref b), (1, .ref xb), (2, .ref r), (3, .ref ob), (4, .int (nI (4 * i9)))] → W p l e room_1 s m args below meth c H1 locs1 (ce7 + 30) (sn7 + 1100) Q (F0 m 1803 ls1 [])) : W p l e room_1 s m args below meth c H locs ce7 sn7 Q (F0 m 933 ls []) := by
  obtain ⟨hB, hZ9, hX, hbl, hL9, hxs, hr9, hob9, hlm9⟩ := hE
  have hx := hB.x
  have hb := hB.b
  have hbA : ¬ (fun q9 => xb ≤ q9) b := fun y9 => by have y8 : xb ≤ b := y9; omega
  have hW := hC.wf
  have hn14 := hC.n14
  have hl6c := hC.l60
  have hnm5 := hW.2.2.1
  refine lv_aload_n hx hb dL_law_933 rfl (lv_at hl 1 rfl) ?_
  refine lv_aload_n hx hb dL_law_934 rfl (lv_at hl 0 rfl) ?_
  refine lv_iload hx hb dL_law_935 (lv_at hl 4 rfl) ?_
  refine lv_iconst (v := nI 1) hx hb dL_law_937 (by decide) ?_
  refine mn_iadd hB dL_law_938 ?_
  refine va_sld hx hb hX hbl hbA hS (vp_in_nI (by omega) (by omega)) dL_law_939 ?_
  refine mh_top (y := .int (nI f)) (by rw [nI_clamp (by omega), a1]) ?_
  refine lv_aload_n hx hb dL_law_940 rfl (lv_at hl 0 rfl) ?_
  refine lv_iload hx hb dL_law_941 (lv_at hl 4 rfl) ?_
  refine lv_iconst (v := nI 2) hx hb dL_law_943 (by decide) ?_
  refine mn_iadd hB dL_law_944 ?_
  refine va_sld hx hb hX hbl hbA hS (vp_in_nI (by omega) (by omega)) dL_law_945 ?_
  refine mh_top (y := .int (nI a0)) (by rw [nI_clamp (by omega), a2]) ?_
  refine lv_aload_n hx hb dL_law_946 rfl (lv_at hl 0 rfl) ?_
  refine lv_iload hx hb dL_law_947 (lv_at hl 4 rfl) ?_
  refine lv_iconst (v := nI 3) hx hb dL_law_949 (by decide) ?_
  refine mn_iadd hB dL_law_950 ?_
  refine va_sld hx hb hX hbl hbA hS (vp_in_nI (by omega) (by omega)) dL_law_951 ?_
  refine mh_top (y := .int (nI b0)) (by rw [nI_clamp (by omega), a3]) ?_
  refine lv_aload_n hx hb dL_law_952 rfl (lv_at hl 3 rfl) ?_
  refine cw_147 (As := [.ref xb, .int (nI f), .int (nI a0), .int (nI b0), .ref ob]) (rest := []) hB (hZ9.at hS (fun _ h9 => h9)) (w_recolour_t2 l g H xb lim q n rm sl sv tx ln f a0 b0 ob o (hC) (hO) (hf) (ha) (hb8) (hs0) (⟨by omega, by omega⟩) (hfl)) rfl hl.1 (Nat.le_of_ble_eq_true rfl) dL_law_953 ⟨Nat.le_of_ble_eq_true rfl, Nat.le_of_ble_eq_true rfl⟩ ⟨by show (ce7) + 1 ≤ 622861; omega, by show (sn7) + 6 ≤ 7227521; omega⟩ hS (by have hz9 := hS.1; rintro q9 (h9 | h9) <;> first | exact h9.elim | (have h8 : r ≤ q9 ∧ q9 < r + 16 := h9; show xb ≤ q9; omega) | (have h8 : ((xb ≤ q9 ∧ q9 < xb + 68) ∨ lim ≤ q9) ∨ q9 = ob := h9; show xb ≤ q9; omega) | (have h8 : (xb ≤ q9 ∧ q9 < xb + 68) ∨ lim ≤ q9 := h9; show xb ≤ q9; omega) | (show xb ≤ q9; omega)) (fun v H1 locs hpo hfr hS => ?_)
  obtain ⟨rfl, hC, hO⟩ := hpo
  have hR := hR.keptF hfr (fun q9 h1 h2 y9 => by first | exact y9.elim | (have y8 : ((xb ≤ q9 ∧ q9 < xb + 68) ∨ lim ≤ q9) ∨ q9 = ob := y9; omega) | (have y8 : (xb ≤ q9 ∧ q9 < xb + 68) ∨ lim ≤ q9 := y9; omega))
  generalize H1 = H at hfr hS hR hX hC hO ⊢
  refine W.widen (k := ce7 + 1) (n := sn7 + 6) (by show (ce7) + 1 ≤ ce7 + 1; omega) (by show (sn7) + 6 ≤ sn7 + 6; omega) ?_
  refine lv_istore (lv' := [(5, .int (nI 2)), (0, .ref b), (1, .ref xb), (2, .ref r), (3, .ref ob), (4, .int (nI (4 * i9)))]) hx hb dL_law_956 hl (by decide) rfl (fun ls hl => ?_)
  refine lv_aload_n hx hb dL_law_958 rfl (lv_at hl 3 rfl) ?_
  refine lv_aload_n hx hb dL_law_959 rfl (lv_at hl 1 rfl) ?_
  refine lv_iload hx hb dL_law_960 (lv_at hl 5 rfl) ?_
  refine lv_iconst (v := nI 1) hx hb dL_law_962 (by decide) ?_
  refine mn_iadd hB dL_law_963 ?_
  refine va_sld hx hb hX hbl hbA hS (vp_in_nI (by omega) (by omega)) dL_law_964 ?_
  refine mh_top (y := .int (nI f)) (by rw [nI_clamp (by omega), a1]) ?_
  refine lv_aload_n hx hb dL_law_965 rfl (lv_at hl 1 rfl) ?_
  refine lv_iload hx hb dL_law_966 (lv_at hl 5 rfl) ?_
  refine lv_iconst (v := nI 2) hx hb dL_law_968 (by decide) ?_
  refine mn_iadd hB dL_law_969 ?_
  refine va_sld hx hb hX hbl hbA hS (vp_in_nI (by omega) (by omega)) dL_law_970 ?_
  refine mh_top (y := .int (nI a0)) (by rw [nI_clamp (by omega), a2]) ?_
  refine lv_aload_n hx hb dL_law_971 rfl (lv_at hl 1 rfl) ?_
  refine lv_iload hx hb dL_law_972 (lv_at hl 5 rfl) ?_
  refine lv_iconst (v := nI 3) hx hb dL_law_974 (by decide) ?_
  refine mn_iadd hB dL_law_975 ?_
  refine va_sld hx hb hX hbl hbA hS (vp_in_nI (by omega) (by omega)) dL_law_976 ?_
  refine mh_top (y := .int (nI b0)) (by rw [nI_clamp (by omega), a3]) ?_
  refine cl_L_149 (As := [.int (nI f), .int (nI a0), .int (nI b0)]) (rest := []) hB (c_X11_recolour_t2 l g H r q zsp rm (nI n) sl sv tx (nI ln) zth zsg zbg zwd zhg zin zop zbe zwi zhi zbk zot zer zen zpo zpi zgr zsh zsn f a0 b0 hR (by first | assumption | omega) (hf) (ha) (hb8) (hs0)) hR.o rfl hl.1 (Nat.le_of_ble_eq_true rfl) dL_law_977 ⟨Nat.le_of_ble_eq_true rfl, Nat.le_of_ble_eq_true rfl⟩ ⟨by show (ce7 + 1) + 0 ≤ 622861; omega, by show (sn7 + 6) + 0 ≤ 7227521; omega⟩ hS (by have hz9 := hS.1; rintro q9 (h9 | h9) <;> first | exact h9.elim | (have h8 : r ≤ q9 ∧ q9 < r + 16 := h9; show xb ≤ q9; omega) | (have h8 : ((xb ≤ q9 ∧ q9 < xb + 68) ∨ lim ≤ q9) ∨ q9 = ob := h9; show xb ≤ q9; omega) | (have h8 : (xb ≤ q9 ∧ q9 < xb + 68) ∨ lim ≤ q9 := h9; show xb ≤ q9; omega) | (show xb ≤ q9; omega)) (fun v H1 locs hpo hfr hS => ?_)
  obtain ⟨rfl, hR⟩ := hpo
  have hC := hC.keptM hfr (fun a9 y9 => by first | exact y9.elim | (have y8 : r ≤ a9 ∧ a9 < r + 16 := y9; omega))
  have hO := Fr.keep hfr hO (fun y9 => by first | exact y9.elim | (have y8 : r ≤ ob ∧ ob < r + 16 := y9; omega) | (have y8 : (xb ≤ ob ∧ ob < xb + 68) ∨ lim ≤ ob := y9; omega))
  generalize H1 = H at hfr hS hX hC hO hR ⊢
  refine W.widen (k := ce7 + 1) (n := sn7 + 6) (by show (ce7 + 1) + 0 ≤ ce7 + 1; omega) (by show (sn7 + 6) + 0 ≤ sn7 + 6; omega) ?_
  refine lv_istore (lv' := [(6, .int (nI 0)), (5, .int (nI 2)), (0, .ref b), (1, .ref xb), (2, .ref r), (3, .ref ob), (4, .int (nI (4 * i9)))]) hx hb dL_law_980 hl (by decide) rfl (fun ls hl => ?_)
  refine lv_aload_n hx hb dL_law_982 rfl (lv_at hl 4 rfl) ?_
  refine cl_L_102 (As := []) (rest := []) hB (c_X11_thrown l g H r q zsp rm (nI n) sl sv tx (nI ln) (nI 2) zsg zbg zwd zhg zin zop zbe zwi zhi zbk zot zer zen zpo zpi zgr zsh zsn hR) hR.o rfl hl.1 (Nat.le_of_ble_eq_true rfl) dL_law_983 ⟨Nat.le_of_ble_eq_true rfl, Nat.le_of_ble_eq_true rfl⟩ ⟨by show (ce7 + 1) + 0 ≤ 622861; omega, by show (sn7 + 6) + 0 ≤ 7227521; omega⟩ hS (by have hz9 := hS.1; rintro q9 (h9 | h9) <;> first | exact h9.elim | (have h8 : r ≤ q9 ∧ q9 < r + 16 := h9; show xb ≤ q9; omega) | (have h8 : ((xb ≤ q9 ∧ q9 < xb + 68) ∨ lim ≤ q9) ∨ q9 = ob := h9; show xb ≤ q9; omega) | (have h8 : (xb ≤ q9 ∧ q9 < xb + 68) ∨ lim ≤ q9 := h9; show xb ≤ q9; omega) | (show xb ≤ q9; omega)) (fun v H1 locs hpo hfr hS => ?_)
  obtain ⟨rfl, rfl⟩ := hpo
  refine W.widen (k := ce7 + 1) (n := sn7 + 6) (by show (ce7 + 1) + 0 ≤ ce7 + 1; omega) (by show (sn7 + 6) + 0 ≤ sn7 + 6; omega) ?_
  refine lv_iload hx hb dL_law_986 (lv_at hl 1 rfl) ?_
  refine lv_icmp_eq (tgt := 993) hx hb dL_law_988 (by decide) (fun h_988 => ?_) (fun h9 => absurd rfl h9)
  refine lv_iload hx hb dL_law_993 (lv_at hl 1 rfl) ?_
  refine mn_if_ne (tgt := 1010) hB dL_law_995 (by decide) (by omega) (fun h_995 => ?_) (fun h => by exfalso; omega)
  refine lv_goto (tgt := 1803) hx hb dL_law_1010 (by decide) ?_
  refine W.widen (k := ce7 + 30) (n := sn7 + 1100) (by omega) (by omega) ?_
  exact kk _ _ _ ⟨hC, ⟨_, _, _, _, _, _, _, _, _, _, _, _, _, _, _, _, _, _, _, _, hR⟩, ⟨_, hO⟩, hTx⟩ hS (lv_sub hl [2, 3, 4, 5, 6] rfl)

set_option maxRecDepth 100000 in
set_option maxHeartbeats 800000 in
theorem s_recolour_e {p : Program} {l : Launch} {e : Env} {s : State} {m : MethodId} {args : Array Value} {below : List Frame} {meth : Method} {c : Code} {H : Heap} {locs : List Loc} {ce7 sn7 : Nat} {Q : State → Prop} {g : GG} {b L xb r ob lim : Nat} {xs : Nat → Int32} {i9 : Nat} {ls : Array Slot} {q : Nat → Int32} {n : Nat} {rm sl sv tx : Nat → Int32} {ln : Nat} {zsp : Nat → Int32} {zth : Int32} {zsg : Nat → Int32} {zbg : Nat → Int32} {zwd : Nat → Int32} {zhg : Nat → Int32} {zin : Nat → Int32} {zop : Int32} {zbe : Int32} {zwi : Int32} {zhi : Int32} {zbk : Nat → Int32} {zot : Nat → Int32} {zer : Int32} {zen : Int32} {zpo : Nat → Int32} {zpi : Int32} {zgr : Int32} {zsh : Nat → Int32} {zsn : Int32} {o : Nat → Int64} (hfl : l.stackTraces = false) (hE : LE p s m meth c g b L xs xb r ob lim) (hi : 4 * i9 + 3 < L) (hC : CLS g xb lim q n rm sl sv tx ln H) (hR : ModAt g r q zsp rm (nI n) sl sv tx (nI ln) zth zsg zbg zwd zhg zin zop zbe zwi zhi zbk zot zer zen zpo zpi zgr zsh zsn H) (hO : at_ g H ob (eL g 1 o)) (hTx : TxT tx ln) (hS : va_S (fun q9 => xb ≤ q9) s.heap H locs) (hl : lv_has ls 7 [(0, .ref b), (1, .ref xb), (2, .ref r), (3, .ref ob), (4, .int (nI (4 * i9)))]) (hce7 : ce7 + 30 ≤ 622861) (hsn7 : sn7 + 1100 ≤ 7227521) (f : Nat) (a0 : Nat) (a1 : xs (4 * i9 + 1) = nI f) (a2 : xs (4 * i9 + 2) = nI a0) (a3 : xs (4 * i9 + 3) = nI a0) (hf : f < 3) (ha : a0 < 6) (hs0 : 0 < szF q f) (hs1 : swF q f = 0) (kk : ∀ (H1 : Heap) (locs1 : List Loc) (ls1 : Array Slot), LI g xb r ob lim (recQ q f a0 a0) (nxtS n) (remA rm n q) sl sv tx ln H1 → va_S (fun q9 => xb ≤ q9) s.heap H1 locs1 → lv_has ls1 7 [(0, .ref b), (1, .ref xb), (2, .ref r), (3, .ref ob), (4, .int (nI (4 * i9)))] → W p l e room_1 s m args below meth c H1 locs1 (ce7 + 30) (sn7 + 1100) Q (F0 m 1803 ls1 [])) : W p l e room_1 s m args below meth c H locs ce7 sn7 Q (F0 m 933 ls []) := by
  obtain ⟨hB, hZ9, hX, hbl, hL9, hxs, hr9, hob9, hlm9⟩ := hE
  have hx := hB.x
  have hb := hB.b
  have hbA : ¬ (fun q9 => xb ≤ q9) b := fun y9 => by have y8 : xb ≤ b := y9; omega
  have hW := hC.wf
  have hn14 := hC.n14
  have hl6c := hC.l60
  have hnm5 := hW.2.2.1
  refine lv_aload_n hx hb dL_law_933 rfl (lv_at hl 1 rfl) ?_
  refine lv_aload_n hx hb dL_law_934 rfl (lv_at hl 0 rfl) ?_
  refine lv_iload hx hb dL_law_935 (lv_at hl 4 rfl) ?_
  refine lv_iconst (v := nI 1) hx hb dL_law_937 (by decide) ?_
  refine mn_iadd hB dL_law_938 ?_
  refine va_sld hx hb hX hbl hbA hS (vp_in_nI (by omega) (by omega)) dL_law_939 ?_
  refine mh_top (y := .int (nI f)) (by rw [nI_clamp (by omega), a1]) ?_
  refine lv_aload_n hx hb dL_law_940 rfl (lv_at hl 0 rfl) ?_
  refine lv_iload hx hb dL_law_941 (lv_at hl 4 rfl) ?_
  refine lv_iconst (v := nI 2) hx hb dL_law_943 (by decide) ?_
  refine mn_iadd hB dL_law_944 ?_
  refine va_sld hx hb hX hbl hbA hS (vp_in_nI (by omega) (by omega)) dL_law_945 ?_
  refine mh_top (y := .int (nI a0)) (by rw [nI_clamp (by omega), a2]) ?_
  refine lv_aload_n hx hb dL_law_946 rfl (lv_at hl 0 rfl) ?_
  refine lv_iload hx hb dL_law_947 (lv_at hl 4 rfl) ?_
  refine lv_iconst (v := nI 3) hx hb dL_law_949 (by decide) ?_
  refine mn_iadd hB dL_law_950 ?_
  refine va_sld hx hb hX hbl hbA hS (vp_in_nI (by omega) (by omega)) dL_law_951 ?_
  refine mh_top (y := .int (nI a0)) (by rw [nI_clamp (by omega), a3]) ?_
  refine lv_aload_n hx hb dL_law_952 rfl (lv_at hl 3 rfl) ?_
  refine cw_147 (As := [.ref xb, .int (nI f), .int (nI a0), .int (nI a0), .ref ob]) (rest := []) hB (hZ9.at hS (fun _ h9 => h9)) (w_recolour_e l g H xb lim q n rm sl sv tx ln f a0 ob o (hC) (hO) (hf) (ha) (hs0) (hs1) (⟨by omega, by omega⟩) (hfl)) rfl hl.1 (Nat.le_of_ble_eq_true rfl) dL_law_953 ⟨Nat.le_of_ble_eq_true rfl, Nat.le_of_ble_eq_true rfl⟩ ⟨by show (ce7) + 28 ≤ 622861; omega, by show (sn7) + 385 ≤ 7227521; omega⟩ hS (by have hz9 := hS.1; rintro q9 (h9 | h9) <;> first | exact h9.elim | (have h8 : r ≤ q9 ∧ q9 < r + 16 := h9; show xb ≤ q9; omega) | (have h8 : ((xb ≤ q9 ∧ q9 < xb + 68) ∨ lim ≤ q9) ∨ q9 = ob := h9; show xb ≤ q9; omega) | (have h8 : (xb ≤ q9 ∧ q9 < xb + 68) ∨ lim ≤ q9 := h9; show xb ≤ q9; omega) | (show xb ≤ q9; omega)) (fun v H1 locs hpo hfr hS => ?_)
  obtain ⟨rfl, hC, hO⟩ := hpo
  have hR := hR.keptF hfr (fun q9 h1 h2 y9 => by first | exact y9.elim | (have y8 : ((xb ≤ q9 ∧ q9 < xb + 68) ∨ lim ≤ q9) ∨ q9 = ob := y9; omega) | (have y8 : (xb ≤ q9 ∧ q9 < xb + 68) ∨ lim ≤ q9 := y9; omega))
  generalize H1 = H at hfr hS hR hX hC hO ⊢
  refine W.widen (k := ce7 + 28) (n := sn7 + 385) (by show (ce7) + 28 ≤ ce7 + 28; omega) (by show (sn7) + 385 ≤ sn7 + 385; omega) ?_
  refine lv_istore (lv' := [(5, .int (nI 0)), (0, .ref b), (1, .ref xb), (2, .ref r), (3, .ref ob), (4, .int (nI (4 * i9)))]) hx hb dL_law_956 hl (by decide) rfl (fun ls hl => ?_)
  refine lv_aload_n hx hb dL_law_958 rfl (lv_at hl 3 rfl) ?_
  refine lv_aload_n hx hb dL_law_959 rfl (lv_at hl 1 rfl) ?_
  refine lv_iload hx hb dL_law_960 (lv_at hl 5 rfl) ?_
  refine lv_iconst (v := nI 1) hx hb dL_law_962 (by decide) ?_
  refine mn_iadd hB dL_law_963 ?_
  refine va_sld hx hb hX hbl hbA hS (vp_in_nI (by omega) (by omega)) dL_law_964 ?_
  refine mh_top (y := .int (nI f)) (by rw [nI_clamp (by omega), a1]) ?_
  refine lv_aload_n hx hb dL_law_965 rfl (lv_at hl 1 rfl) ?_
  refine lv_iload hx hb dL_law_966 (lv_at hl 5 rfl) ?_
  refine lv_iconst (v := nI 2) hx hb dL_law_968 (by decide) ?_
  refine mn_iadd hB dL_law_969 ?_
  refine va_sld hx hb hX hbl hbA hS (vp_in_nI (by omega) (by omega)) dL_law_970 ?_
  refine mh_top (y := .int (nI a0)) (by rw [nI_clamp (by omega), a2]) ?_
  refine lv_aload_n hx hb dL_law_971 rfl (lv_at hl 1 rfl) ?_
  refine lv_iload hx hb dL_law_972 (lv_at hl 5 rfl) ?_
  refine lv_iconst (v := nI 3) hx hb dL_law_974 (by decide) ?_
  refine mn_iadd hB dL_law_975 ?_
  refine va_sld hx hb hX hbl hbA hS (vp_in_nI (by omega) (by omega)) dL_law_976 ?_
  refine mh_top (y := .int (nI a0)) (by rw [nI_clamp (by omega), a3]) ?_
  refine cl_L_149 (As := [.int (nI f), .int (nI a0), .int (nI a0)]) (rest := []) hB (c_X11_recolour l g H r q zsp rm sl sv tx (nI ln) zth zsg zbg zwd zhg zin zop zbe zwi zhi zbk zot zer zen zpo zpi zgr zsh zsn n f a0 a0 hR (by first | assumption | omega) (by first | assumption | omega) (hf) (ha) (by first | assumption | omega) (hs0) (hs1)) hR.o rfl hl.1 (Nat.le_of_ble_eq_true rfl) dL_law_977 ⟨Nat.le_of_ble_eq_true rfl, Nat.le_of_ble_eq_true rfl⟩ ⟨by show (ce7 + 28) + 0 ≤ 622861; omega, by show (sn7 + 385) + 0 ≤ 7227521; omega⟩ hS (by have hz9 := hS.1; rintro q9 (h9 | h9) <;> first | exact h9.elim | (have h8 : r ≤ q9 ∧ q9 < r + 16 := h9; show xb ≤ q9; omega) | (have h8 : ((xb ≤ q9 ∧ q9 < xb + 68) ∨ lim ≤ q9) ∨ q9 = ob := h9; show xb ≤ q9; omega) | (have h8 : (xb ≤ q9 ∧ q9 < xb + 68) ∨ lim ≤ q9 := h9; show xb ≤ q9; omega) | (show xb ≤ q9; omega)) (fun v H1 locs hpo hfr hS => ?_)
  obtain ⟨rfl, hR⟩ := hpo
  have hC := hC.keptM hfr (fun a9 y9 => by first | exact y9.elim | (have y8 : r ≤ a9 ∧ a9 < r + 16 := y9; omega))
  have hO := Fr.keep hfr hO (fun y9 => by first | exact y9.elim | (have y8 : r ≤ ob ∧ ob < r + 16 := y9; omega) | (have y8 : (xb ≤ ob ∧ ob < xb + 68) ∨ lim ≤ ob := y9; omega))
  generalize H1 = H at hfr hS hX hC hO hR ⊢
  refine W.widen (k := ce7 + 28) (n := sn7 + 385) (by show (ce7 + 28) + 0 ≤ ce7 + 28; omega) (by show (sn7 + 385) + 0 ≤ sn7 + 385; omega) ?_
  refine mh_top (y := .int (nI 0)) (by unfold recN; rw [if_pos rfl]) ?_
  refine lv_istore (lv' := [(6, .int (nI 0)), (5, .int (nI 0)), (0, .ref b), (1, .ref xb), (2, .ref r), (3, .ref ob), (4, .int (nI (4 * i9)))]) hx hb dL_law_980 hl (by decide) rfl (fun ls hl => ?_)
  refine lv_aload_n hx hb dL_law_982 rfl (lv_at hl 4 rfl) ?_
  refine cl_L_102 (As := []) (rest := []) hB (c_X11_thrown l g H r (recQ q f a0 a0) zsp (remA rm n q) (nI (nxtS n)) sl sv tx (nI ln) (nI 0) zsg zbg zwd zhg zin zop zbe zwi zhi zbk zot zer zen zpo zpi zgr zsh zsn hR) hR.o rfl hl.1 (Nat.le_of_ble_eq_true rfl) dL_law_983 ⟨Nat.le_of_ble_eq_true rfl, Nat.le_of_ble_eq_true rfl⟩ ⟨by show (ce7 + 28) + 0 ≤ 622861; omega, by show (sn7 + 385) + 0 ≤ 7227521; omega⟩ hS (by have hz9 := hS.1; rintro q9 (h9 | h9) <;> first | exact h9.elim | (have h8 : r ≤ q9 ∧ q9 < r + 16 := h9; show xb ≤ q9; omega) | (have h8 : ((xb ≤ q9 ∧ q9 < xb + 68) ∨ lim ≤ q9) ∨ q9 = ob := h9; show xb ≤ q9; omega) | (have h8 : (xb ≤ q9 ∧ q9 < xb + 68) ∨ lim ≤ q9 := h9; show xb ≤ q9; omega) | (show xb ≤ q9; omega)) (fun v H1 locs hpo hfr hS => ?_)
  obtain ⟨rfl, rfl⟩ := hpo
  refine W.widen (k := ce7 + 28) (n := sn7 + 385) (by show (ce7 + 28) + 0 ≤ ce7 + 28; omega) (by show (sn7 + 385) + 0 ≤ sn7 + 385; omega) ?_
  refine lv_iload hx hb dL_law_986 (lv_at hl 1 rfl) ?_
  refine lv_icmp_eq (tgt := 993) hx hb dL_law_988 (by decide) (fun h_988 => ?_) (fun h9 => absurd rfl h9)
  refine lv_iload hx hb dL_law_993 (lv_at hl 1 rfl) ?_
  refine mn_if_ne (tgt := 1010) hB dL_law_995 (by decide) (by omega) (fun h => by exfalso; omega) (fun h_995 => ?_)
  refine lv_aload_n hx hb dL_law_998 rfl (lv_at hl 5 rfl) ?_
  refine lv_iconst (v := nI 0) hx hb dL_law_999 (by decide) ?_
  refine mn_lald hB hO (by omega) (by omega) dL_law_1000 ?_
  refine mh_top (y := .long ((nI 0).toInt64)) (rfl) ?_
  refine lv_iload hx hb dL_law_1001 (lv_at hl 0 rfl) ?_
  refine lv_i2l (v := (nI 0).toInt64) hx hb dL_law_1003 rfl ?_
  refine W.lcmp hx hb dL_law_1004 ?_
  refine ml_if_eq (tgt := 1010) hB dL_law_1005 (by decide) (fun h_1005 => ?_) (fun h => absurd rfl h)
  refine lv_goto (tgt := 1803) hx hb dL_law_1010 (by decide) ?_
  refine W.widen (k := ce7 + 30) (n := sn7 + 1100) (by omega) (by omega) ?_
  exact kk _ _ _ ⟨hC, ⟨_, _, _, _, _, _, _, _, _, _, _, _, _, _, _, _, _, _, _, _, hR⟩, ⟨_, hO⟩, hTx⟩ hS (lv_sub hl [2, 3, 4, 5, 6] rfl)

set_option maxRecDepth 100000 in
set_option maxHeartbeats 800000 in
theorem s_recolour_ok {p : Program} {l : Launch} {e : Env} {s : State} {m : MethodId} {args : Array Value} {below : List Frame} {meth : Method} {c : Code} {H : Heap} {locs : List Loc} {ce7 sn7 : Nat} {Q : State → Prop} {g : GG} {b L xb r ob lim : Nat} {xs : Nat → Int32} {i9 : Nat} {ls : Array Slot} {q : Nat → Int32} {n : Nat} {rm sl sv tx : Nat → Int32} {ln : Nat} {zsp : Nat → Int32} {zth : Int32} {zsg : Nat → Int32} {zbg : Nat → Int32} {zwd : Nat → Int32} {zhg : Nat → Int32} {zin : Nat → Int32} {zop : Int32} {zbe : Int32} {zwi : Int32} {zhi : Int32} {zbk : Nat → Int32} {zot : Nat → Int32} {zer : Int32} {zen : Int32} {zpo : Nat → Int32} {zpi : Int32} {zgr : Int32} {zsh : Nat → Int32} {zsn : Int32} {o : Nat → Int64} (hfl : l.stackTraces = false) (hE : LE p s m meth c g b L xs xb r ob lim) (hi : 4 * i9 + 3 < L) (hC : CLS g xb lim q n rm sl sv tx ln H) (hR : ModAt g r q zsp rm (nI n) sl sv tx (nI ln) zth zsg zbg zwd zhg zin zop zbe zwi zhi zbk zot zer zen zpo zpi zgr zsh zsn H) (hO : at_ g H ob (eL g 1 o)) (hTx : TxT tx ln) (hS : va_S (fun q9 => xb ≤ q9) s.heap H locs) (hl : lv_has ls 7 [(0, .ref b), (1, .ref xb), (2, .ref r), (3, .ref ob), (4, .int (nI (4 * i9)))]) (hce7 : ce7 + 30 ≤ 622861) (hsn7 : sn7 + 1100 ≤ 7227521) (f : Nat) (a0 : Nat) (b0 : Nat) (a1 : xs (4 * i9 + 1) = nI f) (a2 : xs (4 * i9 + 2) = nI a0) (a3 : xs (4 * i9 + 3) = nI b0) (hf : f < 3) (ha : a0 < 6) (hb8 : b0 < 6) (hs0 : 0 < szF q f) (hs1 : swF q f = 0) (hab : a0 ≠ b0) (kk : ∀ (H1 : Heap) (locs1 : List Loc) (ls1 : Array Slot), LI g xb r ob lim (recQ q f a0 b0) (nxtS n) (remA rm n q) sl sv tx ln H1 → va_S (fun q9 => xb ≤ q9) s.heap H1 locs1 → lv_has ls1 7 [(0, .ref b), (1, .ref xb), (2, .ref r), (3, .ref ob), (4, .int (nI (4 * i9)))] → W p l e room_1 s m args below meth c H1 locs1 (ce7 + 30) (sn7 + 1100) Q (F0 m 1803 ls1 [])) : W p l e room_1 s m args below meth c H locs ce7 sn7 Q (F0 m 933 ls []) := by
  obtain ⟨hB, hZ9, hX, hbl, hL9, hxs, hr9, hob9, hlm9⟩ := hE
  have hx := hB.x
  have hb := hB.b
  have hbA : ¬ (fun q9 => xb ≤ q9) b := fun y9 => by have y8 : xb ≤ b := y9; omega
  have hW := hC.wf
  have hn14 := hC.n14
  have hl6c := hC.l60
  have hnm5 := hW.2.2.1
  refine lv_aload_n hx hb dL_law_933 rfl (lv_at hl 1 rfl) ?_
  refine lv_aload_n hx hb dL_law_934 rfl (lv_at hl 0 rfl) ?_
  refine lv_iload hx hb dL_law_935 (lv_at hl 4 rfl) ?_
  refine lv_iconst (v := nI 1) hx hb dL_law_937 (by decide) ?_
  refine mn_iadd hB dL_law_938 ?_
  refine va_sld hx hb hX hbl hbA hS (vp_in_nI (by omega) (by omega)) dL_law_939 ?_
  refine mh_top (y := .int (nI f)) (by rw [nI_clamp (by omega), a1]) ?_
  refine lv_aload_n hx hb dL_law_940 rfl (lv_at hl 0 rfl) ?_
  refine lv_iload hx hb dL_law_941 (lv_at hl 4 rfl) ?_
  refine lv_iconst (v := nI 2) hx hb dL_law_943 (by decide) ?_
  refine mn_iadd hB dL_law_944 ?_
  refine va_sld hx hb hX hbl hbA hS (vp_in_nI (by omega) (by omega)) dL_law_945 ?_
  refine mh_top (y := .int (nI a0)) (by rw [nI_clamp (by omega), a2]) ?_
  refine lv_aload_n hx hb dL_law_946 rfl (lv_at hl 0 rfl) ?_
  refine lv_iload hx hb dL_law_947 (lv_at hl 4 rfl) ?_
  refine lv_iconst (v := nI 3) hx hb dL_law_949 (by decide) ?_
  refine mn_iadd hB dL_law_950 ?_
  refine va_sld hx hb hX hbl hbA hS (vp_in_nI (by omega) (by omega)) dL_law_951 ?_
  refine mh_top (y := .int (nI b0)) (by rw [nI_clamp (by omega), a3]) ?_
  refine lv_aload_n hx hb dL_law_952 rfl (lv_at hl 3 rfl) ?_
  refine cw_147 (As := [.ref xb, .int (nI f), .int (nI a0), .int (nI b0), .ref ob]) (rest := []) hB (hZ9.at hS (fun _ h9 => h9)) (w_recolour_ok l g H xb lim q n rm sl sv tx ln f a0 b0 ob o (hC) (hO) (hf) (ha) (hb8) (hs0) (hs1) (hab) (⟨by omega, by omega⟩) (hfl)) rfl hl.1 (Nat.le_of_ble_eq_true rfl) dL_law_953 ⟨Nat.le_of_ble_eq_true rfl, Nat.le_of_ble_eq_true rfl⟩ ⟨by show (ce7) + 28 ≤ 622861; omega, by show (sn7) + 385 ≤ 7227521; omega⟩ hS (by have hz9 := hS.1; rintro q9 (h9 | h9) <;> first | exact h9.elim | (have h8 : r ≤ q9 ∧ q9 < r + 16 := h9; show xb ≤ q9; omega) | (have h8 : ((xb ≤ q9 ∧ q9 < xb + 68) ∨ lim ≤ q9) ∨ q9 = ob := h9; show xb ≤ q9; omega) | (have h8 : (xb ≤ q9 ∧ q9 < xb + 68) ∨ lim ≤ q9 := h9; show xb ≤ q9; omega) | (show xb ≤ q9; omega)) (fun v H1 locs hpo hfr hS => ?_)
  obtain ⟨rfl, hC, hO⟩ := hpo
  have hR := hR.keptF hfr (fun q9 h1 h2 y9 => by first | exact y9.elim | (have y8 : ((xb ≤ q9 ∧ q9 < xb + 68) ∨ lim ≤ q9) ∨ q9 = ob := y9; omega) | (have y8 : (xb ≤ q9 ∧ q9 < xb + 68) ∨ lim ≤ q9 := y9; omega))
  generalize H1 = H at hfr hS hR hX hC hO ⊢
  refine W.widen (k := ce7 + 28) (n := sn7 + 385) (by show (ce7) + 28 ≤ ce7 + 28; omega) (by show (sn7) + 385 ≤ sn7 + 385; omega) ?_
  refine lv_istore (lv' := [(5, .int (nI 0)), (0, .ref b), (1, .ref xb), (2, .ref r), (3, .ref ob), (4, .int (nI (4 * i9)))]) hx hb dL_law_956 hl (by decide) rfl (fun ls hl => ?_)
  refine lv_aload_n hx hb dL_law_958 rfl (lv_at hl 3 rfl) ?_
  refine lv_aload_n hx hb dL_law_959 rfl (lv_at hl 1 rfl) ?_
  refine lv_iload hx hb dL_law_960 (lv_at hl 5 rfl) ?_
  refine lv_iconst (v := nI 1) hx hb dL_law_962 (by decide) ?_
  refine mn_iadd hB dL_law_963 ?_
  refine va_sld hx hb hX hbl hbA hS (vp_in_nI (by omega) (by omega)) dL_law_964 ?_
  refine mh_top (y := .int (nI f)) (by rw [nI_clamp (by omega), a1]) ?_
  refine lv_aload_n hx hb dL_law_965 rfl (lv_at hl 1 rfl) ?_
  refine lv_iload hx hb dL_law_966 (lv_at hl 5 rfl) ?_
  refine lv_iconst (v := nI 2) hx hb dL_law_968 (by decide) ?_
  refine mn_iadd hB dL_law_969 ?_
  refine va_sld hx hb hX hbl hbA hS (vp_in_nI (by omega) (by omega)) dL_law_970 ?_
  refine mh_top (y := .int (nI a0)) (by rw [nI_clamp (by omega), a2]) ?_
  refine lv_aload_n hx hb dL_law_971 rfl (lv_at hl 1 rfl) ?_
  refine lv_iload hx hb dL_law_972 (lv_at hl 5 rfl) ?_
  refine lv_iconst (v := nI 3) hx hb dL_law_974 (by decide) ?_
  refine mn_iadd hB dL_law_975 ?_
  refine va_sld hx hb hX hbl hbA hS (vp_in_nI (by omega) (by omega)) dL_law_976 ?_
  refine mh_top (y := .int (nI b0)) (by rw [nI_clamp (by omega), a3]) ?_
  refine cl_L_149 (As := [.int (nI f), .int (nI a0), .int (nI b0)]) (rest := []) hB (c_X11_recolour l g H r q zsp rm sl sv tx (nI ln) zth zsg zbg zwd zhg zin zop zbe zwi zhi zbk zot zer zen zpo zpi zgr zsh zsn n f a0 b0 hR (by first | assumption | omega) (by first | assumption | omega) (hf) (ha) (hb8) (hs0) (hs1)) hR.o rfl hl.1 (Nat.le_of_ble_eq_true rfl) dL_law_977 ⟨Nat.le_of_ble_eq_true rfl, Nat.le_of_ble_eq_true rfl⟩ ⟨by show (ce7 + 28) + 0 ≤ 622861; omega, by show (sn7 + 385) + 0 ≤ 7227521; omega⟩ hS (by have hz9 := hS.1; rintro q9 (h9 | h9) <;> first | exact h9.elim | (have h8 : r ≤ q9 ∧ q9 < r + 16 := h9; show xb ≤ q9; omega) | (have h8 : ((xb ≤ q9 ∧ q9 < xb + 68) ∨ lim ≤ q9) ∨ q9 = ob := h9; show xb ≤ q9; omega) | (have h8 : (xb ≤ q9 ∧ q9 < xb + 68) ∨ lim ≤ q9 := h9; show xb ≤ q9; omega) | (show xb ≤ q9; omega)) (fun v H1 locs hpo hfr hS => ?_)
  obtain ⟨rfl, hR⟩ := hpo
  have hC := hC.keptM hfr (fun a9 y9 => by first | exact y9.elim | (have y8 : r ≤ a9 ∧ a9 < r + 16 := y9; omega))
  have hO := Fr.keep hfr hO (fun y9 => by first | exact y9.elim | (have y8 : r ≤ ob ∧ ob < r + 16 := y9; omega) | (have y8 : (xb ≤ ob ∧ ob < xb + 68) ∨ lim ≤ ob := y9; omega))
  generalize H1 = H at hfr hS hX hC hO hR ⊢
  refine W.widen (k := ce7 + 28) (n := sn7 + 385) (by show (ce7 + 28) + 0 ≤ ce7 + 28; omega) (by show (sn7 + 385) + 0 ≤ sn7 + 385; omega) ?_
  refine lv_istore (lv' := [(6, .int (nI (recN q f a0 b0))), (5, .int (nI 0)), (0, .ref b), (1, .ref xb), (2, .ref r), (3, .ref ob), (4, .int (nI (4 * i9)))]) hx hb dL_law_980 hl (by decide) rfl (fun ls hl => ?_)
  refine lv_aload_n hx hb dL_law_982 rfl (lv_at hl 4 rfl) ?_
  refine cl_L_102 (As := []) (rest := []) hB (c_X11_thrown l g H r (recQ q f a0 b0) zsp (remA rm n q) (nI (nxtS n)) sl sv tx (nI ln) (nI 0) zsg zbg zwd zhg zin zop zbe zwi zhi zbk zot zer zen zpo zpi zgr zsh zsn hR) hR.o rfl hl.1 (Nat.le_of_ble_eq_true rfl) dL_law_983 ⟨Nat.le_of_ble_eq_true rfl, Nat.le_of_ble_eq_true rfl⟩ ⟨by show (ce7 + 28) + 0 ≤ 622861; omega, by show (sn7 + 385) + 0 ≤ 7227521; omega⟩ hS (by have hz9 := hS.1; rintro q9 (h9 | h9) <;> first | exact h9.elim | (have h8 : r ≤ q9 ∧ q9 < r + 16 := h9; show xb ≤ q9; omega) | (have h8 : ((xb ≤ q9 ∧ q9 < xb + 68) ∨ lim ≤ q9) ∨ q9 = ob := h9; show xb ≤ q9; omega) | (have h8 : (xb ≤ q9 ∧ q9 < xb + 68) ∨ lim ≤ q9 := h9; show xb ≤ q9; omega) | (show xb ≤ q9; omega)) (fun v H1 locs hpo hfr hS => ?_)
  obtain ⟨rfl, rfl⟩ := hpo
  refine W.widen (k := ce7 + 28) (n := sn7 + 385) (by show (ce7 + 28) + 0 ≤ ce7 + 28; omega) (by show (sn7 + 385) + 0 ≤ sn7 + 385; omega) ?_
  refine lv_iload hx hb dL_law_986 (lv_at hl 1 rfl) ?_
  refine lv_icmp_eq (tgt := 993) hx hb dL_law_988 (by decide) (fun h_988 => ?_) (fun h9 => absurd rfl h9)
  refine lv_iload hx hb dL_law_993 (lv_at hl 1 rfl) ?_
  refine mn_if_ne (tgt := 1010) hB dL_law_995 (by decide) (by omega) (fun h => by exfalso; omega) (fun h_995 => ?_)
  refine lv_aload_n hx hb dL_law_998 rfl (lv_at hl 5 rfl) ?_
  refine lv_iconst (v := nI 0) hx hb dL_law_999 (by decide) ?_
  refine mn_lald hB hO (by omega) (by omega) dL_law_1000 ?_
  refine mh_top (y := .long ((nI (recN q f a0 b0)).toInt64)) (rfl) ?_
  refine lv_iload hx hb dL_law_1001 (lv_at hl 0 rfl) ?_
  refine lv_i2l (v := (nI (recN q f a0 b0)).toInt64) hx hb dL_law_1003 rfl ?_
  refine W.lcmp hx hb dL_law_1004 ?_
  refine ml_if_eq (tgt := 1010) hB dL_law_1005 (by decide) (fun h_1005 => ?_) (fun h => absurd rfl h)
  refine lv_goto (tgt := 1803) hx hb dL_law_1010 (by decide) ?_
  refine W.widen (k := ce7 + 30) (n := sn7 + 1100) (by omega) (by omega) ?_
  exact kk _ _ _ ⟨hC, ⟨_, _, _, _, _, _, _, _, _, _, _, _, _, _, _, _, _, _, _, _, hR⟩, ⟨_, hO⟩, hTx⟩ hS (lv_sub hl [2, 3, 4, 5, 6] rfl)
