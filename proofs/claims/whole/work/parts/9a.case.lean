/-! the law's calls, each with all that it may come to -/
theorem inL_nt {x : Int32} {b : Nat} (hb : b < 2147483647) (c : Int64) (hc : c.toInt = (b : Int)) (h : inL x.toInt64 1 c = true) : ∃ k, 0 < k ∧ k < b + 1 ∧ x = nI k := by
  have h1 := of_decide_eq_true h
  rw [i32_l, hc, show (1 : Int64).toInt = 1 from rfl] at h1
  refine ⟨x.toInt.toNat, by omega, by omega, ?_⟩
  apply Int32.toInt_inj.mp
  rw [nI_toInt' (by omega)]
  omega
theorem nn_of {x : Int32} (h : ¬ x < 0) : ∃ k, k < 2147483648 ∧ x = nI k := by
  rw [Int32.lt_iff_toInt_lt, show (0 : Int32).toInt = 0 from rfl] at h
  have h2 := x.toInt_lt
  refine ⟨x.toInt.toNat, by omega, ?_⟩
  apply Int32.toInt_inj.mp
  rw [nI_toInt' (by omega)]
  omega
set_option maxRecDepth 100000 in
set_option maxHeartbeats 800000 in
theorem case_append {p : Program} {l : Launch} {e : Env} {s : State} {m : MethodId} {args : Array Value} {below : List Frame} {meth : Method} {c : Code} {H : Heap} {locs : List Loc} {ce7 sn7 : Nat} {Q : State → Prop} {g : GG} {b L xb r ob lim : Nat} {xs : Nat → Int32} {i9 : Nat} {ls : Array Slot} {q : Nat → Int32} {n : Nat} {rm sl sv tx : Nat → Int32} {ln : Nat} (hfl : l.stackTraces = false) (hE : LE p s m meth c g b L xs xb r ob lim) (hi : 4 * i9 + 3 < L) (hL : LI g xb r ob lim q n rm sl sv tx ln H) (hS : va_S (fun q9 => xb ≤ q9) s.heap H locs) (hl : lv_has ls 7 [(0, .ref b), (1, .ref xb), (2, .ref r), (3, .ref ob), (4, .int (nI (4 * i9)))]) (hce7 : ce7 + 30 ≤ 622861) (hsn7 : sn7 + 1100 ≤ 7227521) (kk : ∀ (H1 : Heap) (locs1 : List Loc) (ls1 : Array Slot) (q1 : Nat → Int32) (n1 : Nat) (rm1 sl1 sv1 tx1 : Nat → Int32) (ln1 : Nat), LI g xb r ob lim q1 n1 rm1 sl1 sv1 tx1 ln1 H1 → va_S (fun q9 => xb ≤ q9) s.heap H1 locs1 → lv_has ls1 7 [(0, .ref b), (1, .ref xb), (2, .ref r), (3, .ref ob), (4, .int (nI (4 * i9)))] → W p l e room_1 s m args below meth c H1 locs1 (ce7 + 30) (sn7 + 1100) Q (F0 m 1803 ls1 [])) : W p l e room_1 s m args below meth c H locs ce7 sn7 Q (F0 m 160 ls []) := by
  obtain ⟨hC, ⟨zsp, zth, zsg, zbg, zwd, zhg, zin, zop, zbe, zwi, zhi, zbk, zot, zer, zen, zpo, zpi, zgr, zsh, zsn, hR⟩, ⟨o, hO⟩, hTx⟩ := hL
  have hW := hC.wf
  have hl6c := hC.l60
  have hnm5 := hW.2.2.1
  obtain ⟨x, a1⟩ : ∃ z9, xs (4 * i9 + 1) = z9 := ⟨_, rfl⟩
  cases hx1 : isIx x 256 with
  | false =>
    exact s_append_t1 hfl hE hi hC hR hO hTx hS hl hce7 hsn7 x a1 hx1 (fun H1 locs1 ls1 y9 => kk H1 locs1 ls1 _ _ _ _ _ _ _ y9)
  | true =>
    obtain ⟨k, hk, rfl⟩ := isIx_t hx1 (by omega)
    clear hx1
    by_cases hl9 : ln = 60
    · skip
      exact s_append_t2 hfl hE hi hC hR hO hTx hS hl hce7 hsn7 k a1 hk hl9 (fun H1 locs1 ls1 y9 => kk H1 locs1 ls1 _ _ _ _ _ _ _ y9)
    · skip
      exact s_append_ok hfl hE hi hC hR hO hTx hS hl hce7 hsn7 k a1 hk (by omega) (fun H1 locs1 ls1 y9 => kk H1 locs1 ls1 _ _ _ _ _ _ _ y9)

set_option maxRecDepth 100000 in
set_option maxHeartbeats 800000 in
theorem case_clearText {p : Program} {l : Launch} {e : Env} {s : State} {m : MethodId} {args : Array Value} {below : List Frame} {meth : Method} {c : Code} {H : Heap} {locs : List Loc} {ce7 sn7 : Nat} {Q : State → Prop} {g : GG} {b L xb r ob lim : Nat} {xs : Nat → Int32} {i9 : Nat} {ls : Array Slot} {q : Nat → Int32} {n : Nat} {rm sl sv tx : Nat → Int32} {ln : Nat} (hfl : l.stackTraces = false) (hE : LE p s m meth c g b L xs xb r ob lim) (hi : 4 * i9 + 3 < L) (hL : LI g xb r ob lim q n rm sl sv tx ln H) (hS : va_S (fun q9 => xb ≤ q9) s.heap H locs) (hl : lv_has ls 7 [(0, .ref b), (1, .ref xb), (2, .ref r), (3, .ref ob), (4, .int (nI (4 * i9)))]) (hce7 : ce7 + 30 ≤ 622861) (hsn7 : sn7 + 1100 ≤ 7227521) (kk : ∀ (H1 : Heap) (locs1 : List Loc) (ls1 : Array Slot) (q1 : Nat → Int32) (n1 : Nat) (rm1 sl1 sv1 tx1 : Nat → Int32) (ln1 : Nat), LI g xb r ob lim q1 n1 rm1 sl1 sv1 tx1 ln1 H1 → va_S (fun q9 => xb ≤ q9) s.heap H1 locs1 → lv_has ls1 7 [(0, .ref b), (1, .ref xb), (2, .ref r), (3, .ref ob), (4, .int (nI (4 * i9)))] → W p l e room_1 s m args below meth c H1 locs1 (ce7 + 30) (sn7 + 1100) Q (F0 m 1803 ls1 [])) : W p l e room_1 s m args below meth c H locs ce7 sn7 Q (F0 m 216 ls []) := by
  obtain ⟨hC, ⟨zsp, zth, zsg, zbg, zwd, zhg, zin, zop, zbe, zwi, zhi, zbk, zot, zer, zen, zpo, zpi, zgr, zsh, zsn, hR⟩, ⟨o, hO⟩, hTx⟩ := hL
  have hW := hC.wf
  have hl6c := hC.l60
  have hnm5 := hW.2.2.1
  exact s_clearText_ok hfl hE hi hC hR hO hTx hS hl hce7 hsn7  (fun H1 locs1 ls1 y9 => kk H1 locs1 ls1 _ _ _ _ _ _ _ y9)

set_option maxRecDepth 100000 in
set_option maxHeartbeats 800000 in
theorem case_errorPosition {p : Program} {l : Launch} {e : Env} {s : State} {m : MethodId} {args : Array Value} {below : List Frame} {meth : Method} {c : Code} {H : Heap} {locs : List Loc} {ce7 sn7 : Nat} {Q : State → Prop} {g : GG} {b L xb r ob lim : Nat} {xs : Nat → Int32} {i9 : Nat} {ls : Array Slot} {q : Nat → Int32} {n : Nat} {rm sl sv tx : Nat → Int32} {ln : Nat} (hfl : l.stackTraces = false) (hE : LE p s m meth c g b L xs xb r ob lim) (hi : 4 * i9 + 3 < L) (hL : LI g xb r ob lim q n rm sl sv tx ln H) (hS : va_S (fun q9 => xb ≤ q9) s.heap H locs) (hl : lv_has ls 7 [(0, .ref b), (1, .ref xb), (2, .ref r), (3, .ref ob), (4, .int (nI (4 * i9)))]) (hce7 : ce7 + 30 ≤ 622861) (hsn7 : sn7 + 1100 ≤ 7227521) (kk : ∀ (H1 : Heap) (locs1 : List Loc) (ls1 : Array Slot) (q1 : Nat → Int32) (n1 : Nat) (rm1 sl1 sv1 tx1 : Nat → Int32) (ln1 : Nat), LI g xb r ob lim q1 n1 rm1 sl1 sv1 tx1 ln1 H1 → va_S (fun q9 => xb ≤ q9) s.heap H1 locs1 → lv_has ls1 7 [(0, .ref b), (1, .ref xb), (2, .ref r), (3, .ref ob), (4, .int (nI (4 * i9)))] → W p l e room_1 s m args below meth c H1 locs1 (ce7 + 30) (sn7 + 1100) Q (F0 m 1803 ls1 [])) : W p l e room_1 s m args below meth c H locs ce7 sn7 Q (F0 m 229 ls []) := by
  obtain ⟨hC, ⟨zsp, zth, zsg, zbg, zwd, zhg, zin, zop, zbe, zwi, zhi, zbk, zot, zer, zen, zpo, zpi, zgr, zsh, zsn, hR⟩, ⟨o, hO⟩, hTx⟩ := hL
  have hW := hC.wf
  have hl6c := hC.l60
  have hnm5 := hW.2.2.1
  rcases hw : wholeS (qn tx) ln with e9 | b1
  · skip
    exact s_errorPosition_e hfl hE hi hC hR hO hTx hS hl hce7 hsn7 e9 hw (fun H1 locs1 ls1 y9 => kk H1 locs1 ls1 _ _ _ _ _ _ _ y9)
  · skip
    exact s_errorPosition_o hfl hE hi hC hR hO hTx hS hl hce7 hsn7 b1 hw (fun H1 locs1 ls1 y9 => kk H1 locs1 ls1 _ _ _ _ _ _ _ y9)

set_option maxRecDepth 100000 in
set_option maxHeartbeats 800000 in
theorem case_about {p : Program} {l : Launch} {e : Env} {s : State} {m : MethodId} {args : Array Value} {below : List Frame} {meth : Method} {c : Code} {H : Heap} {locs : List Loc} {ce7 sn7 : Nat} {Q : State → Prop} {g : GG} {b L xb r ob lim : Nat} {xs : Nat → Int32} {i9 : Nat} {ls : Array Slot} {q : Nat → Int32} {n : Nat} {rm sl sv tx : Nat → Int32} {ln : Nat} (hfl : l.stackTraces = false) (hE : LE p s m meth c g b L xs xb r ob lim) (hi : 4 * i9 + 3 < L) (hL : LI g xb r ob lim q n rm sl sv tx ln H) (hS : va_S (fun q9 => xb ≤ q9) s.heap H locs) (hl : lv_has ls 7 [(0, .ref b), (1, .ref xb), (2, .ref r), (3, .ref ob), (4, .int (nI (4 * i9)))]) (hce7 : ce7 + 30 ≤ 622861) (hsn7 : sn7 + 1100 ≤ 7227521) (kk : ∀ (H1 : Heap) (locs1 : List Loc) (ls1 : Array Slot) (q1 : Nat → Int32) (n1 : Nat) (rm1 sl1 sv1 tx1 : Nat → Int32) (ln1 : Nat), LI g xb r ob lim q1 n1 rm1 sl1 sv1 tx1 ln1 H1 → va_S (fun q9 => xb ≤ q9) s.heap H1 locs1 → lv_has ls1 7 [(0, .ref b), (1, .ref xb), (2, .ref r), (3, .ref ob), (4, .int (nI (4 * i9)))] → W p l e room_1 s m args below meth c H1 locs1 (ce7 + 30) (sn7 + 1100) Q (F0 m 1803 ls1 [])) : W p l e room_1 s m args below meth c H locs ce7 sn7 Q (F0 m 242 ls []) := by
  obtain ⟨hC, ⟨zsp, zth, zsg, zbg, zwd, zhg, zin, zop, zbe, zwi, zhi, zbk, zot, zer, zen, zpo, zpi, zgr, zsh, zsn, hR⟩, ⟨o, hO⟩, hTx⟩ := hL
  have hW := hC.wf
  have hl6c := hC.l60
  have hnm5 := hW.2.2.1
  obtain ⟨x, a1⟩ : ∃ z9, xs (4 * i9 + 1) = z9 := ⟨_, rfl⟩
  cases hx1 : isIx x 9 with
  | false =>
    exact s_about_t1 hfl hE hi hC hR hO hTx hS hl hce7 hsn7 x a1 hx1 (fun H1 locs1 ls1 y9 => kk H1 locs1 ls1 _ _ _ _ _ _ _ y9)
  | true =>
    obtain ⟨w, hw, rfl⟩ := isIx_t hx1 (by omega)
    clear hx1
    rcases (show w = 0 ∨ w = 1 ∨ w = 2 ∨ w = 3 ∨ w = 4 ∨ w = 5 ∨ w = 6 ∨ w = 7 ∨ w = 8 by omega) with rfl | rfl | rfl | rfl | rfl | rfl | rfl | rfl | rfl
    · skip
      exact s_about_w0 hfl hE hi hC hR hO hTx hS hl hce7 hsn7 a1 (fun H1 locs1 ls1 y9 => kk H1 locs1 ls1 _ _ _ _ _ _ _ y9)
    · skip
      exact s_about_w1 hfl hE hi hC hR hO hTx hS hl hce7 hsn7 a1 (fun H1 locs1 ls1 y9 => kk H1 locs1 ls1 _ _ _ _ _ _ _ y9)
    · skip
      exact s_about_w2 hfl hE hi hC hR hO hTx hS hl hce7 hsn7 a1 (fun H1 locs1 ls1 y9 => kk H1 locs1 ls1 _ _ _ _ _ _ _ y9)
    · skip
      exact s_about_w3 hfl hE hi hC hR hO hTx hS hl hce7 hsn7 a1 (fun H1 locs1 ls1 y9 => kk H1 locs1 ls1 _ _ _ _ _ _ _ y9)
    · skip
      exact s_about_w4 hfl hE hi hC hR hO hTx hS hl hce7 hsn7 a1 (fun H1 locs1 ls1 y9 => kk H1 locs1 ls1 _ _ _ _ _ _ _ y9)
    · skip
      exact s_about_w5 hfl hE hi hC hR hO hTx hS hl hce7 hsn7 a1 (fun H1 locs1 ls1 y9 => kk H1 locs1 ls1 _ _ _ _ _ _ _ y9)
    · skip
      exact s_about_w6 hfl hE hi hC hR hO hTx hS hl hce7 hsn7 a1 (fun H1 locs1 ls1 y9 => kk H1 locs1 ls1 _ _ _ _ _ _ _ y9)
    · skip
      exact s_about_w7 hfl hE hi hC hR hO hTx hS hl hce7 hsn7 a1 (fun H1 locs1 ls1 y9 => kk H1 locs1 ls1 _ _ _ _ _ _ _ y9)
    · skip
      exact s_about_w8 hfl hE hi hC hR hO hTx hS hl hce7 hsn7 a1 (fun H1 locs1 ls1 y9 => kk H1 locs1 ls1 _ _ _ _ _ _ _ y9)

set_option maxRecDepth 100000 in
set_option maxHeartbeats 800000 in
theorem case_member {p : Program} {l : Launch} {e : Env} {s : State} {m : MethodId} {args : Array Value} {below : List Frame} {meth : Method} {c : Code} {H : Heap} {locs : List Loc} {ce7 sn7 : Nat} {Q : State → Prop} {g : GG} {b L xb r ob lim : Nat} {xs : Nat → Int32} {i9 : Nat} {ls : Array Slot} {q : Nat → Int32} {n : Nat} {rm sl sv tx : Nat → Int32} {ln : Nat} (hfl : l.stackTraces = false) (hE : LE p s m meth c g b L xs xb r ob lim) (hi : 4 * i9 + 3 < L) (hL : LI g xb r ob lim q n rm sl sv tx ln H) (hS : va_S (fun q9 => xb ≤ q9) s.heap H locs) (hl : lv_has ls 7 [(0, .ref b), (1, .ref xb), (2, .ref r), (3, .ref ob), (4, .int (nI (4 * i9)))]) (hce7 : ce7 + 30 ≤ 622861) (hsn7 : sn7 + 1100 ≤ 7227521) (kk : ∀ (H1 : Heap) (locs1 : List Loc) (ls1 : Array Slot) (q1 : Nat → Int32) (n1 : Nat) (rm1 sl1 sv1 tx1 : Nat → Int32) (ln1 : Nat), LI g xb r ob lim q1 n1 rm1 sl1 sv1 tx1 ln1 H1 → va_S (fun q9 => xb ≤ q9) s.heap H1 locs1 → lv_has ls1 7 [(0, .ref b), (1, .ref xb), (2, .ref r), (3, .ref ob), (4, .int (nI (4 * i9)))] → W p l e room_1 s m args below meth c H1 locs1 (ce7 + 30) (sn7 + 1100) Q (F0 m 1803 ls1 [])) : W p l e room_1 s m args below meth c H locs ce7 sn7 Q (F0 m 298 ls []) := by
  obtain ⟨hC, ⟨zsp, zth, zsg, zbg, zwd, zhg, zin, zop, zbe, zwi, zhi, zbk, zot, zer, zen, zpo, zpi, zgr, zsh, zsn, hR⟩, ⟨o, hO⟩, hTx⟩ := hL
  have hW := hC.wf
  have hl6c := hC.l60
  have hnm5 := hW.2.2.1
  obtain ⟨x, a1⟩ : ∃ z9, xs (4 * i9 + 1) = z9 := ⟨_, rfl⟩
  obtain ⟨y, a2⟩ : ∃ z9, xs (4 * i9 + 2) = z9 := ⟨_, rfl⟩
  cases hx1 : isIx x (nmQ q) with
  | false =>
    exact s_member_t1 hfl hE hi hC hR hO hTx hS hl hce7 hsn7 x y a1 a2 hx1 (fun H1 locs1 ls1 y9 => kk H1 locs1 ls1 _ _ _ _ _ _ _ y9)
  | true =>
    obtain ⟨k, hk, rfl⟩ := isIx_t hx1 (by omega)
    clear hx1
    cases hx1 : isIx y 4 with
    | false =>
      exact s_member_t2 hfl hE hi hC hR hO hTx hS hl hce7 hsn7 k y a1 a2 hk hx1 (fun H1 locs1 ls1 y9 => kk H1 locs1 ls1 _ _ _ _ _ _ _ y9)
    | true =>
      obtain ⟨w, hw, rfl⟩ := isIx_t hx1 (by omega)
      clear hx1
      rcases (show w = 0 ∨ w = 1 ∨ w = 2 ∨ w = 3 by omega) with rfl | rfl | rfl | rfl
      · skip
        exact s_member_w0 hfl hE hi hC hR hO hTx hS hl hce7 hsn7 k a1 a2 hk (fun H1 locs1 ls1 y9 => kk H1 locs1 ls1 _ _ _ _ _ _ _ y9)
      · skip
        exact s_member_w1 hfl hE hi hC hR hO hTx hS hl hce7 hsn7 k a1 a2 hk (fun H1 locs1 ls1 y9 => kk H1 locs1 ls1 _ _ _ _ _ _ _ y9)
      · skip
        exact s_member_w2 hfl hE hi hC hR hO hTx hS hl hce7 hsn7 k a1 a2 hk (fun H1 locs1 ls1 y9 => kk H1 locs1 ls1 _ _ _ _ _ _ _ y9)
      · skip
        exact s_member_w3 hfl hE hi hC hR hO hTx hS hl hce7 hsn7 k a1 a2 hk (fun H1 locs1 ls1 y9 => kk H1 locs1 ls1 _ _ _ _ _ _ _ y9)

set_option maxRecDepth 100000 in
set_option maxHeartbeats 800000 in
theorem case_cloth {p : Program} {l : Launch} {e : Env} {s : State} {m : MethodId} {args : Array Value} {below : List Frame} {meth : Method} {c : Code} {H : Heap} {locs : List Loc} {ce7 sn7 : Nat} {Q : State → Prop} {g : GG} {b L xb r ob lim : Nat} {xs : Nat → Int32} {i9 : Nat} {ls : Array Slot} {q : Nat → Int32} {n : Nat} {rm sl sv tx : Nat → Int32} {ln : Nat} (hfl : l.stackTraces = false) (hE : LE p s m meth c g b L xs xb r ob lim) (hi : 4 * i9 + 3 < L) (hL : LI g xb r ob lim q n rm sl sv tx ln H) (hS : va_S (fun q9 => xb ≤ q9) s.heap H locs) (hl : lv_has ls 7 [(0, .ref b), (1, .ref xb), (2, .ref r), (3, .ref ob), (4, .int (nI (4 * i9)))]) (hce7 : ce7 + 30 ≤ 622861) (hsn7 : sn7 + 1100 ≤ 7227521) (kk : ∀ (H1 : Heap) (locs1 : List Loc) (ls1 : Array Slot) (q1 : Nat → Int32) (n1 : Nat) (rm1 sl1 sv1 tx1 : Nat → Int32) (ln1 : Nat), LI g xb r ob lim q1 n1 rm1 sl1 sv1 tx1 ln1 H1 → va_S (fun q9 => xb ≤ q9) s.heap H1 locs1 → lv_has ls1 7 [(0, .ref b), (1, .ref xb), (2, .ref r), (3, .ref ob), (4, .int (nI (4 * i9)))] → W p l e room_1 s m args below meth c H1 locs1 (ce7 + 30) (sn7 + 1100) Q (F0 m 1803 ls1 [])) : W p l e room_1 s m args below meth c H locs ce7 sn7 Q (F0 m 366 ls []) := by
  obtain ⟨hC, ⟨zsp, zth, zsg, zbg, zwd, zhg, zin, zop, zbe, zwi, zhi, zbk, zot, zer, zen, zpo, zpi, zgr, zsh, zsn, hR⟩, ⟨o, hO⟩, hTx⟩ := hL
  have hW := hC.wf
  have hl6c := hC.l60
  have hnm5 := hW.2.2.1
  obtain ⟨x, a1⟩ : ∃ z9, xs (4 * i9 + 1) = z9 := ⟨_, rfl⟩
  obtain ⟨y, a2⟩ : ∃ z9, xs (4 * i9 + 2) = z9 := ⟨_, rfl⟩
  cases hx1 : isIx x 6 with
  | false =>
    exact s_cloth_t1 hfl hE hi hC hR hO hTx hS hl hce7 hsn7 x y a1 a2 hx1 (fun H1 locs1 ls1 y9 => kk H1 locs1 ls1 _ _ _ _ _ _ _ y9)
  | true =>
    obtain ⟨k, hk, rfl⟩ := isIx_t hx1 (by omega)
    clear hx1
    cases hx1 : isIx y 5 with
    | false =>
      exact s_cloth_t2 hfl hE hi hC hR hO hTx hS hl hce7 hsn7 k y a1 a2 hk hx1 (fun H1 locs1 ls1 y9 => kk H1 locs1 ls1 _ _ _ _ _ _ _ y9)
    | true =>
      obtain ⟨w, hw, rfl⟩ := isIx_t hx1 (by omega)
      clear hx1
      exact s_cloth_ok hfl hE hi hC hR hO hTx hS hl hce7 hsn7 k w a1 a2 hk hw (fun H1 locs1 ls1 y9 => kk H1 locs1 ls1 _ _ _ _ _ _ _ y9)

set_option maxRecDepth 100000 in
set_option maxHeartbeats 800000 in
theorem case_frame {p : Program} {l : Launch} {e : Env} {s : State} {m : MethodId} {args : Array Value} {below : List Frame} {meth : Method} {c : Code} {H : Heap} {locs : List Loc} {ce7 sn7 : Nat} {Q : State → Prop} {g : GG} {b L xb r ob lim : Nat} {xs : Nat → Int32} {i9 : Nat} {ls : Array Slot} {q : Nat → Int32} {n : Nat} {rm sl sv tx : Nat → Int32} {ln : Nat} (hfl : l.stackTraces = false) (hE : LE p s m meth c g b L xs xb r ob lim) (hi : 4 * i9 + 3 < L) (hL : LI g xb r ob lim q n rm sl sv tx ln H) (hS : va_S (fun q9 => xb ≤ q9) s.heap H locs) (hl : lv_has ls 7 [(0, .ref b), (1, .ref xb), (2, .ref r), (3, .ref ob), (4, .int (nI (4 * i9)))]) (hce7 : ce7 + 30 ≤ 622861) (hsn7 : sn7 + 1100 ≤ 7227521) (kk : ∀ (H1 : Heap) (locs1 : List Loc) (ls1 : Array Slot) (q1 : Nat → Int32) (n1 : Nat) (rm1 sl1 sv1 tx1 : Nat → Int32) (ln1 : Nat), LI g xb r ob lim q1 n1 rm1 sl1 sv1 tx1 ln1 H1 → va_S (fun q9 => xb ≤ q9) s.heap H1 locs1 → lv_has ls1 7 [(0, .ref b), (1, .ref xb), (2, .ref r), (3, .ref ob), (4, .int (nI (4 * i9)))] → W p l e room_1 s m args below meth c H1 locs1 (ce7 + 30) (sn7 + 1100) Q (F0 m 1803 ls1 [])) : W p l e room_1 s m args below meth c H locs ce7 sn7 Q (F0 m 434 ls []) := by
  obtain ⟨hC, ⟨zsp, zth, zsg, zbg, zwd, zhg, zin, zop, zbe, zwi, zhi, zbk, zot, zer, zen, zpo, zpi, zgr, zsh, zsn, hR⟩, ⟨o, hO⟩, hTx⟩ := hL
  have hW := hC.wf
  have hl6c := hC.l60
  have hnm5 := hW.2.2.1
  obtain ⟨x, a1⟩ : ∃ z9, xs (4 * i9 + 1) = z9 := ⟨_, rfl⟩
  obtain ⟨y, a2⟩ : ∃ z9, xs (4 * i9 + 2) = z9 := ⟨_, rfl⟩
  cases hx1 : isIx x 3 with
  | false =>
    exact s_frame_t1 hfl hE hi hC hR hO hTx hS hl hce7 hsn7 x y a1 a2 hx1 (fun H1 locs1 ls1 y9 => kk H1 locs1 ls1 _ _ _ _ _ _ _ y9)
  | true =>
    obtain ⟨f, hf, rfl⟩ := isIx_t hx1 (by omega)
    clear hx1
    cases hx1 : isIx y 7 with
    | false =>
      exact s_frame_t2 hfl hE hi hC hR hO hTx hS hl hce7 hsn7 f y a1 a2 hf hx1 (fun H1 locs1 ls1 y9 => kk H1 locs1 ls1 _ _ _ _ _ _ _ y9)
    | true =>
      obtain ⟨w, hw, rfl⟩ := isIx_t hx1 (by omega)
      clear hx1
      rcases (show w = 0 ∨ w = 1 ∨ w = 2 ∨ w = 3 ∨ w = 4 ∨ w = 5 ∨ w = 6 by omega) with rfl | rfl | rfl | rfl | rfl | rfl | rfl
      · skip
        exact s_frame_w0 hfl hE hi hC hR hO hTx hS hl hce7 hsn7 f a1 a2 hf (fun H1 locs1 ls1 y9 => kk H1 locs1 ls1 _ _ _ _ _ _ _ y9)
      · skip
        exact s_frame_w1 hfl hE hi hC hR hO hTx hS hl hce7 hsn7 f a1 a2 hf (fun H1 locs1 ls1 y9 => kk H1 locs1 ls1 _ _ _ _ _ _ _ y9)
      · skip
        exact s_frame_w2 hfl hE hi hC hR hO hTx hS hl hce7 hsn7 f a1 a2 hf (fun H1 locs1 ls1 y9 => kk H1 locs1 ls1 _ _ _ _ _ _ _ y9)
      · skip
        exact s_frame_w3 hfl hE hi hC hR hO hTx hS hl hce7 hsn7 f a1 a2 hf (fun H1 locs1 ls1 y9 => kk H1 locs1 ls1 _ _ _ _ _ _ _ y9)
      · skip
        exact s_frame_w4 hfl hE hi hC hR hO hTx hS hl hce7 hsn7 f a1 a2 hf (fun H1 locs1 ls1 y9 => kk H1 locs1 ls1 _ _ _ _ _ _ _ y9)
      · skip
        exact s_frame_w5 hfl hE hi hC hR hO hTx hS hl hce7 hsn7 f a1 a2 hf (fun H1 locs1 ls1 y9 => kk H1 locs1 ls1 _ _ _ _ _ _ _ y9)
      · skip
        exact s_frame_w6 hfl hE hi hC hR hO hTx hS hl hce7 hsn7 f a1 a2 hf (fun H1 locs1 ls1 y9 => kk H1 locs1 ls1 _ _ _ _ _ _ _ y9)

set_option maxRecDepth 100000 in
set_option maxHeartbeats 800000 in
theorem case_patch {p : Program} {l : Launch} {e : Env} {s : State} {m : MethodId} {args : Array Value} {below : List Frame} {meth : Method} {c : Code} {H : Heap} {locs : List Loc} {ce7 sn7 : Nat} {Q : State → Prop} {g : GG} {b L xb r ob lim : Nat} {xs : Nat → Int32} {i9 : Nat} {ls : Array Slot} {q : Nat → Int32} {n : Nat} {rm sl sv tx : Nat → Int32} {ln : Nat} (hfl : l.stackTraces = false) (hE : LE p s m meth c g b L xs xb r ob lim) (hi : 4 * i9 + 3 < L) (hL : LI g xb r ob lim q n rm sl sv tx ln H) (hS : va_S (fun q9 => xb ≤ q9) s.heap H locs) (hl : lv_has ls 7 [(0, .ref b), (1, .ref xb), (2, .ref r), (3, .ref ob), (4, .int (nI (4 * i9)))]) (hce7 : ce7 + 30 ≤ 622861) (hsn7 : sn7 + 1100 ≤ 7227521) (kk : ∀ (H1 : Heap) (locs1 : List Loc) (ls1 : Array Slot) (q1 : Nat → Int32) (n1 : Nat) (rm1 sl1 sv1 tx1 : Nat → Int32) (ln1 : Nat), LI g xb r ob lim q1 n1 rm1 sl1 sv1 tx1 ln1 H1 → va_S (fun q9 => xb ≤ q9) s.heap H1 locs1 → lv_has ls1 7 [(0, .ref b), (1, .ref xb), (2, .ref r), (3, .ref ob), (4, .int (nI (4 * i9)))] → W p l e room_1 s m args below meth c H1 locs1 (ce7 + 30) (sn7 + 1100) Q (F0 m 1803 ls1 [])) : W p l e room_1 s m args below meth c H locs ce7 sn7 Q (F0 m 502 ls []) := by
  obtain ⟨hC, ⟨zsp, zth, zsg, zbg, zwd, zhg, zin, zop, zbe, zwi, zhi, zbk, zot, zer, zen, zpo, zpi, zgr, zsh, zsn, hR⟩, ⟨o, hO⟩, hTx⟩ := hL
  have hW := hC.wf
  have hl6c := hC.l60
  have hnm5 := hW.2.2.1
  obtain ⟨x, a1⟩ : ∃ z9, xs (4 * i9 + 1) = z9 := ⟨_, rfl⟩
  obtain ⟨y, a2⟩ : ∃ z9, xs (4 * i9 + 2) = z9 := ⟨_, rfl⟩
  obtain ⟨z, a3⟩ : ∃ z9, xs (4 * i9 + 3) = z9 := ⟨_, rfl⟩
  cases hx1 : isIx x 3 with
  | false =>
    exact s_patch_t1 hfl hE hi hC hR hO hTx hS hl hce7 hsn7 x y z a1 a2 a3 hx1 (fun H1 locs1 ls1 y9 => kk H1 locs1 ls1 _ _ _ _ _ _ _ y9)
  | true =>
    obtain ⟨f, hf, rfl⟩ := isIx_t hx1 (by omega)
    clear hx1
    by_cases hx1 : y < 0 ∨ z < 0
    · skip
      exact s_patch_t2 hfl hE hi hC hR hO hTx hS hl hce7 hsn7 f y z a1 a2 a3 hf hx1 (fun H1 locs1 ls1 y9 => kk H1 locs1 ls1 _ _ _ _ _ _ _ y9)
    · skip
      obtain ⟨a, ha, rfl⟩ := nn_of (fun h9 => hx1 (Or.inl h9))
      obtain ⟨b7, hb8, rfl⟩ := nn_of (fun h9 => hx1 (Or.inr h9))
      exact s_patch_ok hfl hE hi hC hR hO hTx hS hl hce7 hsn7 f a b7 a1 a2 a3 hf ha hb8 (fun H1 locs1 ls1 y9 => kk H1 locs1 ls1 _ _ _ _ _ _ _ y9)

set_option maxRecDepth 100000 in
set_option maxHeartbeats 800000 in
theorem case_count {p : Program} {l : Launch} {e : Env} {s : State} {m : MethodId} {args : Array Value} {below : List Frame} {meth : Method} {c : Code} {H : Heap} {locs : List Loc} {ce7 sn7 : Nat} {Q : State → Prop} {g : GG} {b L xb r ob lim : Nat} {xs : Nat → Int32} {i9 : Nat} {ls : Array Slot} {q : Nat → Int32} {n : Nat} {rm sl sv tx : Nat → Int32} {ln : Nat} (hfl : l.stackTraces = false) (hE : LE p s m meth c g b L xs xb r ob lim) (hi : 4 * i9 + 3 < L) (hL : LI g xb r ob lim q n rm sl sv tx ln H) (hS : va_S (fun q9 => xb ≤ q9) s.heap H locs) (hl : lv_has ls 7 [(0, .ref b), (1, .ref xb), (2, .ref r), (3, .ref ob), (4, .int (nI (4 * i9)))]) (hce7 : ce7 + 30 ≤ 622861) (hsn7 : sn7 + 1100 ≤ 7227521) (kk : ∀ (H1 : Heap) (locs1 : List Loc) (ls1 : Array Slot) (q1 : Nat → Int32) (n1 : Nat) (rm1 sl1 sv1 tx1 : Nat → Int32) (ln1 : Nat), LI g xb r ob lim q1 n1 rm1 sl1 sv1 tx1 ln1 H1 → va_S (fun q9 => xb ≤ q9) s.heap H1 locs1 → lv_has ls1 7 [(0, .ref b), (1, .ref xb), (2, .ref r), (3, .ref ob), (4, .int (nI (4 * i9)))] → W p l e room_1 s m args below meth c H1 locs1 (ce7 + 30) (sn7 + 1100) Q (F0 m 1803 ls1 [])) : W p l e room_1 s m args below meth c H locs ce7 sn7 Q (F0 m 582 ls []) := by
  obtain ⟨hC, ⟨zsp, zth, zsg, zbg, zwd, zhg, zin, zop, zbe, zwi, zhi, zbk, zot, zer, zen, zpo, zpi, zgr, zsh, zsn, hR⟩, ⟨o, hO⟩, hTx⟩ := hL
  have hW := hC.wf
  have hl6c := hC.l60
  have hnm5 := hW.2.2.1
  obtain ⟨x, a1⟩ : ∃ z9, xs (4 * i9 + 1) = z9 := ⟨_, rfl⟩
  obtain ⟨y, a2⟩ : ∃ z9, xs (4 * i9 + 2) = z9 := ⟨_, rfl⟩
  obtain ⟨z, a3⟩ : ∃ z9, xs (4 * i9 + 3) = z9 := ⟨_, rfl⟩
  by_cases hz9 : z = 0
  · skip
    cases hx1 : isIx x 3 with
    | false =>
      exact s_count_t1_0 hfl hE hi hC hR hO hTx hS hl hce7 hsn7 x y z a1 a2 a3 hx1 hz9 (fun H1 locs1 ls1 y9 => kk H1 locs1 ls1 _ _ _ _ _ _ _ y9)
    | true =>
      obtain ⟨f, hf, rfl⟩ := isIx_t hx1 (by omega)
      clear hx1
      cases hx1 : isIx y 6 with
      | false =>
        exact s_count_t1b_0 hfl hE hi hC hR hO hTx hS hl hce7 hsn7 f y z a1 a2 a3 hf hx1 hz9 (fun H1 locs1 ls1 y9 => kk H1 locs1 ls1 _ _ _ _ _ _ _ y9)
      | true =>
        obtain ⟨c0, hc, rfl⟩ := isIx_t hx1 (by omega)
        clear hx1
        exact s_count_z0 hfl hE hi hC hR hO hTx hS hl hce7 hsn7 f c0 z a1 a2 a3 hf hc hz9 (fun H1 locs1 ls1 y9 => kk H1 locs1 ls1 _ _ _ _ _ _ _ y9)
  · skip
    cases hx1 : isIx x 3 with
    | false =>
      exact s_count_t1_1 hfl hE hi hC hR hO hTx hS hl hce7 hsn7 x y z a1 a2 a3 hx1 hz9 (fun H1 locs1 ls1 y9 => kk H1 locs1 ls1 _ _ _ _ _ _ _ y9)
    | true =>
      obtain ⟨f, hf, rfl⟩ := isIx_t hx1 (by omega)
      clear hx1
      cases hx1 : isIx y 6 with
      | false =>
        exact s_count_t1b_1 hfl hE hi hC hR hO hTx hS hl hce7 hsn7 f y z a1 a2 a3 hf hx1 hz9 (fun H1 locs1 ls1 y9 => kk H1 locs1 ls1 _ _ _ _ _ _ _ y9)
      | true =>
        obtain ⟨c0, hc, rfl⟩ := isIx_t hx1 (by omega)
        clear hx1
        exact s_count_z1 hfl hE hi hC hR hO hTx hS hl hce7 hsn7 f c0 z a1 a2 a3 hf hc hz9 (fun H1 locs1 ls1 y9 => kk H1 locs1 ls1 _ _ _ _ _ _ _ y9)

set_option maxRecDepth 100000 in
set_option maxHeartbeats 800000 in
theorem case_same {p : Program} {l : Launch} {e : Env} {s : State} {m : MethodId} {args : Array Value} {below : List Frame} {meth : Method} {c : Code} {H : Heap} {locs : List Loc} {ce7 sn7 : Nat} {Q : State → Prop} {g : GG} {b L xb r ob lim : Nat} {xs : Nat → Int32} {i9 : Nat} {ls : Array Slot} {q : Nat → Int32} {n : Nat} {rm sl sv tx : Nat → Int32} {ln : Nat} (hfl : l.stackTraces = false) (hE : LE p s m meth c g b L xs xb r ob lim) (hi : 4 * i9 + 3 < L) (hL : LI g xb r ob lim q n rm sl sv tx ln H) (hS : va_S (fun q9 => xb ≤ q9) s.heap H locs) (hl : lv_has ls 7 [(0, .ref b), (1, .ref xb), (2, .ref r), (3, .ref ob), (4, .int (nI (4 * i9)))]) (hce7 : ce7 + 30 ≤ 622861) (hsn7 : sn7 + 1100 ≤ 7227521) (kk : ∀ (H1 : Heap) (locs1 : List Loc) (ls1 : Array Slot) (q1 : Nat → Int32) (n1 : Nat) (rm1 sl1 sv1 tx1 : Nat → Int32) (ln1 : Nat), LI g xb r ob lim q1 n1 rm1 sl1 sv1 tx1 ln1 H1 → va_S (fun q9 => xb ≤ q9) s.heap H1 locs1 → lv_has ls1 7 [(0, .ref b), (1, .ref xb), (2, .ref r), (3, .ref ob), (4, .int (nI (4 * i9)))] → W p l e room_1 s m args below meth c H1 locs1 (ce7 + 30) (sn7 + 1100) Q (F0 m 1803 ls1 [])) : W p l e room_1 s m args below meth c H locs ce7 sn7 Q (F0 m 678 ls []) := by
  obtain ⟨hC, ⟨zsp, zth, zsg, zbg, zwd, zhg, zin, zop, zbe, zwi, zhi, zbk, zot, zer, zen, zpo, zpi, zgr, zsh, zsn, hR⟩, ⟨o, hO⟩, hTx⟩ := hL
  have hW := hC.wf
  have hl6c := hC.l60
  have hnm5 := hW.2.2.1
  obtain ⟨x, a1⟩ : ∃ z9, xs (4 * i9 + 1) = z9 := ⟨_, rfl⟩
  obtain ⟨y, a2⟩ : ∃ z9, xs (4 * i9 + 2) = z9 := ⟨_, rfl⟩
  cases hx1 : isIx x 3 with
  | false =>
    exact s_same_t1 hfl hE hi hC hR hO hTx hS hl hce7 hsn7 x y a1 a2 hx1 (fun H1 locs1 ls1 y9 => kk H1 locs1 ls1 _ _ _ _ _ _ _ y9)
  | true =>
    obtain ⟨f, hf, rfl⟩ := isIx_t hx1 (by omega)
    clear hx1
    cases hx1 : isIx y 3 with
    | false =>
      exact s_same_t2 hfl hE hi hC hR hO hTx hS hl hce7 hsn7 f y a1 a2 hf hx1 (fun H1 locs1 ls1 y9 => kk H1 locs1 ls1 _ _ _ _ _ _ _ y9)
    | true =>
      obtain ⟨w, hw, rfl⟩ := isIx_t hx1 (by omega)
      clear hx1
      by_cases hs9 : szF q f = 0
      · skip
        exact s_same_e hfl hE hi hC hR hO hTx hS hl hce7 hsn7 f w a1 a2 hf hw hs9 (fun H1 locs1 ls1 y9 => kk H1 locs1 ls1 _ _ _ _ _ _ _ y9)
      · skip
        have hs0 : 0 < szF q f := Nat.pos_of_ne_zero hs9
        rcases (show w = 0 ∨ w = 1 ∨ w = 2 by omega) with rfl | rfl | rfl
        · skip
          exact s_same_w0 hfl hE hi hC hR hO hTx hS hl hce7 hsn7 f a1 a2 hf hs0 (fun H1 locs1 ls1 y9 => kk H1 locs1 ls1 _ _ _ _ _ _ _ y9)
        · skip
          exact s_same_w1 hfl hE hi hC hR hO hTx hS hl hce7 hsn7 f a1 a2 hf hs0 (fun H1 locs1 ls1 y9 => kk H1 locs1 ls1 _ _ _ _ _ _ _ y9)
        · skip
          exact s_same_w2 hfl hE hi hC hR hO hTx hS hl hce7 hsn7 f a1 a2 hf hs0 (fun H1 locs1 ls1 y9 => kk H1 locs1 ls1 _ _ _ _ _ _ _ y9)

set_option maxRecDepth 100000 in
set_option maxHeartbeats 800000 in
theorem case_addMember {p : Program} {l : Launch} {e : Env} {s : State} {m : MethodId} {args : Array Value} {below : List Frame} {meth : Method} {c : Code} {H : Heap} {locs : List Loc} {ce7 sn7 : Nat} {Q : State → Prop} {g : GG} {b L xb r ob lim : Nat} {xs : Nat → Int32} {i9 : Nat} {ls : Array Slot} {q : Nat → Int32} {n : Nat} {rm sl sv tx : Nat → Int32} {ln : Nat} (hfl : l.stackTraces = false) (hE : LE p s m meth c g b L xs xb r ob lim) (hi : 4 * i9 + 3 < L) (hL : LI g xb r ob lim q n rm sl sv tx ln H) (hS : va_S (fun q9 => xb ≤ q9) s.heap H locs) (hl : lv_has ls 7 [(0, .ref b), (1, .ref xb), (2, .ref r), (3, .ref ob), (4, .int (nI (4 * i9)))]) (hce7 : ce7 + 30 ≤ 622861) (hsn7 : sn7 + 1100 ≤ 7227521) (kk : ∀ (H1 : Heap) (locs1 : List Loc) (ls1 : Array Slot) (q1 : Nat → Int32) (n1 : Nat) (rm1 sl1 sv1 tx1 : Nat → Int32) (ln1 : Nat), LI g xb r ob lim q1 n1 rm1 sl1 sv1 tx1 ln1 H1 → va_S (fun q9 => xb ≤ q9) s.heap H1 locs1 → lv_has ls1 7 [(0, .ref b), (1, .ref xb), (2, .ref r), (3, .ref ob), (4, .int (nI (4 * i9)))] → W p l e room_1 s m args below meth c H1 locs1 (ce7 + 30) (sn7 + 1100) Q (F0 m 1803 ls1 [])) : W p l e room_1 s m args below meth c H locs ce7 sn7 Q (F0 m 753 ls []) := by
  obtain ⟨hC, ⟨zsp, zth, zsg, zbg, zwd, zhg, zin, zop, zbe, zwi, zhi, zbk, zot, zer, zen, zpo, zpi, zgr, zsh, zsn, hR⟩, ⟨o, hO⟩, hTx⟩ := hL
  have hW := hC.wf
  have hl6c := hC.l60
  have hnm5 := hW.2.2.1
  by_cases hs9 : nmQ q = 5
  · skip
    exact s_addMember_t1 hfl hE hi hC hR hO hTx hS hl hce7 hsn7 hs9 (fun H1 locs1 ls1 y9 => kk H1 locs1 ls1 _ _ _ _ _ _ _ y9)
  · skip
    exact s_addMember_ok hfl hE hi hC hR hO hTx hS hl hce7 hsn7 (by omega) (fun H1 locs1 ls1 y9 => kk H1 locs1 ls1 _ _ _ _ _ _ _ y9)

set_option maxRecDepth 100000 in
set_option maxHeartbeats 800000 in
theorem case_give {p : Program} {l : Launch} {e : Env} {s : State} {m : MethodId} {args : Array Value} {below : List Frame} {meth : Method} {c : Code} {H : Heap} {locs : List Loc} {ce7 sn7 : Nat} {Q : State → Prop} {g : GG} {b L xb r ob lim : Nat} {xs : Nat → Int32} {i9 : Nat} {ls : Array Slot} {q : Nat → Int32} {n : Nat} {rm sl sv tx : Nat → Int32} {ln : Nat} (hfl : l.stackTraces = false) (hE : LE p s m meth c g b L xs xb r ob lim) (hi : 4 * i9 + 3 < L) (hL : LI g xb r ob lim q n rm sl sv tx ln H) (hS : va_S (fun q9 => xb ≤ q9) s.heap H locs) (hl : lv_has ls 7 [(0, .ref b), (1, .ref xb), (2, .ref r), (3, .ref ob), (4, .int (nI (4 * i9)))]) (hce7 : ce7 + 30 ≤ 622861) (hsn7 : sn7 + 1100 ≤ 7227521) (kk : ∀ (H1 : Heap) (locs1 : List Loc) (ls1 : Array Slot) (q1 : Nat → Int32) (n1 : Nat) (rm1 sl1 sv1 tx1 : Nat → Int32) (ln1 : Nat), LI g xb r ob lim q1 n1 rm1 sl1 sv1 tx1 ln1 H1 → va_S (fun q9 => xb ≤ q9) s.heap H1 locs1 → lv_has ls1 7 [(0, .ref b), (1, .ref xb), (2, .ref r), (3, .ref ob), (4, .int (nI (4 * i9)))] → W p l e room_1 s m args below meth c H1 locs1 (ce7 + 30) (sn7 + 1100) Q (F0 m 1803 ls1 [])) : W p l e room_1 s m args below meth c H locs ce7 sn7 Q (F0 m 797 ls []) := by
  obtain ⟨hC, ⟨zsp, zth, zsg, zbg, zwd, zhg, zin, zop, zbe, zwi, zhi, zbk, zot, zer, zen, zpo, zpi, zgr, zsh, zsn, hR⟩, ⟨o, hO⟩, hTx⟩ := hL
  have hW := hC.wf
  have hl6c := hC.l60
  have hnm5 := hW.2.2.1
  obtain ⟨x, a1⟩ : ∃ z9, xs (4 * i9 + 1) = z9 := ⟨_, rfl⟩
  obtain ⟨y, a2⟩ : ∃ z9, xs (4 * i9 + 2) = z9 := ⟨_, rfl⟩
  obtain ⟨z, a3⟩ : ∃ z9, xs (4 * i9 + 3) = z9 := ⟨_, rfl⟩
  cases hx1 : isIx x (nmQ q) with
  | false =>
    exact s_give_t1 hfl hE hi hC hR hO hTx hS hl hce7 hsn7 x y z a1 a2 a3 hx1 (fun H1 locs1 ls1 y9 => kk H1 locs1 ls1 _ _ _ _ _ _ _ y9)
  | true =>
    obtain ⟨k, hk, rfl⟩ := isIx_t hx1 (by omega)
    clear hx1
    cases hx1 : isIx y 6 with
    | false =>
      exact s_give_t1b hfl hE hi hC hR hO hTx hS hl hce7 hsn7 k y z a1 a2 a3 hk hx1 (fun H1 locs1 ls1 y9 => kk H1 locs1 ls1 _ _ _ _ _ _ _ y9)
    | true =>
      obtain ⟨c0, hc, rfl⟩ := isIx_t hx1 (by omega)
      clear hx1
      cases hx1 : inL z.toInt64 1 99 with
      | false =>
        exact s_give_t2 hfl hE hi hC hR hO hTx hS hl hce7 hsn7 k c0 z a1 a2 a3 hk hc hx1 (fun H1 locs1 ls1 y9 => kk H1 locs1 ls1 _ _ _ _ _ _ _ y9)
      | true =>
        obtain ⟨x, hx1, hx2, rfl⟩ := inL_nt (b := 99) (by omega) 99 rfl hx1
        clear hx1
        exact s_give_ok hfl hE hi hC hR hO hTx hS hl hce7 hsn7 k c0 x a1 a2 a3 hk hc hx1 hx2 (fun H1 locs1 ls1 y9 => kk H1 locs1 ls1 _ _ _ _ _ _ _ y9)

set_option maxRecDepth 100000 in
set_option maxHeartbeats 800000 in
theorem case_start {p : Program} {l : Launch} {e : Env} {s : State} {m : MethodId} {args : Array Value} {below : List Frame} {meth : Method} {c : Code} {H : Heap} {locs : List Loc} {ce7 sn7 : Nat} {Q : State → Prop} {g : GG} {b L xb r ob lim : Nat} {xs : Nat → Int32} {i9 : Nat} {ls : Array Slot} {q : Nat → Int32} {n : Nat} {rm sl sv tx : Nat → Int32} {ln : Nat} (hfl : l.stackTraces = false) (hE : LE p s m meth c g b L xs xb r ob lim) (hi : 4 * i9 + 3 < L) (hL : LI g xb r ob lim q n rm sl sv tx ln H) (hS : va_S (fun q9 => xb ≤ q9) s.heap H locs) (hl : lv_has ls 7 [(0, .ref b), (1, .ref xb), (2, .ref r), (3, .ref ob), (4, .int (nI (4 * i9)))]) (hce7 : ce7 + 30 ≤ 622861) (hsn7 : sn7 + 1100 ≤ 7227521) (kk : ∀ (H1 : Heap) (locs1 : List Loc) (ls1 : Array Slot) (q1 : Nat → Int32) (n1 : Nat) (rm1 sl1 sv1 tx1 : Nat → Int32) (ln1 : Nat), LI g xb r ob lim q1 n1 rm1 sl1 sv1 tx1 ln1 H1 → va_S (fun q9 => xb ≤ q9) s.heap H1 locs1 → lv_has ls1 7 [(0, .ref b), (1, .ref xb), (2, .ref r), (3, .ref ob), (4, .int (nI (4 * i9)))] → W p l e room_1 s m args below meth c H1 locs1 (ce7 + 30) (sn7 + 1100) Q (F0 m 1803 ls1 [])) : W p l e room_1 s m args below meth c H locs ce7 sn7 Q (F0 m 877 ls []) := by
  obtain ⟨hC, ⟨zsp, zth, zsg, zbg, zwd, zhg, zin, zop, zbe, zwi, zhi, zbk, zot, zer, zen, zpo, zpi, zgr, zsh, zsn, hR⟩, ⟨o, hO⟩, hTx⟩ := hL
  have hW := hC.wf
  have hl6c := hC.l60
  have hnm5 := hW.2.2.1
  obtain ⟨x, a1⟩ : ∃ z9, xs (4 * i9 + 1) = z9 := ⟨_, rfl⟩
  cases hx1 : isIx x 3 with
  | false =>
    exact s_start_t1 hfl hE hi hC hR hO hTx hS hl hce7 hsn7 x a1 hx1 (fun H1 locs1 ls1 y9 => kk H1 locs1 ls1 _ _ _ _ _ _ _ y9)
  | true =>
    obtain ⟨f, hf, rfl⟩ := isIx_t hx1 (by omega)
    clear hx1
    by_cases hs0 : szF q f = 0
    · skip
      rcases hw : wholeS (qn tx) ln with e9 | bq
      · skip
        exact s_start_C hfl hE hi hC hR hO hTx hS hl hce7 hsn7 f e9 a1 hf hs0 hw (fun H1 locs1 ls1 y9 => kk H1 locs1 ls1 _ _ _ _ _ _ _ y9)
      · skip
        exact s_start_ok hfl hE hi hC hR hO hTx hS hl hce7 hsn7 f bq a1 hf hs0 hw (fun H1 locs1 ls1 y9 => kk H1 locs1 ls1 _ _ _ _ _ _ _ y9)
    · skip
      have hs0 : 0 < szF q f := Nat.pos_of_ne_zero hs0
      rcases hw : wholeS (qn tx) ln with e9 | b1
      · skip
        exact s_start_A hfl hE hi hC hR hO hTx hS hl hce7 hsn7 f e9 a1 hf hs0 hw (fun H1 locs1 ls1 y9 => kk H1 locs1 ls1 _ _ _ _ _ _ _ y9)
      · skip
        exact s_start_B hfl hE hi hC hR hO hTx hS hl hce7 hsn7 f b1 a1 hf hs0 hw (fun H1 locs1 ls1 y9 => kk H1 locs1 ls1 _ _ _ _ _ _ _ y9)

set_option maxRecDepth 100000 in
set_option maxHeartbeats 800000 in
theorem case_recolour {p : Program} {l : Launch} {e : Env} {s : State} {m : MethodId} {args : Array Value} {below : List Frame} {meth : Method} {c : Code} {H : Heap} {locs : List Loc} {ce7 sn7 : Nat} {Q : State → Prop} {g : GG} {b L xb r ob lim : Nat} {xs : Nat → Int32} {i9 : Nat} {ls : Array Slot} {q : Nat → Int32} {n : Nat} {rm sl sv tx : Nat → Int32} {ln : Nat} (hfl : l.stackTraces = false) (hE : LE p s m meth c g b L xs xb r ob lim) (hi : 4 * i9 + 3 < L) (hL : LI g xb r ob lim q n rm sl sv tx ln H) (hS : va_S (fun q9 => xb ≤ q9) s.heap H locs) (hl : lv_has ls 7 [(0, .ref b), (1, .ref xb), (2, .ref r), (3, .ref ob), (4, .int (nI (4 * i9)))]) (hce7 : ce7 + 30 ≤ 622861) (hsn7 : sn7 + 1100 ≤ 7227521) (kk : ∀ (H1 : Heap) (locs1 : List Loc) (ls1 : Array Slot) (q1 : Nat → Int32) (n1 : Nat) (rm1 sl1 sv1 tx1 : Nat → Int32) (ln1 : Nat), LI g xb r ob lim q1 n1 rm1 sl1 sv1 tx1 ln1 H1 → va_S (fun q9 => xb ≤ q9) s.heap H1 locs1 → lv_has ls1 7 [(0, .ref b), (1, .ref xb), (2, .ref r), (3, .ref ob), (4, .int (nI (4 * i9)))] → W p l e room_1 s m args below meth c H1 locs1 (ce7 + 30) (sn7 + 1100) Q (F0 m 1803 ls1 [])) : W p l e room_1 s m args below meth c H locs ce7 sn7 Q (F0 m 933 ls []) := by
  obtain ⟨hC, ⟨zsp, zth, zsg, zbg, zwd, zhg, zin, zop, zbe, zwi, zhi, zbk, zot, zer, zen, zpo, zpi, zgr, zsh, zsn, hR⟩, ⟨o, hO⟩, hTx⟩ := hL
  have hW := hC.wf
  have hl6c := hC.l60
  have hnm5 := hW.2.2.1
  obtain ⟨x, a1⟩ : ∃ z9, xs (4 * i9 + 1) = z9 := ⟨_, rfl⟩
  obtain ⟨y, a2⟩ : ∃ z9, xs (4 * i9 + 2) = z9 := ⟨_, rfl⟩
  obtain ⟨z, a3⟩ : ∃ z9, xs (4 * i9 + 3) = z9 := ⟨_, rfl⟩
  cases hx1 : isIx x 3 with
  | false =>
    exact s_recolour_t1 hfl hE hi hC hR hO hTx hS hl hce7 hsn7 x y z a1 a2 a3 hx1 (fun H1 locs1 ls1 y9 => kk H1 locs1 ls1 _ _ _ _ _ _ _ y9)
  | true =>
    obtain ⟨f, hf, rfl⟩ := isIx_t hx1 (by omega)
    clear hx1
    cases hx1 : isIx y 6 with
    | false =>
      exact s_recolour_t1b hfl hE hi hC hR hO hTx hS hl hce7 hsn7 f y z a1 a2 a3 hf hx1 (fun H1 locs1 ls1 y9 => kk H1 locs1 ls1 _ _ _ _ _ _ _ y9)
    | true =>
      obtain ⟨a0, ha, rfl⟩ := isIx_t hx1 (by omega)
      clear hx1
      cases hx1 : isIx z 6 with
      | false =>
        exact s_recolour_t1c hfl hE hi hC hR hO hTx hS hl hce7 hsn7 f a0 z a1 a2 a3 hf ha hx1 (fun H1 locs1 ls1 y9 => kk H1 locs1 ls1 _ _ _ _ _ _ _ y9)
      | true =>
        obtain ⟨b0, hb8, rfl⟩ := isIx_t hx1 (by omega)
        clear hx1
        by_cases hs9 : 0 < szF q f ∧ swF q f = 0
        · skip
          obtain ⟨hs0, hs1⟩ := hs9
          by_cases hab : a0 = b0
          · skip
            subst hab
            exact s_recolour_e hfl hE hi hC hR hO hTx hS hl hce7 hsn7 f a0 a1 a2 a3 hf ha hs0 hs1 (fun H1 locs1 ls1 y9 => kk H1 locs1 ls1 _ _ _ _ _ _ _ y9)
          · skip
            exact s_recolour_ok hfl hE hi hC hR hO hTx hS hl hce7 hsn7 f a0 b0 a1 a2 a3 hf ha hb8 hs0 hs1 hab (fun H1 locs1 ls1 y9 => kk H1 locs1 ls1 _ _ _ _ _ _ _ y9)
        · skip
          exact s_recolour_t2 hfl hE hi hC hR hO hTx hS hl hce7 hsn7 f a0 b0 a1 a2 a3 hf ha hb8 hs9 (fun H1 locs1 ls1 y9 => kk H1 locs1 ls1 _ _ _ _ _ _ _ y9)

set_option maxRecDepth 100000 in
set_option maxHeartbeats 800000 in
theorem case_sew {p : Program} {l : Launch} {e : Env} {s : State} {m : MethodId} {args : Array Value} {below : List Frame} {meth : Method} {c : Code} {H : Heap} {locs : List Loc} {ce7 sn7 : Nat} {Q : State → Prop} {g : GG} {b L xb r ob lim : Nat} {xs : Nat → Int32} {i9 : Nat} {ls : Array Slot} {q : Nat → Int32} {n : Nat} {rm sl sv tx : Nat → Int32} {ln : Nat} (hfl : l.stackTraces = false) (hE : LE p s m meth c g b L xs xb r ob lim) (hi : 4 * i9 + 3 < L) (hL : LI g xb r ob lim q n rm sl sv tx ln H) (hS : va_S (fun q9 => xb ≤ q9) s.heap H locs) (hl : lv_has ls 7 [(0, .ref b), (1, .ref xb), (2, .ref r), (3, .ref ob), (4, .int (nI (4 * i9)))]) (hce7 : ce7 + 30 ≤ 622861) (hsn7 : sn7 + 1100 ≤ 7227521) (kk : ∀ (H1 : Heap) (locs1 : List Loc) (ls1 : Array Slot) (q1 : Nat → Int32) (n1 : Nat) (rm1 sl1 sv1 tx1 : Nat → Int32) (ln1 : Nat), LI g xb r ob lim q1 n1 rm1 sl1 sv1 tx1 ln1 H1 → va_S (fun q9 => xb ≤ q9) s.heap H1 locs1 → lv_has ls1 7 [(0, .ref b), (1, .ref xb), (2, .ref r), (3, .ref ob), (4, .int (nI (4 * i9)))] → W p l e room_1 s m args below meth c H1 locs1 (ce7 + 30) (sn7 + 1100) Q (F0 m 1803 ls1 [])) : W p l e room_1 s m args below meth c H locs ce7 sn7 Q (F0 m 1013 ls []) := by
  obtain ⟨hC, ⟨zsp, zth, zsg, zbg, zwd, zhg, zin, zop, zbe, zwi, zhi, zbk, zot, zer, zen, zpo, zpi, zgr, zsh, zsn, hR⟩, ⟨o, hO⟩, hTx⟩ := hL
  have hW := hC.wf
  have hl6c := hC.l60
  have hnm5 := hW.2.2.1
  obtain ⟨x, a1⟩ : ∃ z9, xs (4 * i9 + 1) = z9 := ⟨_, rfl⟩
  obtain ⟨y, a2⟩ : ∃ z9, xs (4 * i9 + 2) = z9 := ⟨_, rfl⟩
  cases hx1 : isIx x 3 with
  | false =>
    exact s_sew_t1 hfl hE hi hC hR hO hTx hS hl hce7 hsn7 x y a1 a2 hx1 (fun H1 locs1 ls1 y9 => kk H1 locs1 ls1 _ _ _ _ _ _ _ y9)
  | true =>
    obtain ⟨f, hf, rfl⟩ := isIx_t hx1 (by omega)
    clear hx1
    cases hx1 : inL y.toInt64 1 99 with
    | false =>
      exact s_sew_t2 hfl hE hi hC hR hO hTx hS hl hce7 hsn7 f y a1 a2 hf hx1 (fun H1 locs1 ls1 y9 => kk H1 locs1 ls1 _ _ _ _ _ _ _ y9)
    | true =>
      obtain ⟨x, hx1, hx2, rfl⟩ := inL_nt (b := 99) (by omega) 99 rfl hx1
      clear hx1
      by_cases hs9 : 0 < szF q f ∧ 0 < nmQ q
      · skip
        obtain ⟨hs0, h0⟩ := hs9
        exact s_sew_ok hfl hE hi hC hR hO hTx hS hl hce7 hsn7 f x a1 a2 hf hx1 hx2 hs0 h0 (fun H1 locs1 ls1 y9 => kk H1 locs1 ls1 _ _ _ _ _ _ _ y9)
      · skip
        exact s_sew_t3 hfl hE hi hC hR hO hTx hS hl hce7 hsn7 f x a1 a2 hf hx1 hx2 hs9 (fun H1 locs1 ls1 y9 => kk H1 locs1 ls1 _ _ _ _ _ _ _ y9)

set_option maxRecDepth 100000 in
set_option maxHeartbeats 800000 in
theorem case_takeApart {p : Program} {l : Launch} {e : Env} {s : State} {m : MethodId} {args : Array Value} {below : List Frame} {meth : Method} {c : Code} {H : Heap} {locs : List Loc} {ce7 sn7 : Nat} {Q : State → Prop} {g : GG} {b L xb r ob lim : Nat} {xs : Nat → Int32} {i9 : Nat} {ls : Array Slot} {q : Nat → Int32} {n : Nat} {rm sl sv tx : Nat → Int32} {ln : Nat} (hfl : l.stackTraces = false) (hE : LE p s m meth c g b L xs xb r ob lim) (hi : 4 * i9 + 3 < L) (hL : LI g xb r ob lim q n rm sl sv tx ln H) (hS : va_S (fun q9 => xb ≤ q9) s.heap H locs) (hl : lv_has ls 7 [(0, .ref b), (1, .ref xb), (2, .ref r), (3, .ref ob), (4, .int (nI (4 * i9)))]) (hce7 : ce7 + 30 ≤ 622861) (hsn7 : sn7 + 1100 ≤ 7227521) (kk : ∀ (H1 : Heap) (locs1 : List Loc) (ls1 : Array Slot) (q1 : Nat → Int32) (n1 : Nat) (rm1 sl1 sv1 tx1 : Nat → Int32) (ln1 : Nat), LI g xb r ob lim q1 n1 rm1 sl1 sv1 tx1 ln1 H1 → va_S (fun q9 => xb ≤ q9) s.heap H1 locs1 → lv_has ls1 7 [(0, .ref b), (1, .ref xb), (2, .ref r), (3, .ref ob), (4, .int (nI (4 * i9)))] → W p l e room_1 s m args below meth c H1 locs1 (ce7 + 30) (sn7 + 1100) Q (F0 m 1803 ls1 [])) : W p l e room_1 s m args below meth c H locs ce7 sn7 Q (F0 m 1081 ls []) := by
  obtain ⟨hC, ⟨zsp, zth, zsg, zbg, zwd, zhg, zin, zop, zbe, zwi, zhi, zbk, zot, zer, zen, zpo, zpi, zgr, zsh, zsn, hR⟩, ⟨o, hO⟩, hTx⟩ := hL
  have hW := hC.wf
  have hl6c := hC.l60
  have hnm5 := hW.2.2.1
  obtain ⟨x, a1⟩ : ∃ z9, xs (4 * i9 + 1) = z9 := ⟨_, rfl⟩
  cases hx1 : isIx x 3 with
  | false =>
    exact s_takeApart_t1 hfl hE hi hC hR hO hTx hS hl hce7 hsn7 x a1 hx1 (fun H1 locs1 ls1 y9 => kk H1 locs1 ls1 _ _ _ _ _ _ _ y9)
  | true =>
    obtain ⟨f, hf, rfl⟩ := isIx_t hx1 (by omega)
    clear hx1
    by_cases hs0 : szF q f = 0
    · skip
      exact s_takeApart_t2 hfl hE hi hC hR hO hTx hS hl hce7 hsn7 f a1 hf hs0 (fun H1 locs1 ls1 y9 => kk H1 locs1 ls1 _ _ _ _ _ _ _ y9)
    · skip
      exact s_takeApart_ok hfl hE hi hC hR hO hTx hS hl hce7 hsn7 f a1 hf (Nat.pos_of_ne_zero hs0) (fun H1 locs1 ls1 y9 => kk H1 locs1 ls1 _ _ _ _ _ _ _ y9)

set_option maxRecDepth 100000 in
set_option maxHeartbeats 800000 in
theorem case_raffle {p : Program} {l : Launch} {e : Env} {s : State} {m : MethodId} {args : Array Value} {below : List Frame} {meth : Method} {c : Code} {H : Heap} {locs : List Loc} {ce7 sn7 : Nat} {Q : State → Prop} {g : GG} {b L xb r ob lim : Nat} {xs : Nat → Int32} {i9 : Nat} {ls : Array Slot} {q : Nat → Int32} {n : Nat} {rm sl sv tx : Nat → Int32} {ln : Nat} (hfl : l.stackTraces = false) (hE : LE p s m meth c g b L xs xb r ob lim) (hi : 4 * i9 + 3 < L) (hL : LI g xb r ob lim q n rm sl sv tx ln H) (hS : va_S (fun q9 => xb ≤ q9) s.heap H locs) (hl : lv_has ls 7 [(0, .ref b), (1, .ref xb), (2, .ref r), (3, .ref ob), (4, .int (nI (4 * i9)))]) (hce7 : ce7 + 30 ≤ 622861) (hsn7 : sn7 + 1100 ≤ 7227521) (kk : ∀ (H1 : Heap) (locs1 : List Loc) (ls1 : Array Slot) (q1 : Nat → Int32) (n1 : Nat) (rm1 sl1 sv1 tx1 : Nat → Int32) (ln1 : Nat), LI g xb r ob lim q1 n1 rm1 sl1 sv1 tx1 ln1 H1 → va_S (fun q9 => xb ≤ q9) s.heap H1 locs1 → lv_has ls1 7 [(0, .ref b), (1, .ref xb), (2, .ref r), (3, .ref ob), (4, .int (nI (4 * i9)))] → W p l e room_1 s m args below meth c H1 locs1 (ce7 + 30) (sn7 + 1100) Q (F0 m 1803 ls1 [])) : W p l e room_1 s m args below meth c H locs ce7 sn7 Q (F0 m 1137 ls []) := by
  obtain ⟨hC, ⟨zsp, zth, zsg, zbg, zwd, zhg, zin, zop, zbe, zwi, zhi, zbk, zot, zer, zen, zpo, zpi, zgr, zsh, zsn, hR⟩, ⟨o, hO⟩, hTx⟩ := hL
  have hW := hC.wf
  have hl6c := hC.l60
  have hnm5 := hW.2.2.1
  obtain ⟨x, a1⟩ : ∃ z9, xs (4 * i9 + 1) = z9 := ⟨_, rfl⟩
  obtain ⟨y, a2⟩ : ∃ z9, xs (4 * i9 + 2) = z9 := ⟨_, rfl⟩
  cases hx1 : isIx x 3 with
  | false =>
    exact s_raffle_t1 hfl hE hi hC hR hO hTx hS hl hce7 hsn7 x y a1 a2 hx1 (fun H1 locs1 ls1 y9 => kk H1 locs1 ls1 _ _ _ _ _ _ _ y9)
  | true =>
    obtain ⟨f, hf, rfl⟩ := isIx_t hx1 (by omega)
    clear hx1
    cases hx1 : isIx y 10000 with
    | false =>
      exact s_raffle_t2 hfl hE hi hC hR hO hTx hS hl hce7 hsn7 f y a1 a2 hf hx1 (fun H1 locs1 ls1 y9 => kk H1 locs1 ls1 _ _ _ _ _ _ _ y9)
    | true =>
      obtain ⟨p0, hp, rfl⟩ := isIx_t hx1 (by omega)
      clear hx1
      by_cases hs9 : 0 < szF q f ∧ swF q f = szF q f
      · skip
        obtain ⟨hs0, hs1⟩ := hs9
        exact s_raffle_ok hfl hE hi hC hR hO hTx hS hl hce7 hsn7 f p0 a1 a2 hf hp hs0 hs1 (fun H1 locs1 ls1 y9 => kk H1 locs1 ls1 _ _ _ _ _ _ _ y9)
      · skip
        exact s_raffle_t3 hfl hE hi hC hR hO hTx hS hl hce7 hsn7 f p0 a1 a2 hf hp hs9 (fun H1 locs1 ls1 y9 => kk H1 locs1 ls1 _ _ _ _ _ _ _ y9)

set_option maxRecDepth 100000 in
set_option maxHeartbeats 800000 in
theorem case_returnCloth {p : Program} {l : Launch} {e : Env} {s : State} {m : MethodId} {args : Array Value} {below : List Frame} {meth : Method} {c : Code} {H : Heap} {locs : List Loc} {ce7 sn7 : Nat} {Q : State → Prop} {g : GG} {b L xb r ob lim : Nat} {xs : Nat → Int32} {i9 : Nat} {ls : Array Slot} {q : Nat → Int32} {n : Nat} {rm sl sv tx : Nat → Int32} {ln : Nat} (hfl : l.stackTraces = false) (hE : LE p s m meth c g b L xs xb r ob lim) (hi : 4 * i9 + 3 < L) (hL : LI g xb r ob lim q n rm sl sv tx ln H) (hS : va_S (fun q9 => xb ≤ q9) s.heap H locs) (hl : lv_has ls 7 [(0, .ref b), (1, .ref xb), (2, .ref r), (3, .ref ob), (4, .int (nI (4 * i9)))]) (hce7 : ce7 + 30 ≤ 622861) (hsn7 : sn7 + 1100 ≤ 7227521) (kk : ∀ (H1 : Heap) (locs1 : List Loc) (ls1 : Array Slot) (q1 : Nat → Int32) (n1 : Nat) (rm1 sl1 sv1 tx1 : Nat → Int32) (ln1 : Nat), LI g xb r ob lim q1 n1 rm1 sl1 sv1 tx1 ln1 H1 → va_S (fun q9 => xb ≤ q9) s.heap H1 locs1 → lv_has ls1 7 [(0, .ref b), (1, .ref xb), (2, .ref r), (3, .ref ob), (4, .int (nI (4 * i9)))] → W p l e room_1 s m args below meth c H1 locs1 (ce7 + 30) (sn7 + 1100) Q (F0 m 1803 ls1 [])) : W p l e room_1 s m args below meth c H locs ce7 sn7 Q (F0 m 1205 ls []) := by
  obtain ⟨hC, ⟨zsp, zth, zsg, zbg, zwd, zhg, zin, zop, zbe, zwi, zhi, zbk, zot, zer, zen, zpo, zpi, zgr, zsh, zsn, hR⟩, ⟨o, hO⟩, hTx⟩ := hL
  have hW := hC.wf
  have hl6c := hC.l60
  have hnm5 := hW.2.2.1
  exact s_returnCloth_ok hfl hE hi hC hR hO hTx hS hl hce7 hsn7  (fun H1 locs1 ls1 y9 => kk H1 locs1 ls1 _ _ _ _ _ _ _ y9)

set_option maxRecDepth 100000 in
set_option maxHeartbeats 800000 in
theorem case_undo {p : Program} {l : Launch} {e : Env} {s : State} {m : MethodId} {args : Array Value} {below : List Frame} {meth : Method} {c : Code} {H : Heap} {locs : List Loc} {ce7 sn7 : Nat} {Q : State → Prop} {g : GG} {b L xb r ob lim : Nat} {xs : Nat → Int32} {i9 : Nat} {ls : Array Slot} {q : Nat → Int32} {n : Nat} {rm sl sv tx : Nat → Int32} {ln : Nat} (hfl : l.stackTraces = false) (hE : LE p s m meth c g b L xs xb r ob lim) (hi : 4 * i9 + 3 < L) (hL : LI g xb r ob lim q n rm sl sv tx ln H) (hS : va_S (fun q9 => xb ≤ q9) s.heap H locs) (hl : lv_has ls 7 [(0, .ref b), (1, .ref xb), (2, .ref r), (3, .ref ob), (4, .int (nI (4 * i9)))]) (hce7 : ce7 + 30 ≤ 622861) (hsn7 : sn7 + 1100 ≤ 7227521) (kk : ∀ (H1 : Heap) (locs1 : List Loc) (ls1 : Array Slot) (q1 : Nat → Int32) (n1 : Nat) (rm1 sl1 sv1 tx1 : Nat → Int32) (ln1 : Nat), LI g xb r ob lim q1 n1 rm1 sl1 sv1 tx1 ln1 H1 → va_S (fun q9 => xb ≤ q9) s.heap H1 locs1 → lv_has ls1 7 [(0, .ref b), (1, .ref xb), (2, .ref r), (3, .ref ob), (4, .int (nI (4 * i9)))] → W p l e room_1 s m args below meth c H1 locs1 (ce7 + 30) (sn7 + 1100) Q (F0 m 1803 ls1 [])) : W p l e room_1 s m args below meth c H locs ce7 sn7 Q (F0 m 1218 ls []) := by
  obtain ⟨hC, ⟨zsp, zth, zsg, zbg, zwd, zhg, zin, zop, zbe, zwi, zhi, zbk, zot, zer, zen, zpo, zpi, zgr, zsh, zsn, hR⟩, ⟨o, hO⟩, hTx⟩ := hL
  have hW := hC.wf
  have hl6c := hC.l60
  have hnm5 := hW.2.2.1
  by_cases hn0 : n = 0
  · skip
    subst hn0
    exact s_undo_t1 hfl hE hi hC hR hO hTx hS hl hce7 hsn7  (fun H1 locs1 ls1 y9 => kk H1 locs1 ls1 _ _ _ _ _ _ _ y9)
  · skip
    exact s_undo_ok hfl hE hi hC hR hO hTx hS hl hce7 hsn7 (Nat.pos_of_ne_zero hn0) (fun H1 locs1 ls1 y9 => kk H1 locs1 ls1 _ _ _ _ _ _ _ y9)

set_option maxRecDepth 100000 in
set_option maxHeartbeats 800000 in
theorem case_lacks {p : Program} {l : Launch} {e : Env} {s : State} {m : MethodId} {args : Array Value} {below : List Frame} {meth : Method} {c : Code} {H : Heap} {locs : List Loc} {ce7 sn7 : Nat} {Q : State → Prop} {g : GG} {b L xb r ob lim : Nat} {xs : Nat → Int32} {i9 : Nat} {ls : Array Slot} {q : Nat → Int32} {n : Nat} {rm sl sv tx : Nat → Int32} {ln : Nat} (hfl : l.stackTraces = false) (hE : LE p s m meth c g b L xs xb r ob lim) (hi : 4 * i9 + 3 < L) (hL : LI g xb r ob lim q n rm sl sv tx ln H) (hS : va_S (fun q9 => xb ≤ q9) s.heap H locs) (hl : lv_has ls 7 [(0, .ref b), (1, .ref xb), (2, .ref r), (3, .ref ob), (4, .int (nI (4 * i9)))]) (hce7 : ce7 + 30 ≤ 622861) (hsn7 : sn7 + 1100 ≤ 7227521) (kk : ∀ (H1 : Heap) (locs1 : List Loc) (ls1 : Array Slot) (q1 : Nat → Int32) (n1 : Nat) (rm1 sl1 sv1 tx1 : Nat → Int32) (ln1 : Nat), LI g xb r ob lim q1 n1 rm1 sl1 sv1 tx1 ln1 H1 → va_S (fun q9 => xb ≤ q9) s.heap H1 locs1 → lv_has ls1 7 [(0, .ref b), (1, .ref xb), (2, .ref r), (3, .ref ob), (4, .int (nI (4 * i9)))] → W p l e room_1 s m args below meth c H1 locs1 (ce7 + 30) (sn7 + 1100) Q (F0 m 1803 ls1 [])) : W p l e room_1 s m args below meth c H locs ce7 sn7 Q (F0 m 1262 ls []) := by
  obtain ⟨hC, ⟨zsp, zth, zsg, zbg, zwd, zhg, zin, zop, zbe, zwi, zhi, zbk, zot, zer, zen, zpo, zpi, zgr, zsh, zsn, hR⟩, ⟨o, hO⟩, hTx⟩ := hL
  have hW := hC.wf
  have hl6c := hC.l60
  have hnm5 := hW.2.2.1
  obtain ⟨x, a1⟩ : ∃ z9, xs (4 * i9 + 1) = z9 := ⟨_, rfl⟩
  obtain ⟨y, a2⟩ : ∃ z9, xs (4 * i9 + 2) = z9 := ⟨_, rfl⟩
  cases hx1 : isIx y 6 with
  | false =>
    exact s_lacks_t1 hfl hE hi hC hR hO hTx hS hl hce7 hsn7 x y a1 a2 hx1 (fun H1 locs1 ls1 y9 => kk H1 locs1 ls1 _ _ _ _ _ _ _ y9)
  | true =>
    obtain ⟨c0, hc, rfl⟩ := isIx_t hx1 (by omega)
    clear hx1
    cases hx1 : isIx x 8 with
    | false =>
      exact s_lacks_t2 hfl hE hi hC hR hO hTx hS hl hce7 hsn7 x c0 a1 a2 hx1 hc (fun H1 locs1 ls1 y9 => kk H1 locs1 ls1 _ _ _ _ _ _ _ y9)
    | true =>
      obtain ⟨s0, hs, rfl⟩ := isIx_t hx1 (by omega)
      clear hx1
      exact s_lacks_ok hfl hE hi hC hR hO hTx hS hl hce7 hsn7 s0 c0 a1 a2 hs hc (fun H1 locs1 ls1 y9 => kk H1 locs1 ls1 _ _ _ _ _ _ _ y9)

set_option maxRecDepth 100000 in
set_option maxHeartbeats 800000 in
theorem case_canFinish {p : Program} {l : Launch} {e : Env} {s : State} {m : MethodId} {args : Array Value} {below : List Frame} {meth : Method} {c : Code} {H : Heap} {locs : List Loc} {ce7 sn7 : Nat} {Q : State → Prop} {g : GG} {b L xb r ob lim : Nat} {xs : Nat → Int32} {i9 : Nat} {ls : Array Slot} {q : Nat → Int32} {n : Nat} {rm sl sv tx : Nat → Int32} {ln : Nat} (hfl : l.stackTraces = false) (hE : LE p s m meth c g b L xs xb r ob lim) (hi : 4 * i9 + 3 < L) (hL : LI g xb r ob lim q n rm sl sv tx ln H) (hS : va_S (fun q9 => xb ≤ q9) s.heap H locs) (hl : lv_has ls 7 [(0, .ref b), (1, .ref xb), (2, .ref r), (3, .ref ob), (4, .int (nI (4 * i9)))]) (hce7 : ce7 + 30 ≤ 622861) (hsn7 : sn7 + 1100 ≤ 7227521) (kk : ∀ (H1 : Heap) (locs1 : List Loc) (ls1 : Array Slot) (q1 : Nat → Int32) (n1 : Nat) (rm1 sl1 sv1 tx1 : Nat → Int32) (ln1 : Nat), LI g xb r ob lim q1 n1 rm1 sl1 sv1 tx1 ln1 H1 → va_S (fun q9 => xb ≤ q9) s.heap H1 locs1 → lv_has ls1 7 [(0, .ref b), (1, .ref xb), (2, .ref r), (3, .ref ob), (4, .int (nI (4 * i9)))] → W p l e room_1 s m args below meth c H1 locs1 (ce7 + 30) (sn7 + 1100) Q (F0 m 1803 ls1 [])) : W p l e room_1 s m args below meth c H locs ce7 sn7 Q (F0 m 1330 ls []) := by
  obtain ⟨hC, ⟨zsp, zth, zsg, zbg, zwd, zhg, zin, zop, zbe, zwi, zhi, zbk, zot, zer, zen, zpo, zpi, zgr, zsh, zsn, hR⟩, ⟨o, hO⟩, hTx⟩ := hL
  have hW := hC.wf
  have hl6c := hC.l60
  have hnm5 := hW.2.2.1
  exact s_canFinish_ok hfl hE hi hC hR hO hTx hS hl hce7 hsn7  (fun H1 locs1 ls1 y9 => kk H1 locs1 ls1 _ _ _ _ _ _ _ y9)

set_option maxRecDepth 100000 in
set_option maxHeartbeats 800000 in
theorem case_wouldGet {p : Program} {l : Launch} {e : Env} {s : State} {m : MethodId} {args : Array Value} {below : List Frame} {meth : Method} {c : Code} {H : Heap} {locs : List Loc} {ce7 sn7 : Nat} {Q : State → Prop} {g : GG} {b L xb r ob lim : Nat} {xs : Nat → Int32} {i9 : Nat} {ls : Array Slot} {q : Nat → Int32} {n : Nat} {rm sl sv tx : Nat → Int32} {ln : Nat} (hfl : l.stackTraces = false) (hE : LE p s m meth c g b L xs xb r ob lim) (hi : 4 * i9 + 3 < L) (hL : LI g xb r ob lim q n rm sl sv tx ln H) (hS : va_S (fun q9 => xb ≤ q9) s.heap H locs) (hl : lv_has ls 7 [(0, .ref b), (1, .ref xb), (2, .ref r), (3, .ref ob), (4, .int (nI (4 * i9)))]) (hce7 : ce7 + 30 ≤ 622861) (hsn7 : sn7 + 1100 ≤ 7227521) (kk : ∀ (H1 : Heap) (locs1 : List Loc) (ls1 : Array Slot) (q1 : Nat → Int32) (n1 : Nat) (rm1 sl1 sv1 tx1 : Nat → Int32) (ln1 : Nat), LI g xb r ob lim q1 n1 rm1 sl1 sv1 tx1 ln1 H1 → va_S (fun q9 => xb ≤ q9) s.heap H1 locs1 → lv_has ls1 7 [(0, .ref b), (1, .ref xb), (2, .ref r), (3, .ref ob), (4, .int (nI (4 * i9)))] → W p l e room_1 s m args below meth c H1 locs1 (ce7 + 30) (sn7 + 1100) Q (F0 m 1803 ls1 [])) : W p l e room_1 s m args below meth c H locs ce7 sn7 Q (F0 m 1343 ls []) := by
  obtain ⟨hC, ⟨zsp, zth, zsg, zbg, zwd, zhg, zin, zop, zbe, zwi, zhi, zbk, zot, zer, zen, zpo, zpi, zgr, zsh, zsn, hR⟩, ⟨o, hO⟩, hTx⟩ := hL
  have hW := hC.wf
  have hl6c := hC.l60
  have hnm5 := hW.2.2.1
  obtain ⟨x, a1⟩ : ∃ z9, xs (4 * i9 + 1) = z9 := ⟨_, rfl⟩
  obtain ⟨y, a2⟩ : ∃ z9, xs (4 * i9 + 2) = z9 := ⟨_, rfl⟩
  obtain ⟨z, a3⟩ : ∃ z9, xs (4 * i9 + 3) = z9 := ⟨_, rfl⟩
  cases hx1 : isIx x 3 with
  | false =>
    exact s_wouldGet_t1 hfl hE hi hC hR hO hTx hS hl hce7 hsn7 x y z a1 a2 a3 hx1 (fun H1 locs1 ls1 y9 => kk H1 locs1 ls1 _ _ _ _ _ _ _ y9)
  | true =>
    obtain ⟨f, hf, rfl⟩ := isIx_t hx1 (by omega)
    clear hx1
    cases hx1 : isIx y (nmQ q) with
    | false =>
      exact s_wouldGet_t1b hfl hE hi hC hR hO hTx hS hl hce7 hsn7 f y z a1 a2 a3 hf hx1 (fun H1 locs1 ls1 y9 => kk H1 locs1 ls1 _ _ _ _ _ _ _ y9)
    | true =>
      obtain ⟨m0, hm, rfl⟩ := isIx_t hx1 (by omega)
      clear hx1
      cases hx1 : isIx z 10000 with
      | false =>
        exact s_wouldGet_t2 hfl hE hi hC hR hO hTx hS hl hce7 hsn7 f m0 z a1 a2 a3 hf hm hx1 (fun H1 locs1 ls1 y9 => kk H1 locs1 ls1 _ _ _ _ _ _ _ y9)
      | true =>
        obtain ⟨p0, hp, rfl⟩ := isIx_t hx1 (by omega)
        clear hx1
        by_cases hs9 : 0 < szF q f ∧ swF q f = szF q f
        · skip
          obtain ⟨hs0, hs1⟩ := hs9
          exact s_wouldGet_ok hfl hE hi hC hR hO hTx hS hl hce7 hsn7 f m0 p0 a1 a2 a3 hf hm hp hs0 hs1 (fun H1 locs1 ls1 y9 => kk H1 locs1 ls1 _ _ _ _ _ _ _ y9)
        · skip
          exact s_wouldGet_no hfl hE hi hC hR hO hTx hS hl hce7 hsn7 f m0 p0 a1 a2 a3 hf hm hp hs9 (fun H1 locs1 ls1 y9 => kk H1 locs1 ls1 _ _ _ _ _ _ _ y9)

set_option maxRecDepth 100000 in
set_option maxHeartbeats 800000 in
theorem case_becomes {p : Program} {l : Launch} {e : Env} {s : State} {m : MethodId} {args : Array Value} {below : List Frame} {meth : Method} {c : Code} {H : Heap} {locs : List Loc} {ce7 sn7 : Nat} {Q : State → Prop} {g : GG} {b L xb r ob lim : Nat} {xs : Nat → Int32} {i9 : Nat} {ls : Array Slot} {q : Nat → Int32} {n : Nat} {rm sl sv tx : Nat → Int32} {ln : Nat} (hfl : l.stackTraces = false) (hE : LE p s m meth c g b L xs xb r ob lim) (hi : 4 * i9 + 3 < L) (hL : LI g xb r ob lim q n rm sl sv tx ln H) (hS : va_S (fun q9 => xb ≤ q9) s.heap H locs) (hl : lv_has ls 7 [(0, .ref b), (1, .ref xb), (2, .ref r), (3, .ref ob), (4, .int (nI (4 * i9)))]) (hce7 : ce7 + 30 ≤ 622861) (hsn7 : sn7 + 1100 ≤ 7227521) (kk : ∀ (H1 : Heap) (locs1 : List Loc) (ls1 : Array Slot) (q1 : Nat → Int32) (n1 : Nat) (rm1 sl1 sv1 tx1 : Nat → Int32) (ln1 : Nat), LI g xb r ob lim q1 n1 rm1 sl1 sv1 tx1 ln1 H1 → va_S (fun q9 => xb ≤ q9) s.heap H1 locs1 → lv_has ls1 7 [(0, .ref b), (1, .ref xb), (2, .ref r), (3, .ref ob), (4, .int (nI (4 * i9)))] → W p l e room_1 s m args below meth c H1 locs1 (ce7 + 30) (sn7 + 1100) Q (F0 m 1803 ls1 [])) : W p l e room_1 s m args below meth c H locs ce7 sn7 Q (F0 m 1423 ls []) := by
  obtain ⟨hC, ⟨zsp, zth, zsg, zbg, zwd, zhg, zin, zop, zbe, zwi, zhi, zbk, zot, zer, zen, zpo, zpi, zgr, zsh, zsn, hR⟩, ⟨o, hO⟩, hTx⟩ := hL
  have hW := hC.wf
  have hl6c := hC.l60
  have hnm5 := hW.2.2.1
  obtain ⟨x, a1⟩ : ∃ z9, xs (4 * i9 + 1) = z9 := ⟨_, rfl⟩
  obtain ⟨y, a2⟩ : ∃ z9, xs (4 * i9 + 2) = z9 := ⟨_, rfl⟩
  cases hx1 : isIx x 3 with
  | false =>
    exact s_becomes_t1 hfl hE hi hC hR hO hTx hS hl hce7 hsn7 x y a1 a2 hx1 (fun H1 locs1 ls1 y9 => kk H1 locs1 ls1 _ _ _ _ _ _ _ y9)
  | true =>
    obtain ⟨f, hf, rfl⟩ := isIx_t hx1 (by omega)
    clear hx1
    cases hx1 : isIx y 3 with
    | false =>
      exact s_becomes_t1b hfl hE hi hC hR hO hTx hS hl hce7 hsn7 f y a1 a2 hf hx1 (fun H1 locs1 ls1 y9 => kk H1 locs1 ls1 _ _ _ _ _ _ _ y9)
    | true =>
      obtain ⟨g0, hg, rfl⟩ := isIx_t hx1 (by omega)
      clear hx1
      exact s_becomes_ok hfl hE hi hC hR hO hTx hS hl hce7 hsn7 f g0 a1 a2 hf hg (fun H1 locs1 ls1 y9 => kk H1 locs1 ls1 _ _ _ _ _ _ _ y9)

set_option maxRecDepth 100000 in
set_option maxHeartbeats 800000 in
theorem case_runScript {p : Program} {l : Launch} {e : Env} {s : State} {m : MethodId} {args : Array Value} {below : List Frame} {meth : Method} {c : Code} {H : Heap} {locs : List Loc} {ce7 sn7 : Nat} {Q : State → Prop} {g : GG} {b L xb r ob lim : Nat} {xs : Nat → Int32} {i9 : Nat} {ls : Array Slot} {q : Nat → Int32} {n : Nat} {rm sl sv tx : Nat → Int32} {ln : Nat} (hfl : l.stackTraces = false) (hE : LE p s m meth c g b L xs xb r ob lim) (hi : 4 * i9 + 3 < L) (hL : LI g xb r ob lim q n rm sl sv tx ln H) (hS : va_S (fun q9 => xb ≤ q9) s.heap H locs) (hl : lv_has ls 7 [(0, .ref b), (1, .ref xb), (2, .ref r), (3, .ref ob), (4, .int (nI (4 * i9)))]) (hce7 : ce7 + 30 ≤ 622861) (hsn7 : sn7 + 1100 ≤ 7227521) (kk : ∀ (H1 : Heap) (locs1 : List Loc) (ls1 : Array Slot) (q1 : Nat → Int32) (n1 : Nat) (rm1 sl1 sv1 tx1 : Nat → Int32) (ln1 : Nat), LI g xb r ob lim q1 n1 rm1 sl1 sv1 tx1 ln1 H1 → va_S (fun q9 => xb ≤ q9) s.heap H1 locs1 → lv_has ls1 7 [(0, .ref b), (1, .ref xb), (2, .ref r), (3, .ref ob), (4, .int (nI (4 * i9)))] → W p l e room_1 s m args below meth c H1 locs1 (ce7 + 30) (sn7 + 1100) Q (F0 m 1803 ls1 [])) : W p l e room_1 s m args below meth c H locs ce7 sn7 Q (F0 m 1491 ls []) := by
  obtain ⟨hC, ⟨zsp, zth, zsg, zbg, zwd, zhg, zin, zop, zbe, zwi, zhi, zbk, zot, zer, zen, zpo, zpi, zgr, zsh, zsn, hR⟩, ⟨o, hO⟩, hTx⟩ := hL
  have hW := hC.wf
  have hl6c := hC.l60
  have hnm5 := hW.2.2.1
  obtain ⟨x, a1⟩ : ∃ z9, xs (4 * i9 + 1) = z9 := ⟨_, rfl⟩
  obtain ⟨y, ay⟩ : ∃ z9, lng (xs (4 * i9 + 2)) (xs (4 * i9 + 3)) = z9 := ⟨_, rfl⟩
  cases hx1 : inL x.toInt64 1 4 with
  | false =>
    exact s_runScript_t1 hfl hE hi hC hR hO hTx hS hl hce7 hsn7 x y a1 ay hx1 (fun H1 locs1 ls1 y9 => kk H1 locs1 ls1 _ _ _ _ _ _ _ y9)
  | true =>
    obtain ⟨n0, hn1, hn9, rfl⟩ := inL_nt (b := 4) (by omega) 4 rfl hx1
    clear hx1
    have hn4 : n0 ≤ 4 := by omega
    by_cases hy1 : y.toInt < 0 ∨ (p10k n0 : Int) ≤ y.toInt
    · skip
      exact s_runScript_t1b hfl hE hi hC hR hO hTx hS hl hce7 hsn7 n0 y a1 ay hn1 hn4 hy1 (fun H1 locs1 ls1 y9 => kk H1 locs1 ls1 _ _ _ _ _ _ _ y9)
    · skip
      obtain ⟨sn, hs8, rfl⟩ := lN_of0 (y := y) (by omega)
      have hs7 : (lN sn).toInt = (sn : Int) := pk_lT (by omega)
      have hsn : sn < p10k n0 := by omega
      exact s_runScript_ok hfl hE hi hC hR hO hTx hS hl hce7 hsn7 n0 sn a1 ay hn1 hn4 hsn (fun H1 locs1 ls1 y9 => kk H1 locs1 ls1 _ _ _ _ _ _ _ y9)

set_option maxRecDepth 100000 in
set_option maxHeartbeats 800000 in
theorem case_simulate {p : Program} {l : Launch} {e : Env} {s : State} {m : MethodId} {args : Array Value} {below : List Frame} {meth : Method} {c : Code} {H : Heap} {locs : List Loc} {ce7 sn7 : Nat} {Q : State → Prop} {g : GG} {b L xb r ob lim : Nat} {xs : Nat → Int32} {i9 : Nat} {ls : Array Slot} {q : Nat → Int32} {n : Nat} {rm sl sv tx : Nat → Int32} {ln : Nat} (hfl : l.stackTraces = false) (hE : LE p s m meth c g b L xs xb r ob lim) (hi : 4 * i9 + 3 < L) (hL : LI g xb r ob lim q n rm sl sv tx ln H) (hS : va_S (fun q9 => xb ≤ q9) s.heap H locs) (hl : lv_has ls 7 [(0, .ref b), (1, .ref xb), (2, .ref r), (3, .ref ob), (4, .int (nI (4 * i9)))]) (hce7 : ce7 + 30 ≤ 622861) (hsn7 : sn7 + 1100 ≤ 7227521) (kk : ∀ (H1 : Heap) (locs1 : List Loc) (ls1 : Array Slot) (q1 : Nat → Int32) (n1 : Nat) (rm1 sl1 sv1 tx1 : Nat → Int32) (ln1 : Nat), LI g xb r ob lim q1 n1 rm1 sl1 sv1 tx1 ln1 H1 → va_S (fun q9 => xb ≤ q9) s.heap H1 locs1 → lv_has ls1 7 [(0, .ref b), (1, .ref xb), (2, .ref r), (3, .ref ob), (4, .int (nI (4 * i9)))] → W p l e room_1 s m args below meth c H1 locs1 (ce7 + 30) (sn7 + 1100) Q (F0 m 1803 ls1 [])) : W p l e room_1 s m args below meth c H locs ce7 sn7 Q (F0 m 1591 ls []) := by
  obtain ⟨hC, ⟨zsp, zth, zsg, zbg, zwd, zhg, zin, zop, zbe, zwi, zhi, zbk, zot, zer, zen, zpo, zpi, zgr, zsh, zsn, hR⟩, ⟨o, hO⟩, hTx⟩ := hL
  have hW := hC.wf
  have hl6c := hC.l60
  have hnm5 := hW.2.2.1
  obtain ⟨y, ay⟩ : ∃ z9, lng (xs (4 * i9 + 1)) (xs (4 * i9 + 2)) = z9 := ⟨_, rfl⟩
  obtain ⟨x, a3⟩ : ∃ z9, xs (4 * i9 + 3) = z9 := ⟨_, rfl⟩
  cases hx1 : inL x.toInt64 1 99 with
  | false =>
    exact s_simulate_t1 hfl hE hi hC hR hO hTx hS hl hce7 hsn7 y x a3 ay hx1 (fun H1 locs1 ls1 y9 => kk H1 locs1 ls1 _ _ _ _ _ _ _ y9)
  | true =>
    obtain ⟨n0, hn1, hn2, rfl⟩ := inL_nt (b := 99) (by omega) 99 rfl hx1
    clear hx1
    exact s_simulate_ok hfl hE hi hC hR hO hTx hS hl hce7 hsn7 y n0 a3 ay hn1 hn2 (fun H1 locs1 ls1 y9 => kk H1 locs1 ls1 _ _ _ _ _ _ _ y9)

set_option maxRecDepth 100000 in
set_option maxHeartbeats 800000 in
theorem case_save {p : Program} {l : Launch} {e : Env} {s : State} {m : MethodId} {args : Array Value} {below : List Frame} {meth : Method} {c : Code} {H : Heap} {locs : List Loc} {ce7 sn7 : Nat} {Q : State → Prop} {g : GG} {b L xb r ob lim : Nat} {xs : Nat → Int32} {i9 : Nat} {ls : Array Slot} {q : Nat → Int32} {n : Nat} {rm sl sv tx : Nat → Int32} {ln : Nat} (hfl : l.stackTraces = false) (hE : LE p s m meth c g b L xs xb r ob lim) (hi : 4 * i9 + 3 < L) (hL : LI g xb r ob lim q n rm sl sv tx ln H) (hS : va_S (fun q9 => xb ≤ q9) s.heap H locs) (hl : lv_has ls 7 [(0, .ref b), (1, .ref xb), (2, .ref r), (3, .ref ob), (4, .int (nI (4 * i9)))]) (hce7 : ce7 + 30 ≤ 622861) (hsn7 : sn7 + 1100 ≤ 7227521) (kk : ∀ (H1 : Heap) (locs1 : List Loc) (ls1 : Array Slot) (q1 : Nat → Int32) (n1 : Nat) (rm1 sl1 sv1 tx1 : Nat → Int32) (ln1 : Nat), LI g xb r ob lim q1 n1 rm1 sl1 sv1 tx1 ln1 H1 → va_S (fun q9 => xb ≤ q9) s.heap H1 locs1 → lv_has ls1 7 [(0, .ref b), (1, .ref xb), (2, .ref r), (3, .ref ob), (4, .int (nI (4 * i9)))] → W p l e room_1 s m args below meth c H1 locs1 (ce7 + 30) (sn7 + 1100) Q (F0 m 1803 ls1 [])) : W p l e room_1 s m args below meth c H locs ce7 sn7 Q (F0 m 1691 ls []) := by
  obtain ⟨hC, ⟨zsp, zth, zsg, zbg, zwd, zhg, zin, zop, zbe, zwi, zhi, zbk, zot, zer, zen, zpo, zpi, zgr, zsh, zsn, hR⟩, ⟨o, hO⟩, hTx⟩ := hL
  have hW := hC.wf
  have hl6c := hC.l60
  have hnm5 := hW.2.2.1
  obtain ⟨x, a1⟩ : ∃ z9, xs (4 * i9 + 1) = z9 := ⟨_, rfl⟩
  cases hx1 : isIx x 2 with
  | false =>
    exact s_save_t1 hfl hE hi hC hR hO hTx hS hl hce7 hsn7 x a1 hx1 (fun H1 locs1 ls1 y9 => kk H1 locs1 ls1 _ _ _ _ _ _ _ y9)
  | true =>
    obtain ⟨k0, hk, rfl⟩ := isIx_t hx1 (by omega)
    clear hx1
    exact s_save_ok hfl hE hi hC hR hO hTx hS hl hce7 hsn7 k0 a1 hk (fun H1 locs1 ls1 y9 => kk H1 locs1 ls1 _ _ _ _ _ _ _ y9)

set_option maxRecDepth 100000 in
set_option maxHeartbeats 800000 in
theorem case_restore {p : Program} {l : Launch} {e : Env} {s : State} {m : MethodId} {args : Array Value} {below : List Frame} {meth : Method} {c : Code} {H : Heap} {locs : List Loc} {ce7 sn7 : Nat} {Q : State → Prop} {g : GG} {b L xb r ob lim : Nat} {xs : Nat → Int32} {i9 : Nat} {ls : Array Slot} {q : Nat → Int32} {n : Nat} {rm sl sv tx : Nat → Int32} {ln : Nat} (hfl : l.stackTraces = false) (hE : LE p s m meth c g b L xs xb r ob lim) (hi : 4 * i9 + 3 < L) (hL : LI g xb r ob lim q n rm sl sv tx ln H) (hS : va_S (fun q9 => xb ≤ q9) s.heap H locs) (hl : lv_has ls 7 [(0, .ref b), (1, .ref xb), (2, .ref r), (3, .ref ob), (4, .int (nI (4 * i9)))]) (hce7 : ce7 + 30 ≤ 622861) (hsn7 : sn7 + 1100 ≤ 7227521) (kk : ∀ (H1 : Heap) (locs1 : List Loc) (ls1 : Array Slot) (q1 : Nat → Int32) (n1 : Nat) (rm1 sl1 sv1 tx1 : Nat → Int32) (ln1 : Nat), LI g xb r ob lim q1 n1 rm1 sl1 sv1 tx1 ln1 H1 → va_S (fun q9 => xb ≤ q9) s.heap H1 locs1 → lv_has ls1 7 [(0, .ref b), (1, .ref xb), (2, .ref r), (3, .ref ob), (4, .int (nI (4 * i9)))] → W p l e room_1 s m args below meth c H1 locs1 (ce7 + 30) (sn7 + 1100) Q (F0 m 1803 ls1 [])) : W p l e room_1 s m args below meth c H locs ce7 sn7 Q (F0 m 1747 ls []) := by
  obtain ⟨hC, ⟨zsp, zth, zsg, zbg, zwd, zhg, zin, zop, zbe, zwi, zhi, zbk, zot, zer, zen, zpo, zpi, zgr, zsh, zsn, hR⟩, ⟨o, hO⟩, hTx⟩ := hL
  have hW := hC.wf
  have hl6c := hC.l60
  have hnm5 := hW.2.2.1
  obtain ⟨x, a1⟩ : ∃ z9, xs (4 * i9 + 1) = z9 := ⟨_, rfl⟩
  cases hx1 : isIx x 2 with
  | false =>
    exact s_restore_t1 hfl hE hi hC hR hO hTx hS hl hce7 hsn7 x a1 hx1 (fun H1 locs1 ls1 y9 => kk H1 locs1 ls1 _ _ _ _ _ _ _ y9)
  | true =>
    obtain ⟨k0, hk, rfl⟩ := isIx_t hx1 (by omega)
    clear hx1
    rcases hC.sv2 hk with hsv | hsv
    · skip
      exact s_restore_ok hfl hE hi hC hR hO hTx hS hl hce7 hsn7 k0 a1 hk hsv (fun H1 locs1 ls1 y9 => kk H1 locs1 ls1 _ _ _ _ _ _ _ y9)
    · skip
      exact s_restore_t2 hfl hE hi hC hR hO hTx hS hl hce7 hsn7 k0 a1 hk hsv (fun H1 locs1 ls1 y9 => kk H1 locs1 ls1 _ _ _ _ _ _ _ y9)
