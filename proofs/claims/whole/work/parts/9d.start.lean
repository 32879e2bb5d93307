/-! the law's start -/
def INI (g : GG) (xb : Nat) (H : Heap) : Prop := at_ g H xb (eO 8 [.ref (xb + 1), .ref (xb + 10), .ref (xb + 36), .ref (xb + 62), .ref (xb + 64), .ref (xb + 65)]) ∧ TxC g (xb + 1) (fun _ => 0) 0 H ∧ StAt g (xb + 10) (fun _ => 0) (fun _ => none) H ∧ StAt g (xb + 36) (fun _ => 0) (fun _ => none) H ∧ at_ g H (xb + 62) (eO 2 [.ref (xb + 63), .int (nI 0), .int (nI 0)]) ∧ at_ g H (xb + 63) (eQ g 7 14 (fun _ => none)) ∧ at_ g H (xb + 64) (eQ g 7 2 (fun _ => none)) ∧ PfC g (xb + 65) H
theorem INI.kept {g : GG} {xb : Nat} {H H1 : Heap} (h : INI g xb H) (hk : ∀ a : Nat, xb ≤ a → a < xb + 68 → H1[a]? = H[a]?) : INI g xb H1 := by
  obtain ⟨a1, a2, a3, a4, a5, a6, a7, a8⟩ := h
  exact ⟨a1.kept (hk _ (by omega) (by omega)), a2.kept (fun q9 b1 b2 => hk q9 (by omega) (by omega)), a3.kept (fun q9 b1 b2 => hk q9 (by omega) (by omega)), a4.kept (fun q9 b1 b2 => hk q9 (by omega) (by omega)), a5.kept (hk _ (by omega) (by omega)), a6.kept (hk _ (by omega) (by omega)), a7.kept (hk _ (by omega) (by omega)), a8.kept (fun q9 b1 b2 => hk q9 (by omega) (by omega))⟩
set_option maxRecDepth 100000 in
set_option maxHeartbeats 1600000 in
/-- YOUR PART: from the entry, for every script of at most 2048 ints, the law comes to its end with true ('hflags': the launch's flags, for a law that throws: no stack traces) -/
theorem whole_start {p : Program} {e : Env} {s : State} {m : MethodId} {below : List Frame} {meth : Method} {c : Code} (l : Launch) (hflags : l.flags = flags0) {b L : Nat} {xs : Nat → Int32} (hL : L ≤ 2048) (C0 : lw_At p s m meth c b L xs) : W p l e room_1 s m #[Value.ref b] below meth c s.heap [] 0 0 (lw_Z below #[Value.ref b] s) (entryFrame m ([Value.ref b] : List Value).toArray 7) := by
  obtain ⟨hx0, hb0, hr0, hml0, hown0, hts, hX, hbl, hlocks, hgv⟩ := C0
  obtain ⟨g, hK⟩ := KK_start hts
  have hfl : l.stackTraces = false := by unfold Launch.stackTraces; rw [hflags]; decide +kernel
  have hZ9 := ZZ_start hts hgv
  have hB : Bd p s m meth c cL_law 7 ret RL g := ⟨⟨hx0, hb0⟩, hml0, hr0, hown0, hK, hlocks⟩
  have hx := hB.x
  have hb := hB.b
  have hl := lv_entry ([.ref b]) (n := 7) (Nat.le_of_ble_eq_true rfl)
  rw [lg_entry_eq]
  generalize (lg_sl ([.ref b]) ++ List.replicate (7 - (lg_sl ([.ref b])).length) Slot.unset).toArray = ls at hl ⊢
  have hl : lv_has ls 7 [(0, .ref b)] := hl
  obtain ⟨xb, hxb⟩ : ∃ z9, z9 = s.heap.size := ⟨_, rfl⟩
  rw [← hxb] at hZ9
  have hS : va_S (fun q9 => xb ≤ q9) s.heap s.heap [] := va_S.rf
  have hsz : s.heap.size = xb := hxb.symm
  refine nw_L_8 hB hS (Nat.le_of_ble_eq_true rfl) (Nat.le_of_ble_eq_true rfl) dL_law_0 (fun H1 hwr => ?_)
  obtain ⟨hq0, ho, hz, hS⟩ := hwr
  skip
  rw [hsz] at hq0 hz
  refine mh_top (congrArg Value.ref hsz) ?_
  have hsz := hz
  generalize H1 = H at hq0 hS hsz hX ⊢
  refine W.widen (k := 1) (n := 6) (Nat.le_of_ble_eq_true rfl) (Nat.le_of_ble_eq_true rfl) ?_
  refine lv_dup hx hb dL_law_3 rfl ?_
  refine cl_L_92 (As := []) (rest := [.ref xb]) hB (c_X10_init l g H xb (hq0) (hsz)) rfl hl.1 (Nat.le_of_ble_eq_true rfl) dL_law_4 ⟨Nat.le_of_ble_eq_true rfl, Nat.le_of_ble_eq_true rfl⟩ ⟨Nat.le_of_ble_eq_true rfl, Nat.le_of_ble_eq_true rfl⟩ hS (by have hz9 := hS.1; rintro q9 (h9 | h9); (have h8 : xb ≤ q9 ∧ q9 < xb + 68 := h9; show xb ≤ q9; omega); (show xb ≤ q9; omega)) (fun v H1 locs hpo hfr hS => ?_)
  obtain ⟨rfl, hxo, hTx, hS1, hS2, hho, hqa, hsa, hPf, hsz⟩ := hpo
  generalize H1 = H at hfr hS hX hxo hTx hS1 hS2 hho hqa hsa hPf hsz ⊢
  refine W.widen (k := 68) (n := 1291) (Nat.le_of_ble_eq_true rfl) (Nat.le_of_ble_eq_true rfl) ?_
  have hI : INI g xb H := ⟨hxo, hTx, hS1, hS2, hho, hqa, hsa, hPf⟩
  refine lv_astore_n (lv' := [(1, .ref xb), (0, .ref b)]) hx hb dL_law_7 rfl hl (by decide) rfl (fun ls hl => ?_)
  refine nw_L_93 hB hS (Nat.le_of_ble_eq_true rfl) (Nat.le_of_ble_eq_true rfl) dL_law_8 (fun H1 hwr => ?_)
  obtain ⟨hq0, ho, hz, hS⟩ := hwr
  have hI : INI g xb H1 := INI.kept hI (fun a9 h1 h2 => ho a9 (by omega))
  skip
  rw [hsz] at hq0 hz
  refine mh_top (congrArg Value.ref hsz) ?_
  have hsz := hz
  generalize H1 = H at hq0 hS hsz hI hX ⊢
  refine W.widen (k := 69) (n := 1318) (Nat.le_of_ble_eq_true rfl) (Nat.le_of_ble_eq_true rfl) ?_
  refine lv_dup hx hb dL_law_11 rfl ?_
  refine cl_L_95 (As := []) (rest := [.ref (xb + 68)]) hB (c_X11_init l g H (xb + 68) (hsz) (hq0)) rfl hl.1 (Nat.le_of_ble_eq_true rfl) dL_law_12 ⟨Nat.le_of_ble_eq_true rfl, Nat.le_of_ble_eq_true rfl⟩ ⟨Nat.le_of_ble_eq_true rfl, Nat.le_of_ble_eq_true rfl⟩ hS (by have hz9 := hS.1; rintro q9 (h9 | h9); (have h8 : xb + 68 ≤ q9 ∧ q9 < xb + 68 + 16 := h9; show xb ≤ q9; omega); (show xb ≤ q9; omega)) (fun v H1 locs hpo hfr hS => ?_)
  obtain ⟨rfl, hR⟩ := hpo
  have hI : INI g xb H1 := INI.kept hI (fun a9 h1 h2 => hfr.2 a9 (by omega) (fun y9 => y9.elim (fun y8 => by have y7 : xb + 68 ≤ a9 ∧ a9 < xb + 68 + 16 := y8; omega) (fun y8 => by omega)))
  generalize H1 = H at hfr hS hI hX hR ⊢
  refine W.widen (k := 84) (n := 33341) (Nat.le_of_ble_eq_true rfl) (Nat.le_of_ble_eq_true rfl) ?_
  have hlt15 := hR.lt
  refine lv_astore_n (lv' := [(2, .ref (xb + 68)), (1, .ref xb), (0, .ref b)]) hx hb dL_law_15 rfl hl (by decide) rfl (fun ls hl => ?_)
  refine lv_iconst (v := nI 1) hx hb dL_law_16 (by decide) ?_
  refine mh_newa (atype := .long) (a0 := (1, .inr (.inl (fun _ => 0)))) (N' := 1) hB 3 rfl rfl (fun _ h => by cases h) kw_1357 (fun _ => rfl) (nI_pos (by omega)) (nI_clamp (by omega)) (Nat.le_of_ble_eq_true rfl) hS (Nat.le_of_ble_eq_true rfl) (Nat.le_of_ble_eq_true rfl) dL_law_17 (fun H1 hwr => ?_)
  obtain ⟨hob, ho, hz, hS⟩ := hwr
  have hI : INI g xb H1 := INI.kept hI (fun a9 h1 h2 => ho a9 (by omega))
  skip
  have hR := hR.kept (fun q9 h1 h2 => ho q9 (by have := hR.lt; omega))
  obtain ⟨ob, eob⟩ : ∃ q, q = H.size := ⟨_, rfl⟩
  rw [← eob] at hob hz ⊢
  generalize H1 = H at hob hS hz hI hX hR ⊢
  refine W.widen (k := 85) (n := 33342) (Nat.le_of_ble_eq_true rfl) (Nat.le_of_ble_eq_true rfl) ?_
  refine lv_astore_n (lv' := [(3, .ref ob), (2, .ref (xb + 68)), (1, .ref xb), (0, .ref b)]) hx hb dL_law_19 rfl hl (by decide) rfl (fun ls hl => ?_)
  refine lv_iconst (v := nI 0) hx hb dL_law_20 (by decide) ?_
  refine lv_istore (lv' := [(4, .int (nI 0)), (3, .ref ob), (2, .ref (xb + 68)), (1, .ref xb), (0, .ref b)]) hx hb dL_law_21 hl (by decide) rfl (fun ls hl => ?_)
  have hoblt := hob.lt
  have hC : CLS g xb (ob + 1) (fun _ => 0) 0 (fun _ => 0) (fun _ => 0) (fun _ => 0) (fun _ => 0) 0 H := CLSi.first hI.1 hI.2.1 hI.2.2.1 hI.2.2.2.1 hI.2.2.2.2.1 hI.2.2.2.2.2.1 hI.2.2.2.2.2.2.1 hI.2.2.2.2.2.2.2 (by omega) (by omega)
  refine W.widen (k := 85) (n := 40000) (Nat.le_of_ble_eq_true rfl) (Nat.le_of_ble_eq_true rfl) ?_
  exact law_loop (r := xb + 68) (ob := ob) (lim := ob + 1) hfl ⟨hB, hZ9, hX, hbl, hL, hxb.symm, rfl, by omega, rfl⟩ (L + 1) 0 (by omega) (by omega) H _ ls _ _ _ _ _ _ _ ⟨hC, ⟨_, _, _, _, _, _, _, _, _, _, _, _, _, _, _, _, _, _, _, _, hR⟩, ⟨_, hob⟩, fun j9 h9 => absurd h9 (Nat.not_lt_zero _)⟩ hS (lv_sub hl [4, 3, 2, 1, 0] rfl)
set_option maxHeartbeats 4000000 in
theorem lw_walk (l : Launch) (hflags : l.flags = flags0) (b : Addr) (xs : List Int32) : MetFree l x (headSpec (Jvm.Cond.code x code maxLocals ret :: tables_1) room_1) (lw_P b xs) (fun _ _ _ _ _ => True) lw_Q := by
  refine MetFree.of_bodyS (code := code) (maxLocals := maxLocals) (ret := ret) (by decide) ?_ ?_
  · intro args s m h hn
    obtain ⟨meth, c, h1, h2, h3, h4, h5, h6, -, -⟩ := Cond.code_spec hn (atoms_spec (ws := Jvm.Cond.code x code maxLocals ret :: tables_1) h _ List.mem_cons_self)
    exact ⟨meth, c, h1, h2, h3, h4, h5, h6⟩
  · intro p e s m args below meth c s₁ B hml0 hP _
    obtain ⟨rfl, hx, hbd, hgv⟩ := hP
    obtain ⟨scr, harrAt, hlist, hof, hsmall⟩ := hx
    obtain ⟨hcb, hkn, -, -⟩ := State.arrayAt?_spec harrAt
    have hown : s.vm.findClass R_law = some m.cls := findClass_of_methodNamed B.named
    have hts0 : ∀ c ∈ (Jvm.Cond.code x code maxLocals ret :: tables_1), c.before #[Value.ref b] s = true := atoms_spec (ws := Jvm.Cond.code x code maxLocals ret :: tables_1) B.pre
    have hts : ∀ w ∈ lw_tbl, w.before #[Value.ref b] s = true := k2_hts_sels lw_privs (fun w hw => hts0 w (List.mem_cons_of_mem _ hw)) lw_privs_ok
    have hml : c.maxLocals = 7 := B.maxLocals_eq (hts0 _ List.mem_cons_self)
    have X₀ : Stand p l e room_1 s m #[Value.ref b] below meth c s₁ [] 0 0 := Stand.of_body B
    have hh0 : s₁.heap = s.heap := by rw [B.state]; rfl
    have hsz : scr.slots.size = xs.length := by rw [← Array.length_toList, hlist, List.length_map]
    have hval : ∀ j : Nat, j < xs.length → scr.slots[j]? = some (.int (xs.getD j 0)) := fun j hj => by
      rw [← Array.getElem?_toList, hlist]
      simp [hj]
    have hbl : b < s.heap.size := (Array.getElem?_eq_some_iff.mp hcb).1
    have hX : va_X b xs.length (fun j => xs.getD j 0) s s.heap := ⟨scr, hcb, hof, hkn, hsz, hval⟩
    have K : W p l e room_1 s m #[Value.ref b] below meth c s₁.heap [] 0 0 (lw_Z below #[Value.ref b] s) (entryFrame m ([Value.ref b] : List Value).toArray 7) := by
      rw [hh0]
      exact whole_start l hflags hbd ⟨B.exec, B.bytes, B.returns, hml, hown, hts, hX, hbl, B.notSynchronized, hgv⟩
    obtain ⟨t, a1, o, b1, b2, b3⟩ := K s₁ rfl X₀
    exact ⟨t, o, a1, b1, b2, b3⟩
theorem lw_pre_spec {args : Array Value} {s : State} (h : (Jvm.Cond.and given_1 narrow_1).before args s = true) (hr : rest_1_c.before args s = true) : ∃ (b : Addr) (xs : List Int32), lw_P b xs args s := by
  have hs := flat_of_before _ h
  have hq := flat_of_before _ hr
  have hc : (Cond.count 1).before args s = true := hs _ (by decide +kernel)
  have harr : (Cond.arrayOf (.arg 0) .int).before args s = true := hs _ (by decide +kernel)
  have hle : (Cond.le (.length (.arg 0)) (.int 2048)).before args s = true := hs _ (by decide +kernel)
  have hlen : (Cond.isInt (.length (.arg 0))).before args s = true := hq _ (by decide +kernel)
  have hall : (Cond.all (.arg 0) (.isInt (.elem (.arg 0) (.index 0)))).before args s = true := hq _ (by decide +kernel)
  obtain ⟨b, xs, hb, hx⟩ := State.ints_of_pre rfl harr hlen hall
  have hsm : xs.length < 2 ^ 31 := hx.choose_spec.2.2.2
  have hev : (Term.length (.arg 0)).eval args s none [] s = some (.int xs.length.toInt32) := hx.length_eval hb
  have hv := Cond.le_ints hev (show (Term.int 2048).eval args s none [] s = some (.int 2048) from rfl)
  have hd : xs.length.toInt32 ≤ 2048 := by
    simpa [Cond.before, Cond.holds, hv] using hle
  have hN : xs.length ≤ 2048 := (Int32.ofNat_le_ofNat hsm (by decide)).mp (show Int32.ofNat xs.length ≤ Int32.ofNat 2048 from hd)
  exact ⟨b, xs, Cond.one_arg hc (show args[0]? = some (.ref b) from hb), hx, hN, h⟩
theorem lw_comes (l : Launch) (hflags : l.flags = flags0) : Comes l x (Jvm.Cond.code x code maxLocals ret :: tables_1) room_1 (fun tb e args s => Calls_1 tb e args s ∧ rest_1 tb e args s ∧ Pre_1 tb e args s)
    (fun _ _ args s o t => lw_Q args s o t) := by
  intro p e ha hc hk s m args below hf hfit hheap happ hpre
  obtain ⟨b, xs, hP⟩ := lw_pre_spec hpre.2.2 hpre.2.1
  obtain ⟨k, o, h1, h2, h3, hQ⟩ := lw_walk l hflags b xs p e ha hc hk s m args below hf ((Spec.applies_iff_loose hf).mp happ).1 hP trivial
  exact ⟨k, o, h1, h2, h3, hQ⟩
theorem lw_frame {s t : State} {o : Outcome} {args : Array Value} (h : Framed s o t [] 622861 7227521) :
    Framed s o t (fieldLocs frame_1_writes args s ++ arrayLocs frame_1_arrays args s ++ staticLocs frame_1_statics s) 622861 7227521 := h
theorem lw_limb (L : Cond) (hL : ∀ (args : Array Value) (s t : State), L.after args s (.returned (some (.int 1))) t = true) :
    ArmFor flags0 classFile x code maxLocals ret World_1 tables_1 room_1 Calls_1 rest_1 Pre_1
      (fun tb e a s o t => postC L tb e a s o t ∧ Framed s o t (fieldLocs frame_1_writes a s ++ arrayLocs frame_1_arrays a s ++ staticLocs frame_1_statics s) 622861 7227521) := by
  intro l hflags _ _ p e ha hc hk s m args below hf hfit hheap happ hpre
  obtain ⟨k, o, h1, h2, h3, rfl, hF⟩ := lw_comes l hflags p e ha hc hk s m args below hf hfit hheap happ hpre
  exact ⟨k, _, h1, h2, h3, hL args s _, lw_frame hF⟩
theorem i_vc : Claimed_1_1 ∧ Claimed_1_2 := ⟨lw_limb limb_1_1 (fun args s t => by simp [limb_1_1, Cond.after, Cond.holds, Cond.value]), lw_limb limb_1_2 (fun args s t => Cond.after_iff.mpr (by
  first | (rw [show limb_1_2 = Cond.eq .result (.int 1) from rfl, Cond.eq_ints (x := 1) (y := 1) rfl rfl]; simp; done) | (simp [limb_1_2, Cond.value, Term.eval]; done)))⟩

