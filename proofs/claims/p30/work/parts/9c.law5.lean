/-! THE CLAIM OUT OF ONE WALK OF THE LAW'S BODY. Your part is whole_start (and what it stands on); all else here is the same for every law, but numbers. -/
def R_law : String := "QuiltGuildLaw"
def lw_P (b : Addr) (xs : List Int32) (args : Array Value) (s : State) : Prop := args = #[.ref b] ∧ s.IntsAt b xs ∧ xs.length ≤ 260 ∧ (Jvm.Cond.and given_1 narrow_1).before args s = true
def lw_Q (_ : Array Value) (s : State) (o : Outcome) (t : State) : Prop := o = .returned (some (.int 1)) ∧ Framed s o t [] 600130 7301080
def lw_Z (below : List Frame) (a : Array Value) (s : State) : State → Prop := fun t => ∃ o, t.status = .running ∧ Ended t below o ∧ lw_Q a s o t
/-- the law's own end, with 1 on the stack, nothing written that was there before, its room as the claim has it -/
theorem lw_ret {p : Program} {l : Launch} {e : Env} {s : State} {m : MethodId} {below : List Frame} {meth : Method} {c : Code} {b : Nat} (hx : p.tables.exec = Jvm.exec) (hb : c.code = code) (hr : meth.sig.returnType = ret) (hlocks : meth.locks = false) {pc : Nat} {H : Heap} {ls : Array Slot} (hdg : decode code pc = .ok (.ireturn, 1)) : W p l e room_1 s m #[Value.ref b] below meth c H [] 600130 7301080 (lw_Z below #[Value.ref b] s) (F0 m pc ls [.int 1]) := by
  intro T hT X
  obtain ⟨fs, hret, hrun, hended, hW, hframe⟩ := X.leave (v := some (.int 1)) (hlocks := hlocks) (fun h => by rw [hr] at h; cases h)
  have hmeth' : T.vm.method? m = some meth := X.method'
  refine ⟨T.setFrames fs, ?_, .returned (some (.int 1)), hrun, hended, rfl, ⟨_, rfl⟩, hW, hframe⟩
  jvm_step X.here [X.here.top, hx, hb, hdg, hmeth', hr, ret, narrow_b1]
  (try refine ⟨rfl, ?_⟩); (try refine ⟨rfl, ?_⟩)
  first | (intro acts; rw [hret _ acts rfl rfl rfl]) | rw [hret _ _ rfl rfl rfl]
  exact Steps.refl _
/-- what holds at the law's entry: the machine, the code, the tables' words (any of lw_tbl by 'hts w (by decide +kernel)'), the script of L ints xs at the cell b, what the Statement gives of the start (any of its parts by flat_of_before) -/
def lw_At (p : Program) (s : State) (m : MethodId) (meth : Method) (c : Code) (b L : Nat) (xs : Nat → Int32) : Prop :=
  p.tables.exec = Jvm.exec ∧ c.code = code ∧ meth.sig.returnType = ret ∧ c.maxLocals = 5 ∧ s.vm.findClass R_law = some m.cls ∧ (∀ w ∈ lw_tbl, w.before #[Value.ref b] s = true) ∧ va_X b L xs s s.heap ∧ b < s.heap.size ∧ meth.locks = false ∧ (Jvm.Cond.and given_1 narrow_1).before #[Value.ref b] s = true
/-! the law, from its start to its end -/
theorem cf_0 : (cfB (fun _ => 0) 7).1 = 0 := by decide +kernel
theorem abV6_q {q q2 : Nat → Int32} (h : QEq q q2) : abV q2 6 = abV q 6 := sum_congr (f := fun j9 => q (50 + j9)) (f2 := fun j9 => q2 (50 + j9)) (n := 6) (fun j hj => h _ (by omega))
theorem rem_last {rm q : Nat → Int32} {n : Nat} (hn : n ≤ 14) : QEq q (row9 (remA rm n q) (nxtS n - 1)) := fun j hj => by
  unfold row9 remA nxtS
  by_cases e : n < 14
  · rw [if_pos e, if_pos e, show n + 1 - 1 = n by omega]
    unfold remU
    rw [if_pos (by omega), Nat.add_sub_cancel_left]
  · rw [if_neg e, if_neg e]
    unfold remU
    rw [if_pos (by omega)]
    exact congrArg q (by omega)
theorem rem_slot {sl q : Nat → Int32} : QEq q (row9 (remU sl 0 q 866) 0) := fun j hj => by
  unfold row9 remU
  rw [if_pos (by omega)]
  exact congrArg q (by omega)
theorem nxt_pos (n : Nat) (hn : n ≤ 14) : 0 < nxtS n ∧ nxtS n ≤ 14 := by
  unfold nxtS
  split <;> omega
set_option maxRecDepth 100000 in
set_option maxHeartbeats 1600000 in
/-- YOUR PART: from the entry, for every script of at most 260 ints, the law comes to its end with true ('hflags': the launch's flags, for a law that throws: no stack traces) -/
theorem whole_start {p : Program} {e : Env} {s : State} {m : MethodId} {below : List Frame} {meth : Method} {c : Code} (l : Launch) (hflags : l.flags = flags0) {b L : Nat} {xs : Nat → Int32} (hL : L ≤ 260) (C0 : lw_At p s m meth c b L xs) : W p l e room_1 s m #[Value.ref b] below meth c s.heap [] 0 0 (lw_Z below #[Value.ref b] s) (entryFrame m ([Value.ref b] : List Value).toArray 5) := by
  obtain ⟨hx0, hb0, hr0, hml0, hown0, hts, hX, hbl, hlocks, hgv⟩ := C0
  obtain ⟨g, hK⟩ := KK_start hts
  have hB : Bd p s m meth c cL_law 5 ret RL g := ⟨⟨hx0, hb0⟩, hml0, hr0, hown0, hK, hlocks⟩
  have hx := hB.x
  have hb := hB.b
  have hl := lv_entry ([.ref b]) (n := 5) (Nat.le_of_ble_eq_true rfl)
  rw [lg_entry_eq]
  generalize (lg_sl ([.ref b]) ++ List.replicate (5 - (lg_sl ([.ref b])).length) Slot.unset).toArray = ls at hl ⊢
  have hl : lv_has ls 5 [(0, .ref b)] := hl
  obtain ⟨H0, hH0⟩ : ∃ z9, z9 = s.heap := ⟨_, rfl⟩
  rw [← hH0] at hX hbl ⊢
  obtain ⟨xb, hxb⟩ : ∃ z9, z9 = H0.size := ⟨_, rfl⟩
  have hS : va_S (fun q9 => xb ≤ q9) H0 H0 [] := va_S.rf
  have hsz : H0.size = xb := hxb.symm
  refine nw_L_10 hB hS (Nat.le_of_ble_eq_true rfl) (Nat.le_of_ble_eq_true rfl) dL_law_0 (fun H1 hwr => ?_)
  obtain ⟨hq0, ho, hz, hS⟩ := hwr
  rw [hsz] at hq0 hz
  refine mh_top (congrArg Value.ref hsz) ?_
  have hsz := hz
  generalize H1 = H at hq0 hS hsz ⊢
  refine W.widen (k := 1) (n := 6) (Nat.le_of_ble_eq_true rfl) (Nat.le_of_ble_eq_true rfl) ?_
  refine lv_dup hx hb dL_law_3 rfl ?_
  refine cl_L_95 (As := []) (rest := [.ref xb]) hB (c_X10_init l g H xb (hq0) (hsz)) rfl hl.1 (Nat.le_of_ble_eq_true rfl) dL_law_4 ⟨Nat.le_of_ble_eq_true rfl, Nat.le_of_ble_eq_true rfl⟩ ⟨Nat.le_of_ble_eq_true rfl, Nat.le_of_ble_eq_true rfl⟩ hS (by have hz9 := hS.1; rintro q9 (h9 | h9); (have h8 : xb ≤ q9 ∧ q9 < xb + 68 := h9; show xb ≤ q9; omega); (show xb ≤ q9; omega)) (fun v H1 locs hpo hfr hS => ?_)
  obtain ⟨rfl, hxo, hTx, hS1, hS2, hho, hqa, hsa, hPf, hsz⟩ := hpo
  generalize H1 = H at hfr hS hxo hTx hS1 hS2 hho hqa hsa hPf hsz ⊢
  refine W.widen (k := 68) (n := 1291) (Nat.le_of_ble_eq_true rfl) (Nat.le_of_ble_eq_true rfl) ?_
  obtain ⟨lim, hlm⟩ : ∃ z9, z9 = xb + 68 := ⟨_, rfl⟩
  have hC : CLS g xb lim (fun _ => 0) 0 (fun _ => 0) (fun _ => 0) (fun _ => 0) (fun _ => 0) 0 H := CLSi.first hxo hTx hS1 hS2 hho hqa hsa hPf (by omega) (by omega)
  clear hxo hTx hS1 hS2 hho hqa hsa hPf
  refine lv_astore_n (lv' := [(1, .ref xb), (0, .ref b)]) hx hb dL_law_7 rfl hl (by decide) rfl (fun ls hl => ?_)
  refine lv_aload_n hx hb dL_law_8 rfl (lv_at hl 0 rfl) ?_
  refine cl_L_96 (As := [.ref xb]) (rest := []) hB (c_L_sound l g H xb lim (fun _ => 0) 0 (fun _ => 0) (fun _ => 0) (fun _ => 0) (fun _ => 0) 0 0 (hC) (SD.z) (by omega)) rfl hl.1 (Nat.le_of_ble_eq_true rfl) dL_law_9 ⟨Nat.le_of_ble_eq_true rfl, Nat.le_of_ble_eq_true rfl⟩ ⟨Nat.le_of_ble_eq_true rfl, Nat.le_of_ble_eq_true rfl⟩ hS (by have hz9 := hS.1; rintro q9 (h9 | h9) <;> first | exact h9.elim | (have h8 : (xb ≤ q9 ∧ q9 < xb + 68) ∨ lim ≤ q9 := h9; show xb ≤ q9; omega) | (show xb ≤ q9; omega)) (fun v H1 locs hpo hfr hS => ?_)
  obtain ⟨rfl, hC⟩ := hpo
  generalize H1 = H at hfr hS hC ⊢
  refine W.widen (k := 68) (n := 1291) (Nat.le_of_ble_eq_true rfl) (Nat.le_of_ble_eq_true rfl) ?_
  refine mn_if_eq (tgt := 33) hB dL_law_12 (by decide) (by omega) (fun h => by exfalso; omega) (fun h_12 => ?_)
  refine lv_aload_n hx hb dL_law_15 rfl (lv_at hl 0 rfl) ?_
  refine cl_L_53 (As := []) (rest := []) hB (f_X10_errorPosition l g H xb lim (fun _ => 0) 0 (fun _ => 0) (fun _ => 0) (fun _ => 0) (fun _ => 0) 0 (fun _ => 0) (hC) (fun j9 h9 => absurd h9 (Nat.not_lt_zero _))) hC.ob rfl hl.1 (Nat.le_of_ble_eq_true rfl) dL_law_16 ⟨Nat.le_of_ble_eq_true rfl, Nat.le_of_ble_eq_true rfl⟩ ⟨Nat.le_of_ble_eq_true rfl, Nat.le_of_ble_eq_true rfl⟩ hS (by have hz9 := hS.1; rintro q9 (h9 | h9) <;> first | exact h9.elim | (have h8 : (xb ≤ q9 ∧ q9 < xb + 68) ∨ lim ≤ q9 := h9; show xb ≤ q9; omega) | (show xb ≤ q9; omega)) (fun v H1 locs hpo hfr hS => ?_)
  obtain ⟨rfl, hC⟩ := hpo
  generalize H1 = H at hfr hS hC ⊢
  refine W.widen (k := 68) (n := 1291) (Nat.le_of_ble_eq_true rfl) (Nat.le_of_ble_eq_true rfl) ?_
  refine mh_top (y := .int (nI 0)) (rfl) ?_
  refine mn_if_ne (tgt := 33) hB dL_law_19 (by decide) (by omega) (fun h => by exfalso; omega) (fun h_19 => ?_)
  refine lv_aload_n hx hb dL_law_22 rfl (lv_at hl 0 rfl) ?_
  refine cl_L_99 (As := []) (rest := []) hB (f_X10_canFinish l g H xb lim (fun _ => 0) 0 (fun _ => 0) (fun _ => 0) (fun _ => 0) (fun _ => 0) 0 (hC)) hC.ob rfl hl.1 (Nat.le_of_ble_eq_true rfl) dL_law_23 ⟨Nat.le_of_ble_eq_true rfl, Nat.le_of_ble_eq_true rfl⟩ ⟨Nat.le_of_ble_eq_true rfl, Nat.le_of_ble_eq_true rfl⟩ hS (by have hz9 := hS.1; rintro q9 (h9 | h9) <;> first | exact h9.elim | (have h8 : (xb ≤ q9 ∧ q9 < xb + 68) ∨ lim ≤ q9 := h9; show xb ≤ q9; omega) | (show xb ≤ q9; omega)) (fun v H1 locs hpo hfr hS => ?_)
  obtain ⟨rfl, rfl⟩ := hpo
  refine W.widen (k := 68) (n := 1291) (Nat.le_of_ble_eq_true rfl) (Nat.le_of_ble_eq_true rfl) ?_
  refine mh_top (y := .int (nI 0)) (by rw [cf_0]) ?_
  refine mn_if_ne (tgt := 33) hB dL_law_26 (by decide) (by omega) (fun h => by exfalso; omega) (fun h_26 => ?_)
  refine lv_iconst (v := nI 1) hx hb dL_law_29 (by decide) ?_
  refine lv_goto (tgt := 34) hx hb dL_law_30 (by decide) ?_
  refine lv_istore_n (lv' := [(2, .int (nI 1)), (1, .ref xb), (0, .ref b)]) hx hb dL_law_34 rfl hl (by decide) rfl (fun ls hl => ?_)
  refine lv_iconst (v := nI 0) hx hb dL_law_35 (by decide) ?_
  refine lv_istore_n (lv' := [(3, .int (nI 0)), (2, .int (nI 1)), (1, .ref xb), (0, .ref b)]) hx hb dL_law_36 rfl hl (by decide) rfl (fun ls hl => ?_)
  refine W.widen (k := 68 + 28 * 0) (n := 1291 + 385 * 0) (Nat.le_of_ble_eq_true rfl) (Nat.le_of_ble_eq_true rfl) ?_
  clear hsz
  refine mh_loopC (σ := Nat × (Nat → Int32) × Nat × (Nat → Int32) × (Nat → Int32) × (Nat → Int32) × (Nat → Int32) × Nat) (fun xx9 H locs ls => match xx9 with | (i9, q, n, rm, sl, sv, tx, ln) => i9 ≤ 40 ∧ SD i9 q ∧ CLS g xb lim q n rm sl sv tx ln H ∧ va_S (fun q9 => xb ≤ q9) H0 H locs ∧ lv_has ls 5 [(0, .ref b), (1, .ref xb), (2, .int (nI 1)), (3, .int (nI i9))]) (fun xx9 => match xx9 with | (i9, q, n, rm, sl, sv, tx, ln) => 40 - i9) (fun xx9 => match xx9 with | (i9, q, n, rm, sl, sv, tx, ln) => 68 + 28 * i9) (fun xx9 => match xx9 with | (i9, q, n, rm, sl, sv, tx, ln) => 1291 + 385 * i9) ?_ (0, fun _ => 0, 0, fun _ => 0, fun _ => 0, fun _ => 0, fun _ => 0, 0) ⟨(by omega), (SD.z), hC, hS, lv_sub hl [3, 2, 1, 0] rfl⟩
  rintro ⟨i9, q, n, rm, sl, sv, tx, ln⟩ H locs ls ⟨hi9, hSD, hC, hS, hl⟩ ih
  have ih37 := ih
  show W _ _ _ _ _ _ _ _ _ _ _ _ (68 + 28 * i9) (1291 + 385 * i9) _ _
  refine lv_iload_n hx hb dL_law_37 rfl (lv_at hl 3 rfl) ?_
  refine lv_bipush (v := nI 40) hx hb dL_law_38 (by decide) ?_
  refine mn_icmp_ge (tgt := 78) hB dL_law_40 (by decide) (by omega) (by omega) (fun h_40 => ?_) (fun h_40 => ?_)
  · skip
    have hin9 : i9 = 40 := by omega
    subst hin9
    have hW := hC.wf
    have hZw := hC.wz
    have hn5 := hW.2.2.1
    have hn14 := hC.n14
    obtain ⟨hnx1, hnx2⟩ := nxt_pos n hn14
    have hqe := rem_last (rm := rm) (q := q) hn14
    refine lv_aload_n hx hb dL_law_78 rfl (lv_at hl 1 rfl) ?_
    refine lv_iconst (v := nI 0) hx hb dL_law_79 (by decide) ?_
    refine cl_L_19 (As := [.int (nI 0)]) (rest := []) hB (f_X10_about_0 l g H xb lim q n rm sl sv tx ln (hC)) hC.ob rfl hl.1 (Nat.le_of_ble_eq_true rfl) dL_law_80 ⟨Nat.le_of_ble_eq_true rfl, Nat.le_of_ble_eq_true rfl⟩ ⟨by show (68 + 28 * 40) + 0 ≤ 600130; omega, by show (1291 + 385 * 40) + 0 ≤ 7301080; omega⟩ hS (by have hz9 := hS.1; rintro q9 (h9 | h9) <;> first | exact h9.elim | (have h8 : (xb ≤ q9 ∧ q9 < xb + 68) ∨ lim ≤ q9 := h9; show xb ≤ q9; omega) | (show xb ≤ q9; omega)) (fun v H1 locs hpo hfr hS => ?_)
    obtain ⟨rfl, rfl⟩ := hpo
    refine W.widen (k := 68 + 28 * 40) (n := 1291 + 385 * 40) (by show (68 + 28 * 40) + 0 ≤ 68 + 28 * 40; omega) (by show (1291 + 385 * 40) + 0 ≤ 1291 + 385 * 40; omega) ?_
    refine mh_top (y := .int (nI (nmQ q))) (by rw [abV_0 hW]) ?_
    refine lv_istore_n (lv' := [(3, .int (nI (nmQ q))), (0, .ref b), (1, .ref xb), (2, .int (nI 1))]) hx hb dL_law_83 rfl hl (by decide) rfl (fun ls hl => ?_)
    refine lv_aload_n hx hb dL_law_84 rfl (lv_at hl 2 rfl) ?_
    refine lv_bipush (v := nI 6) hx hb dL_law_85 (by decide) ?_
    refine cl_L_19 (As := [.int (nI 6)]) (rest := []) hB (f_X10_about_6 l g H xb lim q n rm sl sv tx ln (hC)) hC.ob rfl hl.1 (Nat.le_of_ble_eq_true rfl) dL_law_87 ⟨Nat.le_of_ble_eq_true rfl, Nat.le_of_ble_eq_true rfl⟩ ⟨by show (68 + 28 * 40) + 0 ≤ 600130; omega, by show (1291 + 385 * 40) + 0 ≤ 7301080; omega⟩ hS (by have hz9 := hS.1; rintro q9 (h9 | h9) <;> first | exact h9.elim | (have h8 : (xb ≤ q9 ∧ q9 < xb + 68) ∨ lim ≤ q9 := h9; show xb ≤ q9; omega) | (show xb ≤ q9; omega)) (fun v H1 locs hpo hfr hS => ?_)
    obtain ⟨rfl, rfl⟩ := hpo
    refine W.widen (k := 68 + 28 * 40) (n := 1291 + 385 * 40) (by show (68 + 28 * 40) + 0 ≤ 68 + 28 * 40; omega) (by show (1291 + 385 * 40) + 0 ≤ 1291 + 385 * 40; omega) ?_
    refine lv_istore (lv' := [(4, .int (abV q 6)), (3, .int (nI (nmQ q))), (0, .ref b), (1, .ref xb), (2, .int (nI 1))]) hx hb dL_law_90 hl (by decide) rfl (fun ls hl => ?_)
    refine lv_iload_n hx hb dL_law_92 rfl (lv_at hl 4 rfl) ?_
    refine mn_if_eq (tgt := 134) hB dL_law_93 (by decide) (by omega) (fun h => by exfalso; omega) (fun h_93 => ?_)
    refine lv_aload_n hx hb dL_law_96 rfl (lv_at hl 3 rfl) ?_
    refine lv_iconst (v := nI 0) hx hb dL_law_97 (by decide) ?_
    refine cl_L_109 (As := [.int (nI 0)]) (rest := []) hB (f_X10_save l g H xb lim q n rm sl sv tx ln 0 (hC) (by first | assumption | omega)) hC.ob rfl hl.1 (Nat.le_of_ble_eq_true rfl) dL_law_98 ⟨Nat.le_of_ble_eq_true rfl, Nat.le_of_ble_eq_true rfl⟩ ⟨by show (68 + 28 * 40) + 26 ≤ 600130; omega, by show (1291 + 385 * 40) + 126 ≤ 7301080; omega⟩ hS (by have hz9 := hS.1; rintro q9 (h9 | h9) <;> first | exact h9.elim | (have h8 : (xb ≤ q9 ∧ q9 < xb + 68) ∨ lim ≤ q9 := h9; show xb ≤ q9; omega) | (show xb ≤ q9; omega)) (fun v H1 locs hpo hfr hS => ?_)
    obtain ⟨rfl, hC⟩ := hpo
    generalize H1 = H at hfr hS hC ⊢
    refine W.widen (k := 68 + 28 * 40 + 26) (n := 1291 + 385 * 40 + 126) (by show (68 + 28 * 40) + 26 ≤ 68 + 28 * 40 + 26; omega) (by show (1291 + 385 * 40) + 126 ≤ 1291 + 385 * 40 + 126; omega) ?_
    refine mh_top (y := .int (nI (nmQ q))) (by rw [hW.1]) ?_
    refine lv_iload_n hx hb dL_law_101 rfl (lv_at hl 1 rfl) ?_
    refine mn_icmp_ne (tgt := 134) hB dL_law_102 (by decide) (by omega) (by omega) (fun h => by exfalso; omega) (fun h_102 => ?_)
    refine lv_aload_n hx hb dL_law_105 rfl (lv_at hl 3 rfl) ?_
    refine cl_L_81 (As := []) (rest := []) hB (f_X10_returnCloth l g H xb lim q n rm (remU sl 0 q 866) (upd sv 0 (vp_nar .boolean (nI 1))) tx ln (hC)) hC.ob rfl hl.1 (Nat.le_of_ble_eq_true rfl) dL_law_106 ⟨Nat.le_of_ble_eq_true rfl, Nat.le_of_ble_eq_true rfl⟩ ⟨by show (68 + 28 * 40 + 26) + 26 ≤ 600130; omega, by show (1291 + 385 * 40 + 126) + 126 ≤ 7301080; omega⟩ hS (by have hz9 := hS.1; rintro q9 (h9 | h9) <;> first | exact h9.elim | (have h8 : (xb ≤ q9 ∧ q9 < xb + 68) ∨ lim ≤ q9 := h9; show xb ≤ q9; omega) | (show xb ≤ q9; omega)) (fun v H1 locs hpo hfr hS => ?_)
    obtain ⟨rfl, hC⟩ := hpo
    generalize H1 = H at hfr hS hC ⊢
    refine W.widen (k := 68 + 28 * 40 + 26 + 26) (n := 1291 + 385 * 40 + 126 + 126) (by show (68 + 28 * 40 + 26) + 26 ≤ 68 + 28 * 40 + 26 + 26; omega) (by show (1291 + 385 * 40 + 126) + 126 ≤ 1291 + 385 * 40 + 126 + 126; omega) ?_
    refine lv_if_lt (tgt := 134) hx hb dL_law_109 (by decide) (fun h => absurd h (retT_ge hSD (by omega) hW hZw)) (fun h_109 => ?_)
    refine lv_aload_n hx hb dL_law_112 rfl (lv_at hl 3 rfl) ?_
    refine cl_L_112 (As := []) (rest := []) hB (f_X10_undo l g H xb lim (retO q 6) (nxtS n) (remA rm n q) (remU sl 0 q 866) (upd sv 0 (vp_nar .boolean (nI 1))) tx ln (hC) (hnx1)) hC.ob rfl hl.1 (Nat.le_of_ble_eq_true rfl) dL_law_113 ⟨Nat.le_of_ble_eq_true rfl, Nat.le_of_ble_eq_true rfl⟩ ⟨by show (68 + 28 * 40 + 26 + 26) + 0 ≤ 600130; omega, by show (1291 + 385 * 40 + 126 + 126) + 0 ≤ 7301080; omega⟩ hS (by have hz9 := hS.1; rintro q9 (h9 | h9) <;> first | exact h9.elim | (have h8 : (xb ≤ q9 ∧ q9 < xb + 68) ∨ lim ≤ q9 := h9; show xb ≤ q9; omega) | (show xb ≤ q9; omega)) (fun v H1 locs hpo hfr hS => ?_)
    obtain ⟨rfl, hC⟩ := hpo
    generalize H1 = H at hfr hS hC ⊢
    refine W.widen (k := 68 + 28 * 40 + 26 + 26) (n := 1291 + 385 * 40 + 126 + 126) (by show (68 + 28 * 40 + 26 + 26) + 0 ≤ 68 + 28 * 40 + 26 + 26; omega) (by show (1291 + 385 * 40 + 126 + 126) + 0 ≤ 1291 + 385 * 40 + 126 + 126; omega) ?_
    have hW2 := hC.wf
    have hZ2 := hC.wz
    have hSD2 := SD.qeq hSD hW hqe
    refine mn_if_lt (tgt := 134) hB dL_law_116 (by decide) (by omega) (fun h => by exfalso; omega) (fun h_116 => ?_)
    refine lv_aload_n hx hb dL_law_119 rfl (lv_at hl 3 rfl) ?_
    refine lv_bipush (v := nI 6) hx hb dL_law_120 (by decide) ?_
    refine cl_L_19 (As := [.int (nI 6)]) (rest := []) hB (f_X10_about_6 l g H xb lim (row9 (remA rm n q) ((nxtS n) - 1)) ((nxtS n) - 1) (remA rm n q) (remU sl 0 q 866) (upd sv 0 (vp_nar .boolean (nI 1))) tx ln (hC)) hC.ob rfl hl.1 (Nat.le_of_ble_eq_true rfl) dL_law_122 ⟨Nat.le_of_ble_eq_true rfl, Nat.le_of_ble_eq_true rfl⟩ ⟨by show (68 + 28 * 40 + 26 + 26) + 0 ≤ 600130; omega, by show (1291 + 385 * 40 + 126 + 126) + 0 ≤ 7301080; omega⟩ hS (by have hz9 := hS.1; rintro q9 (h9 | h9) <;> first | exact h9.elim | (have h8 : (xb ≤ q9 ∧ q9 < xb + 68) ∨ lim ≤ q9 := h9; show xb ≤ q9; omega) | (show xb ≤ q9; omega)) (fun v H1 locs hpo hfr hS => ?_)
    obtain ⟨rfl, rfl⟩ := hpo
    refine W.widen (k := 68 + 28 * 40 + 26 + 26) (n := 1291 + 385 * 40 + 126 + 126) (by show (68 + 28 * 40 + 26 + 26) + 0 ≤ 68 + 28 * 40 + 26 + 26; omega) (by show (1291 + 385 * 40 + 126 + 126) + 0 ≤ 1291 + 385 * 40 + 126 + 126; omega) ?_
    refine mh_top (y := .int (abV q 6)) (by rw [abV6_q hqe]) ?_
    refine lv_iload hx hb dL_law_125 (lv_at hl 0 rfl) ?_
    refine lv_icmp_ne (tgt := 134) hx hb dL_law_127 (by decide) (fun h => absurd rfl h) (fun h_127 => ?_)
    refine lv_iconst (v := nI 1) hx hb dL_law_130 (by decide) ?_
    refine lv_goto (tgt := 135) hx hb dL_law_131 (by decide) ?_
    refine lv_istore_n (lv' := [(2, .int (nI 1)), (4, .int (abV q 6)), (3, .int (nI (nmQ q))), (0, .ref b), (1, .ref xb)]) hx hb dL_law_135 rfl hl (by decide) rfl (fun ls hl => ?_)
    refine lv_iload_n hx hb dL_law_136 rfl (lv_at hl 0 rfl) ?_
    refine mn_if_eq (tgt := 178) hB dL_law_137 (by decide) (by omega) (fun h => by exfalso; omega) (fun h_137 => ?_)
    refine lv_aload_n hx hb dL_law_140 rfl (lv_at hl 4 rfl) ?_
    refine cl_L_81 (As := []) (rest := []) hB (f_X10_returnCloth l g H xb lim (row9 (remA rm n q) ((nxtS n) - 1)) ((nxtS n) - 1) (remA rm n q) (remU sl 0 q 866) (upd sv 0 (vp_nar .boolean (nI 1))) tx ln (hC)) hC.ob rfl hl.1 (Nat.le_of_ble_eq_true rfl) dL_law_141 ⟨Nat.le_of_ble_eq_true rfl, Nat.le_of_ble_eq_true rfl⟩ ⟨by show (68 + 28 * 40 + 26 + 26) + 26 ≤ 600130; omega, by show (1291 + 385 * 40 + 126 + 126) + 126 ≤ 7301080; omega⟩ hS (by have hz9 := hS.1; rintro q9 (h9 | h9) <;> first | exact h9.elim | (have h8 : (xb ≤ q9 ∧ q9 < xb + 68) ∨ lim ≤ q9 := h9; show xb ≤ q9; omega) | (show xb ≤ q9; omega)) (fun v H1 locs hpo hfr hS => ?_)
    obtain ⟨rfl, hC⟩ := hpo
    generalize H1 = H at hfr hS hC ⊢
    refine W.widen (k := 68 + 28 * 40 + 26 + 26 + 26) (n := 1291 + 385 * 40 + 126 + 126 + 126) (by show (68 + 28 * 40 + 26 + 26) + 26 ≤ 68 + 28 * 40 + 26 + 26 + 26; omega) (by show (1291 + 385 * 40 + 126 + 126) + 126 ≤ 1291 + 385 * 40 + 126 + 126 + 126; omega) ?_
    refine lv_if_lt (tgt := 178) hx hb dL_law_144 (by decide) (fun h => absurd h (retT_ge hSD2 (by omega) hW2 hZ2)) (fun h_144 => ?_)
    refine lv_aload_n hx hb dL_law_147 rfl (lv_at hl 4 rfl) ?_
    refine lv_iconst (v := nI 0) hx hb dL_law_148 (by decide) ?_
    refine cl_L_115 (As := [.int (nI 0)]) (rest := []) hB (f_X10_restore l g H xb lim (retO (row9 (remA rm n q) ((nxtS n) - 1)) 6) (nxtS ((nxtS n) - 1)) (remA (remA rm n q) ((nxtS n) - 1) (row9 (remA rm n q) ((nxtS n) - 1))) (remU sl 0 q 866) (upd sv 0 (vp_nar .boolean (nI 1))) tx ln 0 (hC) (by first | assumption | omega) (upd_s (α := Nat))) hC.ob rfl hl.1 (Nat.le_of_ble_eq_true rfl) dL_law_149 ⟨Nat.le_of_ble_eq_true rfl, Nat.le_of_ble_eq_true rfl⟩ ⟨by show (68 + 28 * 40 + 26 + 26 + 26) + 0 ≤ 600130; omega, by show (1291 + 385 * 40 + 126 + 126 + 126) + 0 ≤ 7301080; omega⟩ hS (by have hz9 := hS.1; rintro q9 (h9 | h9) <;> first | exact h9.elim | (have h8 : (xb ≤ q9 ∧ q9 < xb + 68) ∨ lim ≤ q9 := h9; show xb ≤ q9; omega) | (show xb ≤ q9; omega)) (fun v H1 locs hpo hfr hS => ?_)
    obtain ⟨rfl, hC⟩ := hpo
    generalize H1 = H at hfr hS hC ⊢
    refine W.widen (k := 68 + 28 * 40 + 26 + 26 + 26) (n := 1291 + 385 * 40 + 126 + 126 + 126) (by show (68 + 28 * 40 + 26 + 26 + 26) + 0 ≤ 68 + 28 * 40 + 26 + 26 + 26; omega) (by show (1291 + 385 * 40 + 126 + 126 + 126) + 0 ≤ 1291 + 385 * 40 + 126 + 126 + 126; omega) ?_
    refine mh_top (y := .int (nI (nmQ q))) (by rw [show remU sl 0 q 866 (866 * 0 + 0) = q 0 from if_pos (by omega), hW.1]) ?_
    have hSD3 := SD.qeq hSD hW (rem_slot (sl := sl) (q := q))
    refine lv_iload_n hx hb dL_law_152 rfl (lv_at hl 2 rfl) ?_
    refine mn_icmp_ne (tgt := 178) hB dL_law_153 (by decide) (by omega) (by omega) (fun h => by exfalso; omega) (fun h_153 => ?_)
    refine lv_aload_n hx hb dL_law_156 rfl (lv_at hl 4 rfl) ?_
    refine lv_bipush (v := nI 6) hx hb dL_law_157 (by decide) ?_
    refine cl_L_19 (As := [.int (nI 6)]) (rest := []) hB (f_X10_about_6 l g H xb lim (row9 (remU sl 0 q 866) 0) 0 (remA (remA rm n q) ((nxtS n) - 1) (row9 (remA rm n q) ((nxtS n) - 1))) (remU sl 0 q 866) (upd sv 0 (vp_nar .boolean (nI 1))) tx ln (hC)) hC.ob rfl hl.1 (Nat.le_of_ble_eq_true rfl) dL_law_159 ⟨Nat.le_of_ble_eq_true rfl, Nat.le_of_ble_eq_true rfl⟩ ⟨by show (68 + 28 * 40 + 26 + 26 + 26) + 0 ≤ 600130; omega, by show (1291 + 385 * 40 + 126 + 126 + 126) + 0 ≤ 7301080; omega⟩ hS (by have hz9 := hS.1; rintro q9 (h9 | h9) <;> first | exact h9.elim | (have h8 : (xb ≤ q9 ∧ q9 < xb + 68) ∨ lim ≤ q9 := h9; show xb ≤ q9; omega) | (show xb ≤ q9; omega)) (fun v H1 locs hpo hfr hS => ?_)
    obtain ⟨rfl, rfl⟩ := hpo
    refine W.widen (k := 68 + 28 * 40 + 26 + 26 + 26) (n := 1291 + 385 * 40 + 126 + 126 + 126) (by show (68 + 28 * 40 + 26 + 26 + 26) + 0 ≤ 68 + 28 * 40 + 26 + 26 + 26; omega) (by show (1291 + 385 * 40 + 126 + 126 + 126) + 0 ≤ 1291 + 385 * 40 + 126 + 126 + 126; omega) ?_
    refine mh_top (y := .int (abV q 6)) (by rw [abV6_q rem_slot]) ?_
    refine lv_iload hx hb dL_law_162 (lv_at hl 1 rfl) ?_
    refine lv_icmp_ne (tgt := 178) hx hb dL_law_164 (by decide) (fun h => absurd rfl h) (fun h_164 => ?_)
    refine lv_aload_n hx hb dL_law_167 rfl (lv_at hl 4 rfl) ?_
    refine cl_L_96 (As := [.ref xb]) (rest := []) hB (c_L_sound l g H xb lim (row9 (remU sl 0 q 866) 0) 0 (remA (remA rm n q) ((nxtS n) - 1) (row9 (remA rm n q) ((nxtS n) - 1))) (remU sl 0 q 866) (upd sv 0 (vp_nar .boolean (nI 1))) tx ln 40 (hC) (hSD3) (by omega)) rfl hl.1 (Nat.le_of_ble_eq_true rfl) dL_law_168 ⟨Nat.le_of_ble_eq_true rfl, Nat.le_of_ble_eq_true rfl⟩ ⟨by show (68 + 28 * 40 + 26 + 26 + 26) + 0 ≤ 600130; omega, by show (1291 + 385 * 40 + 126 + 126 + 126) + 0 ≤ 7301080; omega⟩ hS (by have hz9 := hS.1; rintro q9 (h9 | h9) <;> first | exact h9.elim | (have h8 : (xb ≤ q9 ∧ q9 < xb + 68) ∨ lim ≤ q9 := h9; show xb ≤ q9; omega) | (show xb ≤ q9; omega)) (fun v H1 locs hpo hfr hS => ?_)
    obtain ⟨rfl, hC⟩ := hpo
    generalize H1 = H at hfr hS hC ⊢
    refine W.widen (k := 68 + 28 * 40 + 26 + 26 + 26) (n := 1291 + 385 * 40 + 126 + 126 + 126) (by show (68 + 28 * 40 + 26 + 26 + 26) + 0 ≤ 68 + 28 * 40 + 26 + 26 + 26; omega) (by show (1291 + 385 * 40 + 126 + 126 + 126) + 0 ≤ 1291 + 385 * 40 + 126 + 126 + 126; omega) ?_
    refine mn_if_eq (tgt := 178) hB dL_law_171 (by decide) (by omega) (fun h => by exfalso; omega) (fun h_171 => ?_)
    refine lv_iconst (v := nI 1) hx hb dL_law_174 (by decide) ?_
    refine lv_goto (tgt := 179) hx hb dL_law_175 (by decide) ?_
    refine mh_top (y := .int 1) rfl ?_
    refine va_forget (fun q9 hq9 => by have h9 : xb ≤ q9.base := hS.2.2 q9 hq9; rw [← hH0]; omega) ?_
    refine W.widen (k := 600130) (n := 7301080) (by omega) (by omega) ?_
    exact lw_ret hx hb hB.r hB.lk dL_law_179
  · skip
    refine lv_iload_n hx hb dL_law_43 rfl (lv_at hl 2 rfl) ?_
    refine mn_if_eq (tgt := 78) hB dL_law_44 (by decide) (by omega) (fun h => by exfalso; omega) (fun h_44 => ?_)
    refine lv_aload_n hx hb dL_law_47 rfl (lv_at hl 1 rfl) ?_
    refine lv_aload_n hx hb dL_law_48 rfl (lv_at hl 0 rfl) ?_
    refine lv_iload_n hx hb dL_law_49 rfl (lv_at hl 3 rfl) ?_
    refine mh_callSY (n := 2) (As := [.ref b, .int (nI i9)]) (rest := [.ref xb]) kw_561 kw_0 kw_559 kw_560 (by decide +kernel) hB (hX.kept (hS.2.1 b hbl (fun y9 => by have y8 : xb ≤ b := y9; omega))) (c_L_cell l g H b L xs i9 (Nat.lt_of_lt_of_le hbl hS.1) hL (by omega)) rfl hl.1 (Nat.le_of_ble_eq_true rfl) dL_law_50 ⟨Nat.le_of_ble_eq_true rfl, Nat.le_of_ble_eq_true rfl⟩ ⟨by show (68 + 28 * i9) + 0 ≤ 600130; omega, by show (1291 + 385 * i9) + 0 ≤ 7301080; omega⟩ hS (by have hz9 := hS.1; rintro q9 (h9 | h9) <;> first | exact h9.elim | (have h8 : (xb ≤ q9 ∧ q9 < xb + 68) ∨ lim ≤ q9 := h9; show xb ≤ q9; omega) | (show xb ≤ q9; omega)) (fun v H1 locs hpo hfr hS => ?_)
    obtain ⟨y9, hy9, rfl, rfl⟩ := hpo
    refine W.widen (k := 68 + 28 * i9) (n := 1291 + 385 * i9) (by show (68 + 28 * i9) + 0 ≤ 68 + 28 * i9; omega) (by show (1291 + 385 * i9) + 0 ≤ 1291 + 385 * i9; omega) ?_
    refine cl_L_106 (As := [.ref xb, .int (nI y9)]) (rest := []) hB (c_L_acts l g H xb lim q n rm sl sv tx ln i9 y9 (hC) (hSD) (by omega) (hy9)) rfl hl.1 (Nat.le_of_ble_eq_true rfl) dL_law_53 ⟨Nat.le_of_ble_eq_true rfl, Nat.le_of_ble_eq_true rfl⟩ ⟨by show (68 + 28 * i9) + 28 ≤ 600130; omega, by show (1291 + 385 * i9) + 385 ≤ 7301080; omega⟩ hS (by have hz9 := hS.1; rintro q9 (h9 | h9) <;> first | exact h9.elim | (have h8 : (xb ≤ q9 ∧ q9 < xb + 68) ∨ lim ≤ q9 := h9; show xb ≤ q9; omega) | (show xb ≤ q9; omega)) (fun v H1 locs hpo hfr hS => ?_)
    obtain ⟨rfl, hAc⟩ := hpo
    generalize H1 = H at hfr hS hAc ⊢
    refine W.widen (k := 68 + 28 * i9 + 28) (n := 1291 + 385 * i9 + 385) (by show (68 + 28 * i9) + 28 ≤ 68 + 28 * i9 + 28; omega) (by show (1291 + 385 * i9) + 385 ≤ 1291 + 385 * i9 + 385; omega) ?_
    obtain ⟨q1, n1, rm1, sl1, sv1, tx1, ln1, hC, hSD⟩ := hAc
    refine mn_if_eq (tgt := 70) hB dL_law_56 (by decide) (by omega) (fun h => by exfalso; omega) (fun h_56 => ?_)
    refine lv_aload_n hx hb dL_law_59 rfl (lv_at hl 1 rfl) ?_
    refine cl_L_96 (As := [.ref xb]) (rest := []) hB (c_L_sound l g H xb lim q1 n1 rm1 sl1 sv1 tx1 ln1 (i9 + 1) (hC) (hSD) (by omega)) rfl hl.1 (Nat.le_of_ble_eq_true rfl) dL_law_60 ⟨Nat.le_of_ble_eq_true rfl, Nat.le_of_ble_eq_true rfl⟩ ⟨by show (68 + 28 * i9 + 28) + 0 ≤ 600130; omega, by show (1291 + 385 * i9 + 385) + 0 ≤ 7301080; omega⟩ hS (by have hz9 := hS.1; rintro q9 (h9 | h9) <;> first | exact h9.elim | (have h8 : (xb ≤ q9 ∧ q9 < xb + 68) ∨ lim ≤ q9 := h9; show xb ≤ q9; omega) | (show xb ≤ q9; omega)) (fun v H1 locs hpo hfr hS => ?_)
    obtain ⟨rfl, hC⟩ := hpo
    generalize H1 = H at hfr hS hC ⊢
    refine W.widen (k := 68 + 28 * i9 + 28) (n := 1291 + 385 * i9 + 385) (by show (68 + 28 * i9 + 28) + 0 ≤ 68 + 28 * i9 + 28; omega) (by show (1291 + 385 * i9 + 385) + 0 ≤ 1291 + 385 * i9 + 385; omega) ?_
    refine mn_if_eq (tgt := 70) hB dL_law_63 (by decide) (by omega) (fun h => by exfalso; omega) (fun h_63 => ?_)
    refine lv_iconst (v := nI 1) hx hb dL_law_66 (by decide) ?_
    refine lv_goto (tgt := 71) hx hb dL_law_67 (by decide) ?_
    refine lv_istore_n (lv' := [(2, .int (nI 1)), (0, .ref b), (1, .ref xb), (3, .int (nI i9))]) hx hb dL_law_71 rfl hl (by decide) rfl (fun ls hl => ?_)
    refine lv_iinc (v := nI (i9 + 1)) (lv' := [(3, .int (nI (i9 + 1))), (2, .int (nI 1)), (0, .ref b), (1, .ref xb)]) hx hb dL_law_72 hl (k := 3) rfl (nI_1 _) (by decide) rfl (fun ls hl => ?_)
    refine lv_goto (tgt := 37) hx hb dL_law_75 (by decide) ?_
    refine W.widen (k := 68 + 28 * (i9 + 1)) (n := 1291 + 385 * (i9 + 1)) (by omega) (by omega) ?_
    refine ih37 (i9 + 1, q1, n1, rm1, sl1, sv1, tx1, ln1) _ _ _ ⟨(by omega), (hSD), hC, hS, lv_sub hl [2, 3, 1, 0] rfl⟩ (by dsimp only; omega)
set_option maxHeartbeats 4000000 in
theorem lw_walk (l : Launch) (hflags : l.flags = flags0) (b : Addr) (xs : List Int32) : MetFree l x (headSpec (Jvm.Cond.code x code maxLocals ret :: tables_1) room_1) (lw_P b xs) (fun _ _ _ _ _ => True) lw_Q := by
  refine MetFree.of_bodyS (code := code) (maxLocals := maxLocals) (ret := ret) (by decide) ?_ ?_
  · intro args s m h hn
    obtain ⟨meth, c, h1, h2, h3, h4, h5, h6, -, -⟩ := Cond.code_spec hn (atoms_spec (ws := Jvm.Cond.code x code maxLocals ret :: tables_1) h _ List.mem_cons_self)
    exact ⟨meth, c, h1, h2, h3, h4, h5, h6⟩
  · intro p e s m args below meth c s₁ B hml0 hP _
    obtain ⟨rfl, hx, hbd, hgv⟩ := hP
    obtain ⟨scr, harrAt, hlist, hof, hsmall⟩ := hx
    obtain ⟨hcb, hkn, -, -⟩ := State.arrayAt?_spec harrAt
    have hown : s.vm.findClass R_law = some m.cls := findClass_of_methodNamed B.named
    have hts0 : ∀ c ∈ (Jvm.Cond.code x code maxLocals ret :: tables_1), c.before #[Value.ref b] s = true := atoms_spec (ws := Jvm.Cond.code x code maxLocals ret :: tables_1) B.pre
    have hts : ∀ w ∈ lw_tbl, w.before #[Value.ref b] s = true := k2_hts_sels lw_privs (fun w hw => hts0 w (List.mem_cons_of_mem _ hw)) lw_privs_ok
    have hml : c.maxLocals = 5 := B.maxLocals_eq (hts0 _ List.mem_cons_self)
    have X₀ : Stand p l e room_1 s m #[Value.ref b] below meth c s₁ [] 0 0 := Stand.of_body B
    have hh0 : s₁.heap = s.heap := by rw [B.state]; rfl
    have hsz : scr.slots.size = xs.length := by rw [← Array.length_toList, hlist, List.length_map]
    have hval : ∀ j : Nat, j < xs.length → scr.slots[j]? = some (.int (xs.getD j 0)) := fun j hj => by
      rw [← Array.getElem?_toList, hlist]
      simp [hj]
    have hbl : b < s.heap.size := (Array.getElem?_eq_some_iff.mp hcb).1
    have hX : va_X b xs.length (fun j => xs.getD j 0) s s.heap := ⟨scr, hcb, hof, hkn, hsz, hval⟩
    have K : W p l e room_1 s m #[Value.ref b] below meth c s₁.heap [] 0 0 (lw_Z below #[Value.ref b] s) (entryFrame m ([Value.ref b] : List Value).toArray 5) := by
      rw [hh0]
      exact whole_start l hflags hbd ⟨B.exec, B.bytes, B.returns, hml, hown, hts, hX, hbl, B.notSynchronized, hgv⟩
    obtain ⟨t, a1, o, b1, b2, b3⟩ := K s₁ rfl X₀
    exact ⟨t, o, a1, b1, b2, b3⟩
theorem lw_pre_spec {args : Array Value} {s : State} (h : (Jvm.Cond.and given_1 narrow_1).before args s = true) (hr : rest_1_c.before args s = true) : ∃ (b : Addr) (xs : List Int32), lw_P b xs args s := by
  have hs := flat_of_before _ h
  have hq := flat_of_before _ hr
  have hc : (Cond.count 1).before args s = true := hs _ (by decide +kernel)
  have harr : (Cond.arrayOf (.arg 0) .int).before args s = true := hs _ (by decide +kernel)
  have hle : (Cond.le (.length (.arg 0)) (.int 260)).before args s = true := hs _ (by decide +kernel)
  have hlen : (Cond.isInt (.length (.arg 0))).before args s = true := hq _ (by decide +kernel)
  have hall : (Cond.all (.arg 0) (.isInt (.elem (.arg 0) (.index 0)))).before args s = true := hq _ (by decide +kernel)
  obtain ⟨b, xs, hb, hx⟩ := State.ints_of_pre rfl harr hlen hall
  have hsm : xs.length < 2 ^ 31 := hx.choose_spec.2.2.2
  have hev : (Term.length (.arg 0)).eval args s none [] s = some (.int xs.length.toInt32) := hx.length_eval hb
  have hv := Cond.le_ints hev (show (Term.int 260).eval args s none [] s = some (.int 260) from rfl)
  have hd : xs.length.toInt32 ≤ 260 := by
    simpa [Cond.before, Cond.holds, hv] using hle
  have hN : xs.length ≤ 260 := (Int32.ofNat_le_ofNat hsm (by decide)).mp (show Int32.ofNat xs.length ≤ Int32.ofNat 260 from hd)
  exact ⟨b, xs, Cond.one_arg hc (show args[0]? = some (.ref b) from hb), hx, hN, h⟩
theorem lw_comes (l : Launch) (hflags : l.flags = flags0) : Comes l x (Jvm.Cond.code x code maxLocals ret :: tables_1) room_1 (fun tb e args s => Calls_1 tb e args s ∧ rest_1 tb e args s ∧ Pre_1 tb e args s)
    (fun _ _ args s o t => lw_Q args s o t) := by
  intro p e ha hc hk s m args below hf hfit hheap happ hpre
  obtain ⟨b, xs, hP⟩ := lw_pre_spec hpre.2.2 hpre.2.1
  obtain ⟨k, o, h1, h2, h3, hQ⟩ := lw_walk l hflags b xs p e ha hc hk s m args below hf ((Spec.applies_iff_loose hf).mp happ).1 hP trivial
  exact ⟨k, o, h1, h2, h3, hQ⟩
theorem lw_frame {s t : State} {o : Outcome} {args : Array Value} (h : Framed s o t [] 600130 7301080) :
    Framed s o t (fieldLocs frame_1_writes args s ++ arrayLocs frame_1_arrays args s ++ staticLocs frame_1_statics s) 600130 7301080 := h
theorem lw_limb (L : Cond) (hL : ∀ (args : Array Value) (s t : State), L.after args s (.returned (some (.int 1))) t = true) :
    ArmFor flags0 classFile x code maxLocals ret World_1 tables_1 room_1 Calls_1 rest_1 Pre_1
      (fun tb e a s o t => postC L tb e a s o t ∧ Framed s o t (fieldLocs frame_1_writes a s ++ arrayLocs frame_1_arrays a s ++ staticLocs frame_1_statics s) 600130 7301080) := by
  intro l hflags _ _ p e ha hc hk s m args below hf hfit hheap happ hpre
  obtain ⟨k, o, h1, h2, h3, rfl, hF⟩ := lw_comes l hflags p e ha hc hk s m args below hf hfit hheap happ hpre
  exact ⟨k, _, h1, h2, h3, hL args s _, lw_frame hF⟩
theorem i_vc : Claimed_1_1 ∧ Claimed_1_2 := ⟨lw_limb limb_1_1 (fun args s t => by simp [limb_1_1, Cond.after, Cond.holds, Cond.value]), lw_limb limb_1_2 (fun args s t => Cond.after_iff.mpr (by
  first | (rw [show limb_1_2 = Cond.eq .result (.int 1) from rfl, Cond.eq_ints (x := 1) (y := 1) rfl rfl]; simp; done) | (simp [limb_1_2, Cond.value, Term.eval]; done)))⟩

