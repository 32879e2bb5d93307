/-! methods that throw: contracts, words, rows -/
abbrev XE1 : String := "java/lang/IllegalArgumentException"
abbrev XE2 : String := "java/lang/IllegalStateException"
abbrev XE3 : String := "java/lang/IndexOutOfBoundsException"
abbrev xnm : List String := ["java/lang/RuntimeException", "java/lang/Exception"]
def xN6 : List Cond := [.castable XE1 XE1, .castable XE2 XE2, .castable XE3 XE3, .declares ⟨"java/lang/RuntimeException", "<init>", "()V"⟩, .declares ⟨"java/lang/Exception", "<init>", "()V"⟩, .declares ⟨"java/lang/Throwable", "<init>", "()V"⟩]
theorem xN6_on : ∀ w ∈ xN6, w.onTables = true := by decide
theorem xN6_moved {s U : State} (hW : s.WarmedH U.vm) (h : ∀ w ∈ xN6, va_Nw w s) : ∀ w ∈ xN6, va_Nw w U := by
  have h0 := h
  unfold xN6 at h ⊢
  simp only [List.forall_mem_cons] at h ⊢
  exact ⟨va_Nw.warmC hW h.1, va_Nw.warmC hW h.2.1, va_Nw.warmC hW h.2.2.1, va_Nw.warmD hW h.2.2.2.1, va_Nw.warmD hW h.2.2.2.2.1, va_Nw.warmD hW h.2.2.2.2.2.1, fun x hx => absurd hx List.not_mem_nil⟩
theorem xw_of {ws : List Cond} (ps : List Nat) (hp : ws = ps.filterMap (fun i => tables_1[i]?)) (h : ws.all (fun w => gnW w || decide (w ∈ xN6)) = true) : ∀ w ∈ ws, w ∈ lw_gn ∨ w ∈ xN6 := by
  intro w hw
  have h1 := List.all_eq_true.mp h w hw
  rw [hp] at hw
  obtain ⟨i, -, hi⟩ := List.mem_filterMap.mp hw
  simp only [Bool.or_eq_true, decide_eq_true_eq] at h1
  exact h1.elim (fun y => Or.inl (kw_of hi y)) Or.inr
set_option maxRecDepth 100000 in
theorem xw_1 : ∀ w ∈ vx_at0 "QuiltGuild" 291 XE1 xnm, w ∈ lw_gn ∨ w ∈ xN6 := xw_of [10, 468, 477, 481, 484, 486, 469, 470, 27, 28, 471, 476, 482, 498, 458, 499, 460, 500, 462, 472, 474, 464, 488, 489, 490, 491, 449, 491, 492, 493, 494, 451, 494, 495, 496, 469, 453, 487, 447, 448, 455, 456, 457, 459, 461, 463, 467, 466, 465] (by decide +kernel) (by decide +kernel)
set_option maxRecDepth 100000 in
theorem xw_2 : ∀ w ∈ vx_at0 "QuiltGuild" 294 XE2 xnm, w ∈ lw_gn ∨ w ∈ xN6 := xw_of [10, 468, 477, 481, 484, 486, 469, 470, 27, 28, 471, 476, 482, 498, 458, 499, 460, 500, 462, 472, 474, 464, 526, 527, 528, 491, 449, 491, 492, 493, 494, 451, 494, 495, 496, 469, 453, 525, 517, 518, 519, 479, 520, 521, 522, 523, 467, 466, 524] (by decide +kernel) (by decide +kernel)
set_option maxRecDepth 100000 in
theorem xw_3 : ∀ w ∈ vx_at0 "QuiltGuild" 297 XE3 xnm, w ∈ lw_gn ∨ w ∈ xN6 := xw_of [10, 468, 477, 481, 484, 486, 469, 470, 27, 28, 471, 476, 482, 498, 458, 499, 460, 500, 462, 472, 474, 464, 570, 571, 572, 491, 449, 491, 492, 493, 494, 451, 494, 495, 496, 469, 453, 569, 561, 562, 563, 480, 564, 565, 566, 567, 467, 466, 568] (by decide +kernel) (by decide +kernel)
/-- what a throw needs of a state: the statics of Throwable, which of the three classes is none of the others -/
def ZZ (bs : Nat) (U : State) (H : Heap) : Prop := vx_Zq Bundle.tN "UNASSIGNED_STACK" Bundle.steD (fun q => bs ≤ q) U H ∧ vx_Zq Bundle.tN "SUPPRESSED_SENTINEL" Bundle.listD (fun q => bs ≤ q) U H ∧ va_Nc XE1 XE2 U ∧ va_Nc XE1 XE3 U ∧ va_Nc XE2 XE1 U ∧ va_Nc XE2 XE3 U ∧ va_Nc XE3 XE1 U ∧ va_Nc XE3 XE2 U ∧ ∀ w ∈ xN6, va_Nw w U
theorem ZZ.moved {bs : Nat} {s U : State} {H : Heap} (hW : s.WarmedH U.vm) (h : ZZ bs s H) : ZZ bs U H := ⟨h.1.moved hW.alike, h.2.1.moved hW.alike, h.2.2.1.moved hW.alike, h.2.2.2.1.moved hW.alike, h.2.2.2.2.1.moved hW.alike, h.2.2.2.2.2.1.moved hW.alike, h.2.2.2.2.2.2.1.moved hW.alike, h.2.2.2.2.2.2.2.1.moved hW.alike, xN6_moved hW h.2.2.2.2.2.2.2.2⟩
theorem ZZ.kept {bs : Nat} {U : State} {H H1 : Heap} (h : ZZ bs U H) (hq : ∀ a : Nat, a < H.size → ¬ bs ≤ a → H1[a]? = H[a]?) : ZZ bs U H1 := ⟨h.1.kept hq, h.2.1.kept hq, h.2.2⟩
theorem ZZ.at {bs : Nat} {U : State} {A : Nat → Prop} {H0 H : Heap} {locs : List Loc} (h : ZZ bs U H0) (hS : va_S A H0 H locs) (hA : ∀ q, A q → bs ≤ q) : ZZ bs U H := h.kept (fun a h1 h2 => hS.2.1 a h1 (fun y => h2 (hA a y)))
def mPX (g : GG) (bs : Nat) (avs : List Value) (H0 : Heap) : Array Value → State → Prop := fun v U => v = avs.toArray ∧ KK g U ∧ U.heap = H0 ∧ ZZ bs U H0
theorem mPX.blind {g : GG} {bs : Nat} {avs : List Value} {H0 : Heap} : FrameBlind (mPX g bs avs H0) := fun _ U _ _ h => ⟨h.1, KK.moved (U := U.calling _ _ _) (State.WarmedH.refl U) h.2.1, h.2.2.1, ZZ.moved (U := U.calling _ _ _) (State.WarmedH.refl U) h.2.2.2⟩
def xC (H0 : Heap) (A : Nat → Prop) (E : String) (post : Heap → Prop) : String → State → State → Prop := fun E2 _ t => E2 = E ∧ post t.heap ∧ Fr A H0 t.heap
def xN : Array Value → State → Outcome → State → Prop := fun _ _ _ _ => False
/-- the contract of a method that throws E here -/
def CtX (l : Launch) (y : MethodName) (cc : ByteArray) (maxL : Nat) (ret : Option FieldType) (rm : Room) (g : GG) (bs : Nat) (avs : List Value) (H0 : Heap) (A : Nat → Prop) (E : String) (post : Heap → Prop) : Prop :=
  vx_Met l y [.code y cc maxL ret] rm (mPX g bs avs H0) xN (xC H0 A E post) rm.cells rm.slots A
theorem CtX.of {l : Launch} {y : MethodName} {cc : ByteArray} {maxL : Nat} {ret : Option FieldType} {rm : Room} {g : GG} {bs : Nat} {avs : List Value} {H0 : Heap} {A : Nat → Prop} {E : String} {post : Heap → Prop} (hy : plainName y.cls = true) (hA : ∀ q : Nat, H0.size ≤ q → A q) (hn : (lg_sl avs).length ≤ maxL)
    (body : ∀ (p : Program) (e : Env) (s : State) (m : MethodId) (below : List Frame) (meth : Method) (c : Code) (ls : Array Slot), Bd p s m meth c cc maxL ret y.cls g → ZZ bs s H0 → (∀ x ∈ c.exceptionTable.toList, False) → va_S A H0 H0 [] → s.heap = H0 → lv_has ls maxL (lv_args 0 avs) →
      W p l e rm s m avs.toArray below meth c H0 [] 0 0 (vx_MQ below xN (xC H0 A E post) avs.toArray s rm.cells rm.slots A) (F0 m 0 ls [])) : CtX l y cc maxL ret rm g bs avs H0 A E post := by
  refine vx_ofW (cc := cc) (maxL := maxL) (ret := ret) hy rfl ?_
  intro p e s m args below meth c s₁ B hml ht hv
  obtain ⟨rfl, hK, rfl, hZ⟩ := hv
  have hl := lv_entry avs hn
  rw [lg_entry_eq]
  generalize (lg_sl avs ++ List.replicate (maxL - (lg_sl avs).length) Slot.unset).toArray = ls at hl ⊢
  exact body p e s m below meth c ls ⟨⟨B.exec, B.bytes⟩, hml, B.returns, findClass_of_methodNamed B.named, hK, B.notSynchronized⟩ hZ ht va_S.rf rfl hl
/-- the contract of a method with handlers -/
def CtW (l : Launch) (y : MethodName) (cc : ByteArray) (maxL : Nat) (ret : Option FieldType) (hh : List (Nat × Nat × Nat × Nat)) (rm : Room) (g : GG) (bs : Nat) (avs : List Value) (H0 : Heap) (A : Nat → Prop) (post : Option Value → Heap → Prop) : Prop :=
  Met l y [.codeWith y cc maxL ret hh] rm (mPX g bs avs H0) (mQ H0 A post) rm.cells rm.slots A
theorem CtW.of {l : Launch} {y : MethodName} {cc : ByteArray} {maxL : Nat} {ret : Option FieldType} {hh : List (Nat × Nat × Nat × Nat)} {rm : Room} {g : GG} {bs : Nat} {avs : List Value} {H0 : Heap} {A : Nat → Prop} {post : Option Value → Heap → Prop} (hy : plainName y.cls = true) (hA : ∀ q : Nat, H0.size ≤ q → A q) (hn : (lg_sl avs).length ≤ maxL)
    (body : ∀ (p : Program) (e : Env) (s : State) (m : MethodId) (below : List Frame) (meth : Method) (c : Code) (ls : Array Slot), Bd p s m meth c cc maxL ret y.cls g → ZZ bs s H0 → c.exceptionTable.toList = tableOf hh → va_S A H0 H0 [] → s.heap = H0 → lv_has ls maxL (lv_args 0 avs) →
      W p l e rm s m avs.toArray below meth c H0 [] 0 0 (MQ below (mQ H0 A post) avs.toArray s rm.cells rm.slots A) (F0 m 0 ls [])) : CtW l y cc maxL ret hh rm g bs avs H0 A post := by
  unfold CtW Met
  refine MetFree.of_bodyS (code := cc) (maxLocals := maxL) (ret := ret) hy ?_ ?_
  · intro args s m h hn
    obtain ⟨m9, meth, c, hn9, h1, h2, h3, h4, -, h5, h6, -⟩ := Cond.codeWith_spec (atoms_spec (ws := [Cond.codeWith y cc maxL ret hh]) h _ List.mem_cons_self)
    cases hn.symm.trans hn9
    exact ⟨meth, c, h1, h2, h3, h4, h5, h6⟩
  · intro p e s m args below meth c s₁ B hml hP _
    have hh0 : s₁.heap = s.heap := by rw [B.state]; rfl
    have htab := vx_table (x := y) B (atoms_spec (ws := [Cond.codeWith y cc maxL ret hh]) B.pre _ List.mem_cons_self)
    obtain ⟨rfl, hK, hH, hZ⟩ := hP
    subst hH
    have hl := lv_entry avs hn
    have hb := body p e s m below meth c _ ⟨⟨B.exec, B.bytes⟩, hml, B.returns, findClass_of_methodNamed B.named, hK, B.notSynchronized⟩ hZ htab va_S.rf rfl hl
    obtain ⟨t, a1, o, b1, b2, b3⟩ := hb s₁ hh0 (Stand.of_body B)
    rw [← lg_entry_eq] at a1
    exact ⟨t, o, a1, b1, b2, ⟨b3.1, b3.2⟩⟩
section XR
variable {p : Program} {l : Launch} {e : Env} {R : Room} {s : State} {m : MethodId} {args : Array Value} {below : List Frame} {meth : Method} {c : Code} {H : Heap} {locs : List Loc} {cells slots : Nat} {Q : State → Prop}
variable {cc : ByteArray} {maxL : Nat} {ret : Option FieldType} {own : String} {g : GG} {pc : Nat} {ls : Array Slot} {rest : List Value} {A : Nat → Prop} {a : Nat} {H0 : Heap} {bs : Nat}
theorem mx_throw {cls : String} {ik ic mc ms : Nat} {post : Heap → Prop} (hfl : l.stackTraces = false) (hcls : Bundle.fit cls = true) (hk : Cond.classLink "QuiltGuild" ik cls ∈ lw_gn) (hini : Cond.initialized cls ∈ lw_gn) (hat : ∀ w ∈ vx_at0 "QuiltGuild" ic cls xnm, w ∈ lw_gn ∨ w ∈ xN6) (hgood : ∀ w ∈ Cond.classLink "QuiltGuild" ik cls :: Cond.initialized cls :: vx_at0 "QuiltGuild" ic cls xnm, vx_ot w = true)
    (hB : Bd p s m meth c cc maxL ret "QuiltGuild" g) (hZ : ZZ bs s s.heap) (ht : ∀ x ∈ c.exceptionTable.toList, False) (hsh : s.heap = H0) (hS : va_S A H0 H locs) (hAb : ∀ q, A q → bs ≤ q) (hsize : ls.size = maxL)
    (d0 : decode cc pc = .ok (.new ik, 3)) (d3 : decode cc (pc + 3) = .ok (.dup, 1)) (d4 : decode cc (pc + 4) = .ok (.invokespecial ic, 3)) (d7 : decode cc (pc + 7) = .ok (.athrow, 1))
    (hR : 5 < R.frames ∧ 81 ≤ R.locals) (hRc : cells + 1 ≤ R.cells ∧ slots + 6 ≤ R.slots) (hc : cells + 1 ≤ mc ∧ slots + 6 ≤ ms)
    (hp : ∀ H1 : Heap, H.size ≤ H1.size → (∀ q : Nat, q < H.size → H1[q]? = H[q]?) → post H1) :
    W p l e R s m args below meth c H locs cells slots (vx_MQ below xN (xC H0 A cls post) args s mc ms A) (F0 m pc ls []) := by
  subst hsh
  refine vx_throw0 (A := fun q => bs ≤ q) (names := xnm) hB.x hB.b hfl hB.ow hcls (by decide +kernel) (hB.K.2 _ hk args) (hB.K.2 _ hini args) (fun w hw => (hat w hw).elim (fun y => hB.K.2 _ y args) (fun y => va_Nw.use (xN6_on w y) (hZ.2.2.2.2.2.2.2.2 w y))) hgood hZ.1 hZ.2.1 ⟨hS.1, fun q h1 h2 => hS.2.1 q h1 (fun y => h2 (hAb q y)), fun q hq => hAb _ (hS.2.2 q hq)⟩ (hsize.trans hB.ml.symm) d0 d3 d4 d7 (fun x hx => (ht x hx).elim) hR.1 (by show 0 + 81 ≤ _; omega) hRc.1 hRc.2 hB.lk (fun t _ h1 h2 => ⟨rfl, hp _ h1 h2, Nat.le_trans hS.1 h1, fun q h3 h4 => by rw [h2 q (Nat.lt_of_lt_of_le h3 hS.1)]; exact hS.2.1 q h3 h4⟩) hS.2.2 hc.1 hc.2
/-- a callee throws: on with it, over the frame of the call -/
theorem mx_go {avs : List Value} {rm : Room} {A1 : Nat → Prop} {E : String} {post : Heap → Prop} {st0 : List Value} (hr : vx_Run p l e R s m args below meth c H locs cells slots rm.cells rm.slots (F0 m pc ls st0) rest (xN avs.toArray) (xC H A1 E post) A1) (hS : va_S A H0 H locs) (hA : ∀ q, A1 q → A q)
    (kk : ∀ (q : Addr) (H1 : Heap) (locs1 : List Loc) (ce : Cell), post H1 → Fr A1 H H1 → va_S A H0 H1 locs1 → H1[q]? = some ce → ce.vm = .none → s.vm.findClass E = some ce.cls → vx_W p l e R s m args below meth c H1 locs1 (cells + rm.cells) (slots + rm.slots) Q (F0 m pc ls rest) q) : W p l e R s m args below meth c H locs cells slots Q (F0 m pc ls st0) := by
  intro T hT X
  rcases hr T hT X with ⟨v, st₀, t, T', L, h0, X', hL, e1, e2, hq, st⟩ | ⟨q, st₀, t, T', L, E2, ce, h0, X', hL, e1, e2, ⟨rfl, hp, hz, hk⟩, hce, hcv, hcl, st⟩
  · exact hq.elim
  · obtain ⟨t2, a1, b1⟩ := kk q T'.heap (locs ++ L) ce (by rw [e1]; exact hp) (by rw [e1]; exact ⟨hz, hk⟩)
      ⟨Nat.le_trans hS.1 (by rw [e1]; exact hz), fun q h1 h2 => by rw [e1, hk q (Nat.lt_of_lt_of_le h1 hS.1) (fun z => h2 (hA q z))]; exact hS.2.1 q h1 h2, fun q hq => by
        rcases List.mem_append.mp hq with h | h
        · exact hS.2.2 q h
        · exact hA _ (hL q h)⟩ (by rw [e1]; exact hce) hcv hcl T' rfl X'
    exact ⟨t2, st.trans a1, b1⟩
theorem mx_runV {C : String} {T : u_T} {N ci : Nat} {y : MethodName} {bytes : ByteArray} {mxL n index : Nat} {rt : Option FieldType} {rm : Room} {A1 : Nat → Prop} {E : String} {post : Heap → Prop} {b : Nat} {fs As : List Value} (hc : vwCl[ci]? = some (C, T, N)) (hcode : Cond.code y bytes mxL rt ∈ lw_gn) (hini : Cond.initialized y.cls ∈ lw_gn) (hlk : Cond.methodLink own index y ∈ lw_gn) (hinst : Cond.instanceMethod y ∈ lw_gn) (hsel : Cond.selects C y y ∈ lw_gn)
    (hd : y.cls ≠ "java/lang/invoke/MethodHandle" ∧ y.cls ≠ "java/lang/invoke/VarHandle" ∧ (parseMethodDescriptor y.desc).map (fun d => d.parameters.length) = some n)
    (hB : Bd p s m meth c cc maxL ret own g) (hZ : ZZ bs s H) (hM : CtX l y bytes mxL rt rm g bs (.ref b :: As) H A1 E post) (hb0 : at_ g H b (eO ci fs)) (hn : As.length = n) (hsize : ls.size = maxL) (hcat : (rest.map fun v => v.category).sum ≤ 8) (hdg : decode cc pc = .ok (.invokevirtual index, 3)) (hR : rm.frames + 1 ≤ R.frames ∧ 8 + (mxL + 11) + rm.locals ≤ R.locals) (hf : cells + rm.cells ≤ R.cells ∧ slots + rm.slots ≤ R.slots) (hS : va_S A H0 H locs) (hA : ∀ q, A1 q → A q)
    (kk : ∀ (q : Addr) (H1 : Heap) (locs1 : List Loc) (ce : Cell), post H1 → Fr A1 H H1 → va_S A H0 H1 locs1 → H1[q]? = some ce → ce.vm = .none → s.vm.findClass E = some ce.cls → vx_W p l e R s m args below meth c H1 locs1 (cells + rm.cells) (slots + rm.slots) Q (F0 m pc ls rest) q) : W p l e R s m args below meth c H locs cells slots Q (F0 m pc ls (As.reverse ++ .ref b :: rest)) :=
  mx_go (avs := .ref b :: As) (vx_runV (C := C) (As := As) (Ts := []) ⟨hB.x, hB.b, hB.ml, hB.ow, fun _ h => absurd h List.not_mem_nil⟩ hM ⟨mh_cb hB hcode hini hlk hd hR, hB.K.2 _ hinst args, hB.K.2 _ hsel args⟩
    ⟨mPX.blind, va_recv (q0 := 0) (fs := fs) hB.K.1 (va_P1 hb0) hc rfl, fun U hU hW => ⟨rfl, KK.moved hW hB.K, hU, hZ.moved hW⟩⟩ rfl hn hsize rfl (lv_room hcat) hdg hf) hS hA kk
theorem mx_runS {y : MethodName} {bytes : ByteArray} {mxL n index : Nat} {rt : Option FieldType} {rm : Room} {A1 : Nat → Prop} {E : String} {post : Heap → Prop} {As : List Value} (hcode : Cond.code y bytes mxL rt ∈ lw_gn) (hini : Cond.initialized y.cls ∈ lw_gn) (hlk : Cond.methodLink own index y ∈ lw_gn) (hstat : Cond.static y ∈ lw_gn)
    (hd : y.cls ≠ "java/lang/invoke/MethodHandle" ∧ y.cls ≠ "java/lang/invoke/VarHandle" ∧ (parseMethodDescriptor y.desc).map (fun d => d.parameters.length) = some n)
    (hB : Bd p s m meth c cc maxL ret own g) (hZ : ZZ bs s H) (hM : CtX l y bytes mxL rt rm g bs As H A1 E post) (hn : As.length = n) (hsize : ls.size = maxL) (hcat : (rest.map fun v => v.category).sum ≤ 8) (hdg : decode cc pc = .ok (.invokestatic index, 3)) (hR : rm.frames + 1 ≤ R.frames ∧ 8 + (mxL + 11) + rm.locals ≤ R.locals) (hf : cells + rm.cells ≤ R.cells ∧ slots + rm.slots ≤ R.slots) (hS : va_S A H0 H locs) (hA : ∀ q, A1 q → A q)
    (kk : ∀ (q : Addr) (H1 : Heap) (locs1 : List Loc) (ce : Cell), post H1 → Fr A1 H H1 → va_S A H0 H1 locs1 → H1[q]? = some ce → ce.vm = .none → s.vm.findClass E = some ce.cls → vx_W p l e R s m args below meth c H1 locs1 (cells + rm.cells) (slots + rm.slots) Q (F0 m pc ls rest) q) : W p l e R s m args below meth c H locs cells slots Q (F0 m pc ls (As.reverse ++ rest)) :=
  mx_go (avs := As) (vx_runS (As := As) (Ts := []) ⟨hB.x, hB.b, hB.ml, hB.ow, fun _ h => absurd h List.not_mem_nil⟩ hM ⟨mh_cb hB hcode hini hlk hd hR, hB.K.2 _ hstat args⟩
    ⟨mPX.blind, fun U hU hW => ⟨rfl, KK.moved hW hB.K, hU, hZ.moved hW⟩⟩ rfl hn hsize rfl (lv_room hcat) hdg hf) hS hA kk
/-- it goes on to the caller -/
theorem mx_out {E : String} {post : Heap → Prop} {ce : Cell} {q : Addr} {mc ms : Nat} (ht : ∀ x ∈ c.exceptionTable.toList, False) (hB : Bd p s m meth c cc maxL ret own g) (hce : H[q]? = some ce) (hcv : ce.vm = .none) (hcl : s.vm.findClass E = some ce.cls) (hS : va_S A H0 H locs) (hc : cells ≤ mc ∧ slots ≤ ms) (hp : post H) :
    vx_W p l e R s m args below meth c H locs cells slots (vx_MQ below xN (xC H0 A E post) args s mc ms A) (F0 m pc ls rest) q :=
  vx_out (fun x hx => (ht x hx).elim) hB.lk hce hcv hcl (fun t h1 _ => ⟨rfl, by rw [h1]; exact hp, by rw [h1]; exact ⟨hS.1, hS.2.1⟩⟩) hS.2.2 hc.1 hc.2
end XR
