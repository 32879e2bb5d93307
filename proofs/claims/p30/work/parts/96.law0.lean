/-! the law: its start, the object from outside, its cells -/
theorem ArrO_of {s : State} {args : Array Value} {ty : FieldType} (hno : ∀ C, ty ≠ .object C) (h : (Cond.arrayClass ty).before args s = true) : ∃ c : ClassId, ArrOfT s c ty ∧ va_RA s c ty := by
  obtain ⟨c, k, comp, h1, h2, h3⟩ := Cond.arrayClass_spec h
  refine ⟨c, fun n z => ⟨fun k9 h9 => (by cases h9), k, h2, comp, h3⟩, ?_⟩
  cases ty with
  | object C => exact absurd rfl (hno C)
  | _ => exact h1
theorem ArrO_ov {s : State} {args : Array Value} {C : String} (h : (Cond.arrayOver (.object C)).before args s = true) : ∃ c : ClassId, ArrOfT s c (.object C) ∧ va_RA s c (.object C) := by
  obtain ⟨comp, c, k, h1, h2, h3, h4, h5⟩ := Cond.arrayOver_spec h
  exact ⟨c, fun n z => ⟨fun k9 h9 => (by cases h9), k, h3, comp, h4⟩, k, comp, h3, h4, h1, h5⟩
theorem KK_start {b : Addr} {s : State} (hts : ∀ w ∈ lw_tbl, w.before #[Value.ref b] s = true) : ∃ g : GG, KK g s := by
  have htb : TB s := TB.of (State.WarmedH.refl s) hts
  have ht : ∀ w ∈ lw_gn, w.before #[Value.ref b] s = true := fun w h => htb w h _
  obtain ⟨c0, i0, k0⟩ := u_known ht ig_X0 (ht _ kw_106)
  obtain ⟨c1, i1, k1⟩ := u_known ht ig_X1 (ht _ kw_133)
  obtain ⟨c2, i2, k2⟩ := u_known ht ig_X2 (ht _ kw_183)
  obtain ⟨c3, i3, k3⟩ := u_known ht ig_X3 (ht _ kw_80)
  obtain ⟨c4, i4, k4⟩ := u_known ht ig_X4 (ht _ kw_625)
  obtain ⟨c5, i5, k5⟩ := u_known ht ig_X5 (ht _ kw_202)
  obtain ⟨c6, i6, k6⟩ := u_known ht ig_X8 (ht _ kw_69)
  obtain ⟨c7, i7, k7⟩ := u_known ht ig_X9 (ht _ kw_28)
  obtain ⟨c8, i8, k8⟩ := u_known ht ig_X10 (ht _ kw_20)
  obtain ⟨t0, u0, v0⟩ := ArrO_of (ty := .int) (fun C h => by cases h) (ht _ kw_67)
  obtain ⟨t1, u1, v1⟩ := ArrO_of (ty := .byte) (fun C h => by cases h) (ht _ kw_714)
  obtain ⟨t2, u2, v2⟩ := ArrO_of (ty := .boolean) (fun C h => by cases h) (ht _ kw_217)
  obtain ⟨t3, u3, v3⟩ := ArrO_of (ty := .int) (fun C h => by cases h) (ht _ kw_67)
  obtain ⟨t4, u4, v4⟩ := ArrO_ov (C := RX3) (ht _ kw_75)
  obtain ⟨t5, u5, v5⟩ := ArrO_ov (C := RX0) (ht _ kw_77)
  obtain ⟨t6, u6, v6⟩ := ArrO_ov (C := RX1) (ht _ kw_79)
  obtain ⟨t7, u7, v7⟩ := ArrO_ov (C := RX8) (ht _ kw_189)
  refine ⟨((fun k => match k with | 0 => c0 | 1 => c1 | 2 => c2 | 3 => c3 | 4 => c4 | 5 => c5 | 6 => c6 | 7 => c7 | _ => c8, fun k => match k with | 0 => i0 | 1 => i1 | 2 => i2 | 3 => i3 | 4 => i4 | 5 => i5 | 6 => i6 | 7 => i7 | _ => i8), fun k => match k with | 0 => t0 | 1 => t1 | 2 => t2 | 3 => t3 | 4 => t4 | 5 => t5 | 6 => t6 | _ => t7), ⟨fun k q hq => ?_, fun k q hq => ?_⟩, htb⟩
  · match k, hq with
    | 0, hq => cases hq; exact k0
    | 1, hq => cases hq; exact k1
    | 2, hq => cases hq; exact k2
    | 3, hq => cases hq; exact k3
    | 4, hq => cases hq; exact k4
    | 5, hq => cases hq; exact k5
    | 6, hq => cases hq; exact k6
    | 7, hq => cases hq; exact k7
    | 8, hq => cases hq; exact k8
    | k + 9, hq => simp [vwCl] at hq
  · match k, hq with
    | 0, hq => cases hq; exact ⟨u0, v0⟩
    | 1, hq => cases hq; exact ⟨u1, v1⟩
    | 2, hq => cases hq; exact ⟨u2, v2⟩
    | 3, hq => cases hq; exact ⟨u3, v3⟩
    | 4, hq => cases hq; exact ⟨u4, v4⟩
    | 5, hq => cases hq; exact ⟨u5, v5⟩
    | 6, hq => cases hq; exact ⟨u6, v6⟩
    | 7, hq => cases hq; exact ⟨u7, v7⟩
    | k + 8, hq => simp [tysA] at hq
/-! the class's object, from outside -/
section CLSO
variable {g : GG} {xb lim : Nat} {q : Nat → Int32} {n : Nat} {rm sl sv tx : Nat → Int32} {ln : Nat} {H H1 : Heap}
theorem CLS.ob (h : CLS g xb lim q n rm sl sv tx ln H) : at_ g H xb (eO 8 [.ref (xb + 1), .ref (xb + 10), .ref (xb + 36), .ref (xb + 62), .ref (xb + 64), .ref (xb + 65)]) := by
  obtain ⟨D, P, T, Zr, Pr, zt, Pt, nx, hCi⟩ := h
  exact hCi.1
theorem CLS.wf (h : CLS g xb lim q n rm sl sv tx ln H) : WF q := by
  obtain ⟨D, P, T, Zr, Pr, zt, Pt, nx, a1, a2, a3, a4, a5, a6, a7, a8, a9, a10, a11, a12, a13, a14, a15, a16, a17, a18, a19⟩ := h
  exact a15
theorem CLS.wz (h : CLS g xb lim q n rm sl sv tx ln H) : WZ q := by
  obtain ⟨D, P, T, Zr, Pr, zt, Pt, nx, a1, a2, a3, a4, a5, a6, a7, a8, a9, a10, a11, a12, a13, a14, a15, a16, a17, a18, a19⟩ := h
  exact a16
theorem CLS.n14 (h : CLS g xb lim q n rm sl sv tx ln H) : n ≤ 14 := by
  obtain ⟨D, P, T, Zr, Pr, zt, Pt, nx, a1, a2, a3, a4, a5, a6, a7, a8, a9, a10, a11, a12, a13, a14, a15, a16, a17, a18, a19⟩ := h
  exact a11.2.1
theorem CLS.l60 (h : CLS g xb lim q n rm sl sv tx ln H) : ln ≤ 60 := by
  obtain ⟨D, P, T, Zr, Pr, zt, Pt, nx, a1, a2, a3, a4, a5, a6, a7, a8, a9, a10, a11, a12, a13, a14, a15, a16, a17, a18, a19⟩ := h
  exact a19
theorem CLS.lsz (h : CLS g xb lim q n rm sl sv tx ln H) : xb + 68 ≤ lim ∧ lim ≤ H.size := by
  obtain ⟨D, P, T, Zr, Pr, zt, Pt, nx, a1, a2, a3, a4, a5, a6, a7, a8, a9, a10, a11, a12, a13, a14, a15, a16, a17, a18, a19⟩ := h
  exact ⟨a17, a18⟩
theorem CLS.sv2 {k : Nat} (h : CLS g xb lim q n rm sl sv tx ln H) (hk : k < 2) : sv k = nI 1 ∨ sv k = nI 0 := by
  obtain ⟨D, P, T, Zr, Pr, zt, Pt, nx, a1, a2, a3, a4, a5, a6, a7, a8, a9, a10, a11, a12, a13, a14, a15, a16, a17, a18, a19⟩ := h
  exact (a12 k hk).elim (fun y => Or.inl y.1) (fun y => Or.inr y.1)
/-- what lies between the class's cells and lim may change -/
theorem CLS.keptA (h : CLS g xb lim q n rm sl sv tx ln H) (hz : H.size ≤ H1.size) (hk : ∀ a : Nat, a < H.size → a < xb + 68 ∨ lim ≤ a → H1[a]? = H[a]?) : CLS g xb lim q n rm sl sv tx ln H1 := by
  obtain ⟨D, P, T, Zr, Pr, zt, Pt, nx, a1, a2, a3, a4, a5, a6, a7, a8, a9, a10, a11, a12, a13, a14, a15, a16, a17, a18, a19⟩ := h
  have hk2 : ∀ a : Nat, ¬ D a → a < H.size → H1[a]? = H[a]? := fun a hd ha => hk a ha (by
    by_cases y : a < xb + 68 ∨ lim ≤ a
    · exact y
    · exact absurd (a13 a (by omega) (by omega)) hd)
  exact ⟨D, P, T, Zr, Pr, zt, Pt, nx, a1.kept (hk _ a1.lt (by omega)), a2.kept (fun q9 b1 b2 => hk q9 (by omega) (by omega)), a3.kept (fun q9 b1 b2 => hk q9 (by omega) (by omega)), a4.kept hk2, a5.kept (fun q9 b1 b2 => hk q9 (by omega) (by omega)), a6.kept (hk _ a6.lt (by omega)), a7.kept (hk _ a7.lt (by omega)), a8.kept (hk _ a8.lt (by omega)), a9.kept (fun q9 b1 b2 => hk q9 (by omega) (by omega)), a10.kept (fun q9 b1 b2 => hk q9 b2 (by omega)), a11.kept hk2, a12.kept hk2, a13, fun q9 b1 => Nat.lt_of_lt_of_le (a14 q9 b1) hz, a15, a16, a17, Nat.le_trans a18 hz, a19⟩
theorem CLS.keptM {F : Nat → Prop} (h : CLS g xb lim q n rm sl sv tx ln H) (hf : Fr (ftA F H.size) H H1) (hF : ∀ a, F a → xb + 68 ≤ a ∧ a < lim) : CLS g xb lim q n rm sl sv tx ln H1 := h.keptA hf.1 (fun a ha hb => hf.2 a ha (fun y => y.elim (fun y => by have := hF a y; omega) (fun y => by omega)))
theorem CLS.keptO {a : Nat} (h : CLS g xb lim q n rm sl sv tx ln H) (ho : ∀ q : Nat, q ≠ a → H1[q]? = H[q]?) (hz : H1.size = H.size) (ha : xb + 68 ≤ a ∧ a < lim) : CLS g xb lim q n rm sl sv tx ln H1 := h.keptA (by omega) (fun a9 _ hb => ho a9 (by omega))
theorem CLS.keptX (h : CLS g xb lim q n rm sl sv tx ln H) (hf : Fr (ftA (fun _ => False) H.size) H H1) : CLS g xb lim q n rm sl sv tx ln H1 := h.keptM hf (fun _ y => y.elim)
end CLSO
/-! the script: a contract that asks for it -/
def mPX (g : GG) (b L : Nat) (xs : Nat → Int32) (avs : List Value) (H0 : Heap) : Array Value → State → Prop := fun v U => mP g avs H0 v U ∧ va_X b L xs U H0
theorem mPX.blind {g : GG} {b L : Nat} {xs : Nat → Int32} {avs : List Value} {H0 : Heap} : FrameBlind (mPX g b L xs avs H0) := fun v U a d h => ⟨mP.blind v U a d h.1, va_X.moved (u := U) (State.WarmedH.refl U).alike h.2⟩
def CtY (l : Launch) (y : MethodName) (cc : ByteArray) (maxL : Nat) (ret : Option FieldType) (rm : Room) (g : GG) (b L : Nat) (xs : Nat → Int32) (avs : List Value) (H0 : Heap) (A : Nat → Prop) (post : Option Value → Heap → Prop) : Prop :=
  Met l y [.code y cc maxL ret] rm (mPX g b L xs avs H0) (mQ H0 A post) rm.cells rm.slots A
section LY
variable {p : Program} {l : Launch} {e : Env} {R : Room} {s : State} {m : MethodId} {args : Array Value} {below : List Frame} {meth : Method} {c : Code} {H : Heap} {locs : List Loc} {cells slots : Nat} {Q : State → Prop}
variable {cc : ByteArray} {maxL : Nat} {ret : Option FieldType} {own : String} {g : GG} {pc : Nat} {ls : Array Slot} {rest : List Value} {A : Nat → Prop} {H0 : Heap} {b L : Nat} {xs : Nat → Int32}
theorem mr_ldci (hexec : p.tables.exec = Jvm.exec) (hb9 : c.code = cc) {index : Nat} {v : Int32} (hown : s.vm.findClass own = some m.cls) (hconst : (Jvm.Cond.constant own index v).before args s = true) (hdg : decode cc pc = .ok (.ldc index, 2)) (k : W p l e R s m args below meth c H locs cells slots Q (F0 m (pc + 2) ls (.int v :: rest))) : W p l e R s m args below meth c H locs cells slots Q (F0 m pc ls rest) := by
  intro T hT X
  obtain ⟨t, a, d⟩ := k T hT X
  exact ⟨t, X.ldcInt hexec hown hconst (g := F0 m pc ls rest) rfl (by rw [hb9]; exact hdg) t a, d⟩
theorem mh_callSY {y : MethodName} {bytes : ByteArray} {mxL n index : Nat} {rt : Option FieldType} {rm : Room} {A1 : Nat → Prop} {post : Option Value → Heap → Prop} {As : List Value} (hcode : Cond.code y bytes mxL rt ∈ lw_gn) (hini : Cond.initialized y.cls ∈ lw_gn) (hlk : Cond.methodLink own index y ∈ lw_gn) (hstat : Cond.static y ∈ lw_gn)
    (hd : y.cls ≠ "java/lang/invoke/MethodHandle" ∧ y.cls ≠ "java/lang/invoke/VarHandle" ∧ (parseMethodDescriptor y.desc).map (fun d => d.parameters.length) = some n)
    (hB : Bd p s m meth c cc maxL ret own g) (hX : va_X b L xs s H) (hM : CtY l y bytes mxL rt rm g b L xs As H A1 post) (hn : As.length = n) (hsize : ls.size = maxL) (hcat : (rest.map fun v => v.category).sum ≤ 8) (hdg : decode cc pc = .ok (.invokestatic index, 3)) (hR : rm.frames + 1 ≤ R.frames ∧ 8 + (mxL + 11) + rm.locals ≤ R.locals) (hf : cells + rm.cells ≤ R.cells ∧ slots + rm.slots ≤ R.slots) (hS : va_S A H0 H locs) (hA : ∀ q, A1 q → A q)
    (kk : ∀ (v : Option Value) (H1 : Heap) (locs1 : List Loc), post v H1 → Fr A1 H H1 → va_S A H0 H1 locs1 → W p l e R s m args below meth c H1 locs1 (cells + rm.cells) (slots + rm.slots) Q (F0 m (pc + 3) ls (v.toList ++ rest))) : W p l e R s m args below meth c H locs cells slots Q (F0 m pc ls (As.reverse ++ rest)) :=
  mh_go (avs := As) (va_runS (As := As) (Ts := []) ⟨hB.x, hB.b, hB.ml, hB.ow, fun _ h => absurd h List.not_mem_nil⟩ hM ⟨mh_cb hB hcode hini hlk hd hR, hB.K.2 _ hstat args⟩
    ⟨mPX.blind, fun U hU hW => ⟨⟨rfl, KK.moved hW hB.K, hU⟩, va_X.moved hW.alike hX⟩⟩ rfl hn hsize rfl (lv_room hcat) hdg hf) hS hA kk
end LY
theorem CtY.of {l : Launch} {y : MethodName} {cc : ByteArray} {maxL : Nat} {ret : Option FieldType} {rm : Room} {g : GG} {b L : Nat} {xs : Nat → Int32} {avs : List Value} {H0 : Heap} {A : Nat → Prop} {post : Option Value → Heap → Prop} (hy : plainName y.cls = true) (hn : (lg_sl avs).length ≤ maxL)
    (body : ∀ (p : Program) (e : Env) (s : State) (m : MethodId) (below : List Frame) (meth : Method) (c : Code) (ls : Array Slot), Bd p s m meth c cc maxL ret y.cls g → va_X b L xs s H0 → va_S A H0 H0 [] → s.heap = H0 → lv_has ls maxL (lv_args 0 avs) →
      W p l e rm s m avs.toArray below meth c H0 [] 0 0 (MQ below (mQ H0 A post) avs.toArray s rm.cells rm.slots A) (F0 m 0 ls [])) : CtY l y cc maxL ret rm g b L xs avs H0 A post := by
  refine Met.ofW (cc := cc) (maxL := maxL) (ret := ret) hy rfl ?_
  intro p e s m args below meth c s₁ B hml hv
  obtain ⟨⟨rfl, hK, rfl⟩, hX⟩ := hv
  have hl := lv_entry avs hn
  rw [lg_entry_eq]
  generalize (lg_sl avs ++ List.replicate (maxL - (lg_sl avs).length) Slot.unset).toArray = ls at hl ⊢
  exact body p e s m below meth c ls ⟨⟨B.exec, B.bytes⟩, hml, B.returns, findClass_of_methodNamed B.named, hK, B.notSynchronized⟩ hX va_S.rf rfl hl
theorem and31 (x : Int32) : ∃ k, k < 2147483648 ∧ x &&& 2147483647 = nI k := by
  refine ⟨(x &&& 2147483647).toUInt32.toNat, ?_, ?_⟩
  · rw [Int32.toUInt32_and, UInt32.toNat_and]
    exact Nat.lt_of_le_of_lt Nat.and_le_right (by decide)
  · generalize x &&& 2147483647 = y
    show y = Int32.ofNat y.toUInt32.toNat
    obtain ⟨u⟩ := y
    exact congrArg Int32.ofUInt32 UInt32.ofNat_toNat.symm
def rm_c_L_cell : Room := { frames := 0, cells := 0, slots := 0, locals := 0 }
set_option maxRecDepth 100000 in
theorem c_L_cell (l : Launch) (g : GG) (H0 : Heap) (b L : Nat) (xs : Nat → Int32) (k : Nat) (hbl : b < H0.size) (hL : L ≤ 260) (hk : k < 1000) : CtY l yL_cell cL_cell 2 (some .int) rm_c_L_cell g b L xs [.ref b, .int (nI k)] H0 (ftA (fun _ => False) H0.size) (fun v H1 => ∃ y9, y9 < 2147483648 ∧ v = some (.int (nI y9)) ∧ H0 = H1) := by
  refine CtY.of (by decide) (Nat.le_of_ble_eq_true rfl) ?_
  intro p e s m below meth c ls hB hX hS hH hl
  have hx := hB.x
  have hb := hB.b
  have hl : lv_has ls 2 [(0, .ref b), (1, .int (nI k))] := hl
  have hbA : ¬ ftA (fun _ => False) H0.size b := fun y9 => y9.elim id (fun z9 => by omega)
  have hE : ∀ x : Int32, W p l e rm_c_L_cell s m #[Value.ref b, Value.int (nI k)] below meth c H0 [] 0 0 (MQ below (mQ H0 (ftA (fun _ => False) H0.size) (fun v H1 => ∃ y9, y9 < 2147483648 ∧ v = some (.int (nI y9)) ∧ H0 = H1)) #[Value.ref b, Value.int (nI k)] s 0 0 (ftA (fun _ => False) H0.size)) (F0 m 20 ls [.int x]) := fun x => by
    refine mr_ldci hx hb hB.ow (hB.K.2 _ kw_563 _) dL_cell_20 ?_
    refine lv_iand hx hb dL_cell_22 ?_
    obtain ⟨y9, hy, e9⟩ := and31 x
    exact mh_iret hB ⟨Nat.le_refl _, Nat.le_refl _⟩ hS dL_cell_23 ⟨y9, hy, by rw [e9], rfl⟩
  refine lv_iload_n hx hb dL_cell_0 rfl (lv_at hl 1 rfl) ?_
  refine lv_aload_n hx hb dL_cell_1 rfl (lv_at hl 0 rfl) ?_
  refine va_slen hx hb hX hbl hbA hS dL_cell_2 ?_
  refine lv_icmp_ge (tgt := 12) hx hb dL_cell_3 (by decide) (fun h9 => ?_) (fun h9 => ?_)
  · refine mr_ldci hx hb hB.ow (hB.K.2 _ kw_562 _) dL_cell_12 ?_
    refine lv_iload_n hx hb dL_cell_14 rfl (lv_at hl 1 rfl) ?_
    refine lv_imul hx hb dL_cell_15 ?_
    refine lv_sipush (v := 1031) hx hb dL_cell_16 (by decide +kernel) ?_
    refine lv_iadd hx hb dL_cell_19 ?_
    exact hE _
  · have hkL : k < L := Nat.lt_of_not_le (fun z9 => h9 (nI_le z9 (by omega)))
    refine lv_aload_n hx hb dL_cell_6 rfl (lv_at hl 0 rfl) ?_
    refine lv_iload_n hx hb dL_cell_7 rfl (lv_at hl 1 rfl) ?_
    refine va_sld hx hb hX hbl hbA hS (vp_in_nI hkL (by omega)) dL_cell_8 ?_
    refine lv_goto (tgt := 20) hx hb dL_cell_9 (by decide) ?_
    exact hE _
