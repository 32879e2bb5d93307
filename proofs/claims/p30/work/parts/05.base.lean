/-! own base: the heap read cell by cell; contracts of methods over a heap that is named -/
def TB (U : State) : Prop := ∀ w ∈ lw_gn, ∀ A : Array Value, w.before A U = true
theorem TB.of {s U : State} (hW : s.WarmedH U.vm) {b : Addr} (h : ∀ w ∈ lw_tbl, w.before #[Value.ref b] s = true) : TB U := by
  intro w hw A
  obtain ⟨h1, h2⟩ := List.mem_filter.mp hw
  have h3 := h w h1
  by_cases hg : goodWord w = true
  · exact word_at hW (good_of_word hg) h3
  · have hn : isNestW w = true := by
      simp only [gnW, Bool.or_eq_true] at h2
      exact h2.resolve_left hg
    cases w with
    | fieldLinkNest a i b n d h => exact va_Nw.use rfl (va_Nw.warmF hW (va_Nw.of rfl h3))
    | methodLinkNest a i x h => exact va_Nw.use rfl (va_Nw.warmM hW (va_Nw.of rfl h3))
    | arrayOver t =>
      cases t with
      | object C => exact va_AO.use (va_AO.moved hW.alike (va_AO.of h3))
      | _ => cases hn
    | _ => cases hn
theorem TB.moved {s U : State} (hW : s.WarmedH U.vm) (h : TB s) : TB U := by
  intro w hw A
  obtain ⟨h1, h2⟩ := List.mem_filter.mp hw
  have h3 := h w hw #[]
  by_cases hg : goodWord w = true
  · exact word_at hW (good_of_word hg) h3
  · have hn : isNestW w = true := by
      simp only [gnW, Bool.or_eq_true] at h2
      exact h2.resolve_left hg
    cases w with
    | fieldLinkNest a i b n d h => exact va_Nw.use rfl (va_Nw.warmF hW h3)
    | methodLinkNest a i x h => exact va_Nw.use rfl (va_Nw.warmM hW h3)
    | arrayOver t =>
      cases t with
      | object C => exact va_AO.use (va_AO.moved hW.alike (va_AO.of h3))
      | _ => cases hn
    | _ => cases hn
def tysA (cs : Nat → ClassId) : List (ClassId × FieldType) := [(cs 0, .int), (cs 1, .byte), (cs 2, .boolean), (cs 3, .int), (cs 4, .object RX3), (cs 5, .object RX0), (cs 6, .object RX1), (cs 7, .object RX8)]
abbrev GG : Type := va_G × (Nat → ClassId)
def KK (g : GG) (U : State) : Prop := va_K g.1 vwCl (tysA g.2) U ∧ TB U
theorem KK.moved {g : GG} {s U : State} (hW : s.WarmedH U.vm) (h : KK g s) : KK g U := ⟨va_K.moved hW.alike h.1, h.2.moved hW⟩
/-- what is at an address -/
abbrev at_ (g : GG) (H : Heap) (a : Nat) (e : va_E) : Prop := va_at g.1 vwCl (a, e) H
abbrev eO (ci : Nat) (fs : List Value) : va_E := .inr (ci, fs)
abbrev eI (g : GG) (n : Nat) (f : Nat → Int32) : va_E := .inl (g.2 0, n, .inl f)
abbrev eB (g : GG) (n : Nat) (f : Nat → Int32) : va_E := .inl (g.2 1, n, .inl f)
abbrev eZ (g : GG) (n : Nat) (f : Nat → Int32) : va_E := .inl (g.2 2, n, .inl f)
abbrev eL (g : GG) (n : Nat) (f : Nat → Int64) : va_E := .inl (g.2 3, n, .inr (.inl f))
abbrev eQ (g : GG) (k : Nat) (n : Nat) (f : Nat → Option Nat) : va_E := .inl (g.2 k, n, .inr (.inr (.inr (.inr f))))
theorem at_.kept {g : GG} {H H1 : Heap} {a : Nat} {e : va_E} (h : at_ g H a e) (hq : H1[a]? = H[a]?) : at_ g H1 a e := va_at.kept (q := (a, e)) h hq
theorem at_.lt {g : GG} {H : Heap} {a : Nat} {e : va_E} (h : at_ g H a e) : a < H.size := va_at.lt (q := (a, e)) h
theorem va_P1 {g : GG} {H : Heap} {a : Nat} {e : va_E} (h : at_ g H a e) : va_P g.1 vwCl [(a, e)] H := by
  intro k q hk
  cases k with
  | zero => cases hk; exact h
  | succ k => simp at hk
/-- the frame: what is outside A stays -/
def Fr (A : Nat → Prop) (H0 H1 : Heap) : Prop := H0.size ≤ H1.size ∧ ∀ q : Nat, q < H0.size → ¬ A q → H1[q]? = H0[q]?
theorem Fr.rf {A : Nat → Prop} {H : Heap} : Fr A H H := ⟨Nat.le_refl _, fun _ _ _ => rfl⟩
theorem Fr.atk {A : Nat → Prop} {H0 H1 : Heap} (h : Fr A H0 H1) {g : GG} {a : Nat} {e : va_E} (h1 : at_ g H0 a e) (ha : ¬ A a) : at_ g H1 a e := h1.kept (h.2 a h1.lt ha)
def mQ (H0 : Heap) (A : Nat → Prop) (post : Option Value → Heap → Prop) : Array Value → State → Outcome → State → Prop := fun _ _ oc t => ∃ v, oc = .returned v ∧ post v t.heap ∧ Fr A H0 t.heap
def mP (g : GG) (avs : List Value) (H0 : Heap) : Array Value → State → Prop := fun v U => v = avs.toArray ∧ KK g U ∧ U.heap = H0
def Ct (l : Launch) (y : MethodName) (cc : ByteArray) (maxL : Nat) (ret : Option FieldType) (rm : Room) (g : GG) (avs : List Value) (H0 : Heap) (A : Nat → Prop) (post : Option Value → Heap → Prop) : Prop :=
  Met l y [.code y cc maxL ret] rm (mP g avs H0) (mQ H0 A post) rm.cells rm.slots A
theorem mP.blind {g : GG} {avs : List Value} {H0 : Heap} : FrameBlind (mP g avs H0) := fun _ U _ _ h => ⟨h.1, KK.moved (U := U.calling _ _ _) (State.WarmedH.refl U) h.2.1, h.2.2⟩
/-- what a method's own body knows -/
def Bd (p : Program) (s : State) (m : MethodId) (meth : Method) (c : Code) (cc : ByteArray) (maxL : Nat) (ret : Option FieldType) (own : String) (g : GG) : Prop :=
  (p.tables.exec = Jvm.exec ∧ c.code = cc) ∧ c.maxLocals = maxL ∧ meth.sig.returnType = ret ∧ s.vm.findClass own = some m.cls ∧ KK g s ∧ meth.locks = false
theorem Ct.of {l : Launch} {y : MethodName} {cc : ByteArray} {maxL : Nat} {ret : Option FieldType} {rm : Room} {g : GG} {avs : List Value} {H0 : Heap} {A : Nat → Prop} {post : Option Value → Heap → Prop} (hy : plainName y.cls = true) (hA : ∀ q : Nat, H0.size ≤ q → A q) (hn : (lg_sl avs).length ≤ maxL)
    (body : ∀ (p : Program) (e : Env) (s : State) (m : MethodId) (below : List Frame) (meth : Method) (c : Code) (ls : Array Slot), Bd p s m meth c cc maxL ret y.cls g → (meth.name = y.name) → va_S A H0 H0 [] → s.heap = H0 → lv_has ls maxL (lv_args 0 avs) →
      W p l e rm s m avs.toArray below meth c H0 [] 0 0 (MQ below (mQ H0 A post) avs.toArray s rm.cells rm.slots A) (F0 m 0 ls [])) : Ct l y cc maxL ret rm g avs H0 A post := by
  refine Met.ofW (cc := cc) (maxL := maxL) (ret := ret) hy rfl ?_
  intro p e s m args below meth c s₁ B hml hv
  obtain ⟨rfl, hK, rfl⟩ := hv
  have hl := lv_entry avs hn
  rw [lg_entry_eq]
  generalize (lg_sl avs ++ List.replicate (maxL - (lg_sl avs).length) Slot.unset).toArray = ls at hl ⊢
  exact body p e s m below meth c ls ⟨⟨B.exec, B.bytes⟩, hml, B.returns, findClass_of_methodNamed B.named, hK, B.notSynchronized⟩ (name_of_methodNamed B.named B.method).1 va_S.rf rfl hl
section MH
variable {p : Program} {l : Launch} {e : Env} {R : Room} {s : State} {m : MethodId} {args : Array Value} {below : List Frame} {meth : Method} {c : Code} {H : Heap} {locs : List Loc} {cells slots : Nat} {Q : State → Prop}
variable {cc : ByteArray} {maxL : Nat} {ret : Option FieldType} {own : String} {g : GG} {pc : Nat} {ls : Array Slot} {rest : List Value} {A : Nat → Prop} {a : Nat} {H0 : Heap}
theorem Bd.x (h : Bd p s m meth c cc maxL ret own g) : p.tables.exec = Jvm.exec := h.1.1
theorem Bd.b (h : Bd p s m meth c cc maxL ret own g) : c.code = cc := h.1.2
theorem Bd.ml (h : Bd p s m meth c cc maxL ret own g) : c.maxLocals = maxL := h.2.1
theorem Bd.r (h : Bd p s m meth c cc maxL ret own g) : meth.sig.returnType = ret := h.2.2.1
theorem Bd.ow (h : Bd p s m meth c cc maxL ret own g) : s.vm.findClass own = some m.cls := h.2.2.2.1
theorem Bd.K (h : Bd p s m meth c cc maxL ret own g) : KK g s := h.2.2.2.2.1
theorem Bd.lk (h : Bd p s m meth c cc maxL ret own g) : meth.locks = false := h.2.2.2.2.2
/-- what a write leaves: the cell as it is now, all others, the frame -/
def Wr (g : GG) (A : Nat → Prop) (H0 H : Heap) (a : Nat) (e : va_E) (H1 : Heap) (locs1 : List Loc) : Prop := at_ g H1 a e ∧ (∀ q : Nat, q ≠ a → H1[q]? = H[q]?) ∧ H1.size = H.size ∧ va_S A H0 H1 locs1
theorem mh_get {C : String} {T : u_T} {N ci index : Nat} (hB : Bd p s m meth c cc maxL ret own g) (hc : vwCl[ci]? = some (C, T, N)) (hin : ∀ w ∈ u_ws C T N, w ∈ lw_gn) {fs : List Value} (k : Nat) (hk : k < N) (hlink : Cond.fieldLink own index (T k).1 (T k).2.1 (T k).2.2.1 ∈ lw_gn)
    (ha : at_ g H a (eO ci fs)) {v : Value} (hv : fs[k]? = some v) (hdg : decode cc pc = .ok (.getfield index, 3))
    (kk : W p l e R s m args below meth c H locs cells slots Q (F0 m (pc + 3) ls (v :: rest))) : W p l e R s m args below meth c H locs cells slots Q (F0 m pc ls (.ref a :: rest)) :=
  va_get (D := g.1) (cl := vwCl) (Ts := lw_gn) (ref := (T k).1) hB.x hB.b (fun w h => hB.K.2 w h args) hin hB.ow hB.K.1 (va_P1 ha) 0 rfl hc k hk (hB.K.2 _ hlink args) (fun _ h => h) hv hdg kk
theorem mh_getN {C host : String} {T : u_T} {N ci index : Nat} (hB : Bd p s m meth c cc maxL ret own g) (hc : vwCl[ci]? = some (C, T, N)) (hin : ∀ w ∈ u_ws C T N, w ∈ lw_gn) {fs : List Value} (k : Nat) (hk : k < N) (hlink : Cond.fieldLinkNest own index (T k).1 (T k).2.1 (T k).2.2.1 host ∈ lw_gn)
    (ha : at_ g H a (eO ci fs)) {v : Value} (hv : fs[k]? = some v) (hdg : decode cc pc = .ok (.getfield index, 3))
    (kk : W p l e R s m args below meth c H locs cells slots Q (F0 m (pc + 3) ls (v :: rest))) : W p l e R s m args below meth c H locs cells slots Q (F0 m pc ls (.ref a :: rest)) :=
  va_getN (D := g.1) (cl := vwCl) (Ts := lw_gn) (ref := (T k).1) hB.x hB.b (fun w h => hB.K.2 w h args) hin hB.ow hB.K.1 (va_P1 ha) 0 rfl hc k hk (hB.K.2 _ hlink args) (fun _ h => h) hv hdg kk
theorem mh_put {C : String} {T : u_T} {N ci index : Nat} (hB : Bd p s m meth c cc maxL ret own g) (hc : vwCl[ci]? = some (C, T, N)) (hin : ∀ w ∈ u_ws C T N, w ∈ lw_gn) (ty0 : Nat → FieldType) (hty : ∀ k, k < N → parseFieldDescriptor (T k).2.2.1 = some (ty0 k)) (hnm : ∀ a, a < N → ∀ b, b < N → a ≠ b → (T a).2.1 ≠ (T b).2.1) {fs : List Value} (k : Nat) (hk : k < N) (hlink : Cond.fieldLink own index (T k).1 (T k).2.1 (T k).2.2.1 ∈ lw_gn)
    (hfin : (T k).2.2.2 = false) (ha : at_ g H a (eO ci fs)) (haA : A a) (hS0 : va_S A H0 H locs) {v : Value} (hn : narrow (ty0 k) v = v) (hfit : fits (ty0 k) v = true) (hl : k < fs.length) (hdg : decode cc pc = .ok (.putfield index, 3))
    (kk : ∀ (H1 : Heap) (locs1 : List Loc), Wr g A H0 H a (eO ci (fs.set k v)) H1 locs1 → W p l e R s m args below meth c H1 locs1 cells slots Q (F0 m (pc + 3) ls rest)) : W p l e R s m args below meth c H locs cells slots Q (F0 m pc ls (v :: .ref a :: rest)) := by
  have hts : ∀ w ∈ lw_gn, w.before args s = true := fun w h => hB.K.2 w h args
  have hap := va_apart (own := own) hts hin ty0 hty hnm hB.K.1 hc
  obtain ⟨r, h1, cell, q1, q2, q3, q4⟩ := ha
  have hr : r = (C, T, N) := Option.some.inj (h1.symm.trans hc)
  subst hr
  obtain ⟨hS, hfc, kC, hkC, hkind⟩ := hB.K.1.1 ci _ hc
  obtain ⟨cf, kf, fi, f, hi, hsl⟩ := hS k hk
  have hlay := hts _ (hin _ (u_in_lay hk))
  unfold u_lay at hlay
  rw [if_neg (by rw [hfin]; decide)] at hlay
  have hst := (u_facts hfc hkC (u_lays hts hin hk) hi).1
  have h6 := u_store hfc hkC hkind hlay hi (hty k hk) hn hfit
  refine W.putK hB.x hB.b (f := f) ⟨hB.ow, hB.K.2 _ hlink args, ⟨_, _, _, hi⟩, hst⟩ (by rw [q2]; exact h6) q1 q3 (by rw [hsl]; exact k2_hasslot (q4 k hk)) rfl rfl hdg fun H' e1 e2 e3 => ?_
  rw [hsl] at e1 ⊢
  exact kk H' _ ⟨⟨_, hc, t_OB.to (V := updV (vp_V fs) k v) ⟨_, e1, q2, q3, t_set q4 hap hk v⟩ (fun j _ => vp_updV_set hl v j)⟩, e3, e2, hS0.put e2 e3 haA⟩
theorem mh_putN {C host : String} {T : u_T} {N ci index : Nat} (hB : Bd p s m meth c cc maxL ret own g) (hc : vwCl[ci]? = some (C, T, N)) (hin : ∀ w ∈ u_ws C T N, w ∈ lw_gn) (ty0 : Nat → FieldType) (hty : ∀ k, k < N → parseFieldDescriptor (T k).2.2.1 = some (ty0 k)) (hnm : ∀ a, a < N → ∀ b, b < N → a ≠ b → (T a).2.1 ≠ (T b).2.1) {fs : List Value} (k : Nat) (hk : k < N) (hlink : Cond.fieldLinkNest own index (T k).1 (T k).2.1 (T k).2.2.1 host ∈ lw_gn)
    (hfin : (T k).2.2.2 = false) (ha : at_ g H a (eO ci fs)) (haA : A a) (hS0 : va_S A H0 H locs) {v : Value} (hn : narrow (ty0 k) v = v) (hfit : fits (ty0 k) v = true) (hl : k < fs.length) (hdg : decode cc pc = .ok (.putfield index, 3))
    (kk : ∀ (H1 : Heap) (locs1 : List Loc), Wr g A H0 H a (eO ci (fs.set k v)) H1 locs1 → W p l e R s m args below meth c H1 locs1 cells slots Q (F0 m (pc + 3) ls rest)) : W p l e R s m args below meth c H locs cells slots Q (F0 m pc ls (v :: .ref a :: rest)) := by
  have hts : ∀ w ∈ lw_gn, w.before args s = true := fun w h => hB.K.2 w h args
  have hap := va_apart (own := own) hts hin ty0 hty hnm hB.K.1 hc
  obtain ⟨r, h1, cell, q1, q2, q3, q4⟩ := ha
  have hr : r = (C, T, N) := Option.some.inj (h1.symm.trans hc)
  subst hr
  obtain ⟨hS, hfc, kC, hkC, hkind⟩ := hB.K.1.1 ci _ hc
  obtain ⟨cf, kf, fi, f, hi, hsl⟩ := hS k hk
  have hlay := hts _ (hin _ (u_in_lay hk))
  unfold u_lay at hlay
  rw [if_neg (by rw [hfin]; decide)] at hlay
  have hst := (u_facts hfc hkC (u_lays hts hin hk) hi).1
  have h6 := u_store hfc hkC hkind hlay hi (hty k hk) hn hfit
  refine va_WputK hB.x hB.b (f := f) hB.ow (hB.K.2 _ hlink args) hi hst (by rw [q2]; exact h6) q1 q3 (by rw [hsl]; exact k2_hasslot (q4 k hk)) rfl rfl hdg fun H' e1 e2 e3 => ?_
  rw [hsl] at e1 ⊢
  exact kk H' _ ⟨⟨_, hc, t_OB.to (V := updV (vp_V fs) k v) ⟨_, e1, q2, q3, t_set q4 hap hk v⟩ (fun j _ => vp_updV_set hl v j)⟩, e3, e2, hS0.put e2 e3 haA⟩
theorem mh_putF {T : u_T} {N ci index : Nat} (hB : Bd p s m meth c cc maxL ret own g) (hin2 : meth.name = "<init>") (hc : vwCl[ci]? = some (own, T, N)) (hin : ∀ w ∈ u_ws own T N, w ∈ lw_gn) (ty0 : Nat → FieldType) (hty : ∀ k, k < N → parseFieldDescriptor (T k).2.2.1 = some (ty0 k)) (hnm : ∀ a, a < N → ∀ b, b < N → a ≠ b → (T a).2.1 ≠ (T b).2.1) {fs : List Value} (k : Nat) (hk : k < N) (hlink : Cond.fieldLink own index (T k).1 (T k).2.1 (T k).2.2.1 ∈ lw_gn)
    (hfin : (T k).2.2.2 = true) (hdecl : (T k).1 = own) (ha : at_ g H a (eO ci fs)) (haA : A a) (hS0 : va_S A H0 H locs) {v : Value} (hn : narrow (ty0 k) v = v) (hfit : fits (ty0 k) v = true) (hl : k < fs.length) (hdg : decode cc pc = .ok (.putfield index, 3))
    (kk : ∀ (H1 : Heap) (locs1 : List Loc), Wr g A H0 H a (eO ci (fs.set k v)) H1 locs1 → W p l e R s m args below meth c H1 locs1 cells slots Q (F0 m (pc + 3) ls rest)) : W p l e R s m args below meth c H locs cells slots Q (F0 m pc ls (v :: .ref a :: rest)) := by
  have hts : ∀ w ∈ lw_gn, w.before args s = true := fun w h => hB.K.2 w h args
  have hap := va_apart (own := own) hts hin ty0 hty hnm hB.K.1 hc
  obtain ⟨r, h1, cell, q1, q2, q3, q4⟩ := ha
  have hr : r = (own, T, N) := Option.some.inj (h1.symm.trans hc)
  subst hr
  obtain ⟨hS, hfc, kC, hkC, hkind⟩ := hB.K.1.1 ci _ hc
  obtain ⟨cf, kf, fi, f, hi, hsl⟩ := hS k hk
  have hlay := hts _ (hin _ (u_in_lay hk))
  unfold u_lay at hlay
  rw [if_pos hfin] at hlay
  have hst := (u_facts hfc hkC (u_lays hts hin hk) hi).1
  have hcf : m.cls = cf := by
    obtain ⟨_, _, c', _, _, _, -, -, hf', -, -, -, hown2, -⟩ := Cond.laysFinal_spec hlay
    have e1 : c' = cf := by have := hi.symm.trans hf'; simp at this; exact this.1.symm
    rw [hdecl] at hown2
    rw [← e1]; exact Option.some.inj (hB.ow.symm.trans hown2)
  have h6 := u_fits hfc hkC hkind (Or.inr hlay) hi (hty k hk) hn hfit
  refine W.putFinK hB.x hB.b hB.ow (hB.K.2 _ hlink args) hi hst hcf hin2 (by rw [q2]; exact h6) q1 q3 (by rw [hsl]; exact k2_hasslot (q4 k hk)) rfl rfl hdg fun H' e1 e2 e3 => ?_
  rw [hsl] at e1 ⊢
  exact kk H' _ ⟨⟨_, hc, t_OB.to (V := updV (vp_V fs) k v) ⟨_, e1, q2, q3, t_set q4 hap hk v⟩ (fun j _ => vp_updV_set hl v j)⟩, e3, e2, hS0.put e2 e3 haA⟩
theorem mh_iald (hB : Bd p s m meth c cc maxL ret own g) {n : Nat} {f : Nat → Int32} (ha : at_ g H a (eI g n f)) {i : Int32} (hin : vp_in i n) (hdg : decode cc pc = .ok (.iaload, 1))
    (kk : W p l e R s m args below meth c H locs cells slots Q (F0 m (pc + 1) ls (.int (f i.toNatClampNeg) :: rest))) : W p l e R s m args below meth c H locs cells slots Q (F0 m pc ls (.int i :: .ref a :: rest)) :=
  va_iald hB.x hB.b hB.K.1 (va_P1 ha) 0 0 rfl rfl hin hdg kk
theorem mh_bald (hB : Bd p s m meth c cc maxL ret own g) {n : Nat} {f : Nat → Int32} (ha : at_ g H a (eB g n f)) {i : Int32} (hin : vp_in i n) (hdg : decode cc pc = .ok (.baload, 1))
    (kk : W p l e R s m args below meth c H locs cells slots Q (F0 m (pc + 1) ls (.int (f i.toNatClampNeg) :: rest))) : W p l e R s m args below meth c H locs cells slots Q (F0 m pc ls (.int i :: .ref a :: rest)) :=
  va_bald hB.x hB.b hB.K.1 (va_P1 ha) 0 1 rfl rfl hin hdg kk
theorem mh_zald (hB : Bd p s m meth c cc maxL ret own g) {n : Nat} {f : Nat → Int32} (ha : at_ g H a (eZ g n f)) {i : Int32} (hin : vp_in i n) (hdg : decode cc pc = .ok (.baload, 1))
    (kk : W p l e R s m args below meth c H locs cells slots Q (F0 m (pc + 1) ls (.int (f i.toNatClampNeg) :: rest))) : W p l e R s m args below meth c H locs cells slots Q (F0 m pc ls (.int i :: .ref a :: rest)) :=
  va_zald hB.x hB.b hB.K.1 (va_P1 ha) 0 2 rfl rfl hin hdg kk
theorem mh_qald (k : Nat) {C : String} (hk : (tysA g.2)[k]? = some (g.2 k, .object C)) (hB : Bd p s m meth c cc maxL ret own g) {n : Nat} {f : Nat → Option Nat} (ha : at_ g H a (eQ g k n f)) {i : Int32} (hin : vp_in i n) (hdg : decode cc pc = .ok (.aaload, 1))
    (kk : W p l e R s m args below meth c H locs cells slots Q (F0 m (pc + 1) ls (va_rf (f i.toNatClampNeg) :: rest))) : W p l e R s m args below meth c H locs cells slots Q (F0 m pc ls (.int i :: .ref a :: rest)) :=
  va_aldq hB.x hB.b hB.K.1 (va_P1 ha) 0 k rfl hk hin hdg kk
theorem mh_alen (hB : Bd p s m meth c cc maxL ret own g) (k : Nat) {x : vp_A} {ty : FieldType} (hk : (tysA g.2)[k]? = some (g.2 k, ty)) (ha : at_ g H a (.inl (g.2 k, x))) (hdg : decode cc pc = .ok (.arraylength, 1))
    (kk : W p l e R s m args below meth c H locs cells slots Q (F0 m (pc + 1) ls (.int (nI x.1) :: rest))) : W p l e R s m args below meth c H locs cells slots Q (F0 m pc ls (.ref a :: rest)) :=
  va_alen hB.x hB.b hB.K.1 (va_P1 ha) 0 k rfl hk rfl hdg kk
theorem mh_iast (hB : Bd p s m meth c cc maxL ret own g) {n : Nat} {f : Nat → Int32} (ha : at_ g H a (eI g n f)) (haA : A a) (hS0 : va_S A H0 H locs) {i x : Int32} (hin : vp_in i n) (hdg : decode cc pc = .ok (.iastore, 1))
    (kk : ∀ (H1 : Heap) (locs1 : List Loc), Wr g A H0 H a (eI g n (upd f i.toNatClampNeg x)) H1 locs1 → W p l e R s m args below meth c H1 locs1 cells slots Q (F0 m (pc + 1) ls rest)) : W p l e R s m args below meth c H locs cells slots Q (F0 m pc ls (.int x :: .int i :: .ref a :: rest)) := by
  refine W.iast hB.x hB.b ha ((hB.K.1.2 0 _ rfl).1 n (fun j => .int (f j))) (fun q => by cases q) (by show ¬ (i < 0 ∨ (arrV _ _ _).slots.size ≤ _); rw [arrV_size]; exact hin) rfl rfl hdg fun H1 e z oq => ?_
  refine kk H1 _ ⟨?_, oq, z, hS0.put z oq haA⟩
  show H1[a]? = some (vp_cell _ _)
  rw [e, vp_cell_i, vp_cell_i, arrV_store]
  congr 2
  funext q
  by_cases hq : q = i.toNatClampNeg
  · subst hq
    simp [updV, upd]
  · simp [updV, upd, hq]
theorem mh_bast (hB : Bd p s m meth c cc maxL ret own g) {n : Nat} {f : Nat → Int32} (ha : at_ g H a (eB g n f)) (haA : A a) (hS0 : va_S A H0 H locs) {i x : Int32} (hin : vp_in i n) (hdg : decode cc pc = .ok (.bastore, 1))
    (kk : ∀ (H1 : Heap) (locs1 : List Loc), Wr g A H0 H a (eB g n (upd f i.toNatClampNeg (vp_nar .byte x))) H1 locs1 → W p l e R s m args below meth c H1 locs1 cells slots Q (F0 m (pc + 1) ls rest)) : W p l e R s m args below meth c H locs cells slots Q (F0 m pc ls (.int x :: .int i :: .ref a :: rest)) := by
  refine W.bast hB.x hB.b ha ((hB.K.1.2 1 _ rfl).1 n (fun j => .int (f j))) (fun q => by cases q) (by show ¬ (i < 0 ∨ (arrV _ _ _).slots.size ≤ _); rw [arrV_size]; exact hin) rfl rfl hdg fun H1 e z oq => ?_
  refine kk H1 _ ⟨?_, oq, z, hS0.put z oq haA⟩
  show H1[a]? = some (vp_cell _ _)
  rw [e, vp_cell_i, vp_cell_i, arrV_store]
  congr 2
  funext q
  by_cases hq : q = i.toNatClampNeg
  · subst hq
    simp [updV, upd, vp_nar]
    try rfl
  · simp [updV, upd, hq]
theorem mh_zast (hB : Bd p s m meth c cc maxL ret own g) {n : Nat} {f : Nat → Int32} (ha : at_ g H a (eZ g n f)) (haA : A a) (hS0 : va_S A H0 H locs) {i x : Int32} (hin : vp_in i n) (hdg : decode cc pc = .ok (.bastore, 1))
    (kk : ∀ (H1 : Heap) (locs1 : List Loc), Wr g A H0 H a (eZ g n (upd f i.toNatClampNeg (vp_nar .boolean x))) H1 locs1 → W p l e R s m args below meth c H1 locs1 cells slots Q (F0 m (pc + 1) ls rest)) : W p l e R s m args below meth c H locs cells slots Q (F0 m pc ls (.int x :: .int i :: .ref a :: rest)) := by
  refine W.zast hB.x hB.b ha ((hB.K.1.2 2 _ rfl).1 n (fun j => .int (f j))) (fun q => by cases q) (by show ¬ (i < 0 ∨ (arrV _ _ _).slots.size ≤ _); rw [arrV_size]; exact hin) rfl rfl hdg fun H1 e z oq => ?_
  refine kk H1 _ ⟨?_, oq, z, hS0.put z oq haA⟩
  show H1[a]? = some (vp_cell _ _)
  rw [e, vp_cell_i, vp_cell_i, arrV_store]
  congr 2
  funext q
  by_cases hq : q = i.toNatClampNeg
  · subst hq
    simp [updV, upd, vp_nar]
    try rfl
  · simp [updV, upd, hq]
theorem mh_qast (k : Nat) {C : String} {T : u_T} {N ci : Nat} (hk : (tysA g.2)[k]? = some (g.2 k, .object C)) (hc : vwCl[ci]? = some (C, T, N)) (hB : Bd p s m meth c cc maxL ret own g) {n v : Nat} {f : Nat → Option Nat} {vs : List Value} (ha : at_ g H a (eQ g k n f)) (haA : A a) (hv : at_ g H v (eO ci vs)) (hS0 : va_S A H0 H locs) {i : Int32} (hin : vp_in i n) (hdg : decode cc pc = .ok (.aastore, 1))
    (kk : ∀ (H1 : Heap) (locs1 : List Loc), Wr g A H0 H a (eQ g k n (va_up f i.toNatClampNeg (some v))) H1 locs1 → W p l e R s m args below meth c H1 locs1 cells slots Q (F0 m (pc + 1) ls rest)) : W p l e R s m args below meth c H locs cells slots Q (F0 m pc ls (.ref v :: .int i :: .ref a :: rest)) := by
  have hlt : i.toNatClampNeg < n := Nat.not_le.mp fun q => hin (Or.inr q)
  have h0 : ¬ i < 0 := fun q => hin (Or.inl q)
  obtain ⟨r', hr', cellV, g1, g2, g3, -⟩ := hv
  have hcls := (hB.K.1.1 ci _ hc).2
  obtain ⟨kA, comp, k1, k2, k3, -⟩ := (hB.K.1.2 k _ hk).2
  have hcomp : comp = g.1.1 ci := Option.some.inj (k3.symm.trans hcls.1)
  subst hcomp
  obtain ⟨kC, hkC, -⟩ := hcls.2
  refine W.aast hB.x hB.b ha (fun q h => by cases h) (fun h => by cases h) k1 k2 rfl hkC ⟨h0, by show _ < (arrV _ _ _).slots.size; rw [arrV_size]; exact hlt⟩ g1 (fun q h => by rw [g3] at h; cases h) (by rw [g2]; exact hkC) (by rw [g2]; exact va_assign hcls) rfl rfl hdg fun H1 e z oq => ?_
  refine kk H1 _ ⟨?_, oq, z, hS0.put z oq haA⟩
  show H1[a]? = some (vp_cell _ _)
  rw [e, vp_cell_q, vp_cell_q, arrV_store]
  congr 2
  funext q
  by_cases hq : q = i.toNatClampNeg
  · subst hq
    simp [updV, va_up, va_rf]
  · simp [updV, va_up, hq]
/-- what a new cell leaves: it lies behind all others -/
def Nw (g : GG) (A : Nat → Prop) (H0 H : Heap) (e : va_E) (H1 : Heap) (locs : List Loc) : Prop := at_ g H1 H.size e ∧ (∀ q : Nat, q < H.size → H1[q]? = H[q]?) ∧ H1.size = H.size + 1 ∧ va_S A H0 H1 locs
theorem nw_S {H1 : Heap} (hS : va_S A H0 H locs) (o1 : ∀ q : Nat, q < H.size → H1[q]? = H[q]?) (z1 : H1.size = H.size + 1) : va_S A H0 H1 locs :=
  ⟨Nat.le_trans hS.1 (by omega), fun x h1 h2 => (o1 x (Nat.lt_of_lt_of_le h1 hS.1)).trans (hS.2.1 x h1 h2), hS.2.2⟩
theorem mh_new {C : String} {T : u_T} {N ci index : Nat} (hB : Bd p s m meth c cc maxL ret own g) (hc : vwCl[ci]? = some (C, T, N)) (hin : ∀ w ∈ u_ws C T N, w ∈ lw_gn) (ty : Nat → FieldType) (hty : ∀ k, k < N → parseFieldDescriptor (T k).2.2.1 = some (ty k)) (hcl : Cond.classLink own index C ∈ lw_gn) (hinst : Cond.instantiable C N ∈ lw_gn) (hini : Cond.initialized C ∈ lw_gn)
    {fs : List Value} (hfs : ∀ j, j < N → defaultValue (ty j) = vp_V fs j) (hS : va_S A H0 H locs) (hcells : cells + 1 ≤ R.cells) (hslots : slots + N ≤ R.slots) (hdg : decode cc pc = .ok (.new index, 3))
    (kk : ∀ (H1 : Heap), Nw g A H0 H (eO ci fs) H1 locs → W p l e R s m args below meth c H1 locs (cells + 1) (slots + N) Q (F0 m (pc + 3) ls (.ref H.size :: rest))) : W p l e R s m args below meth c H locs cells slots Q (F0 m pc ls rest) := by
  have hts : ∀ w ∈ lw_gn, w.before args s = true := fun w h => hB.K.2 w h args
  have hKn := hB.K.1.1 ci _ hc
  refine W.newcK hB.x hB.b hB.ow (hts _ hcl) (hts _ hinst) (hts _ hini) rfl hdg hcells hslots hKn.2.1 rfl fun H1 kC hkC e1 z1 o1 => ?_
  exact kk H1 ⟨⟨_, hc, (u_born ty hts hin hKn hkC e1 hty).to hfs⟩, o1, z1, nw_S hS o1 z1⟩
theorem mh_newa (hB : Bd p s m meth c cc maxL ret own g) {atype : ArrayType} (k : Nat) {ty : FieldType} (hty : newarray.typeOf atype = ty) (hk : (tysA g.2)[k]? = some (g.2 k, ty)) (hobj : ∀ C, ty ≠ .object C) (harr : Cond.arrayClass ty ∈ lw_gn)
    {n : Int32} {N' : Nat} {a0 : vp_A} (ha : ∀ cA : ClassId, vp_cell cA a0 = arrV cA N' (fun _ => defaultValue ty)) (hn : ¬ n < 0) (hN : n.toNatClampNeg = N') (hbytes : N' * componentBytes ty ≤ 536870912) (hS : va_S A H0 H locs) (hcells : cells + 1 ≤ R.cells) (hslots : slots + N' ≤ R.slots) (hdg : decode cc pc = .ok (.newarray atype, 2))
    (kk : ∀ (H1 : Heap), Nw g A H0 H (.inl (g.2 k, a0)) H1 locs → W p l e R s m args below meth c H1 locs (cells + 1) (slots + N') Q (F0 m (pc + 2) ls (.ref H.size :: rest))) : W p l e R s m args below meth c H locs cells slots Q (F0 m pc ls (.int n :: rest)) := by
  subst hty
  refine va_newaK hB.x hB.b (hB.K.2 _ harr args) rfl hdg rfl hn hN hbytes hcells hslots rfl fun H1 cA e1 z1 o1 hAr hNm => ?_
  have hcA : cA = g.2 k := by
    have h1 := (hB.K.1.2 k _ hk).2
    generalize newarray.typeOf atype = ty at h1 hNm hobj
    cases ty with
    | object C => exact absurd rfl (hobj C)
    | _ => exact Option.some.inj (hNm.symm.trans h1)
  subst hcA
  refine kk H1 ⟨?_, o1, z1, nw_S hS o1 z1⟩
  show H1[H.size]? = some (vp_cell _ _)
  rw [ha]
  exact e1
theorem mh_anew (hB : Bd p s m meth c cc maxL ret own g) {C : String} {index : Nat} (k : Nat) (hk : (tysA g.2)[k]? = some (g.2 k, .object C)) (hcl : Cond.classLink own index C ∈ lw_gn) (hover : Cond.arrayOver (.object C) ∈ lw_gn)
    {n : Int32} {N' : Nat} (hn : ¬ n < 0) (hN : n.toNatClampNeg = N') (hbytes : N' * 4 ≤ 536870912) (hS : va_S A H0 H locs) (hcells : cells + 1 ≤ R.cells) (hslots : slots + N' ≤ R.slots) (hdg : decode cc pc = .ok (.anewarray index, 3))
    (kk : ∀ (H1 : Heap), Nw g A H0 H (eQ g k N' (fun _ => none)) H1 locs → W p l e R s m args below meth c H1 locs (cells + 1) (slots + N') Q (F0 m (pc + 3) ls (.ref H.size :: rest))) : W p l e R s m args below meth c H locs cells slots Q (F0 m pc ls (.int n :: rest)) := by
  subst hN
  refine W.anew hB.x hB.b hB.ow (hB.K.2 _ hcl args) (hB.K.2 _ hover args) rfl hdg rfl hn hbytes hcells hslots fun cA kA comp f1 f2 f3 f4 => ?_
  generalize hH1 : H.push ({ cls := cA, slots := Array.replicate n.toNatClampNeg .null, vm := .none } : Cell) = H1
  have z1 : H1.size = H.size + 1 := by rw [← hH1, Array.size_push]
  have e1 : H1[H.size]? = some (arrV cA n.toNatClampNeg (fun _ => .null)) := by rw [← hH1, Array.getElem?_push_size, ← arrV_new]
  have o1 : ∀ q : Nat, q < H.size → H1[q]? = H[q]? := fun q hq => by rw [← hH1, Array.getElem?_push, if_neg (Nat.ne_of_lt hq)]
  have hcA : cA = g.2 k := by
    obtain ⟨kA', comp', -, -, -, h4⟩ := (hB.K.1.2 k _ hk).2
    exact Option.some.inj (f1.symm.trans h4)
  subst hcA
  exact kk H1 ⟨e1, o1, z1, nw_S hS o1 z1⟩
theorem mh_cb {y : MethodName} {bytes : ByteArray} {mxL n index : Nat} {rt : Option FieldType} {rm : Room} (hB : Bd p s m meth c cc maxL ret own g) (hcode : Cond.code y bytes mxL rt ∈ lw_gn) (hini : Cond.initialized y.cls ∈ lw_gn) (hl : Cond.methodLink own index y ∈ lw_gn)
    (hd : y.cls ≠ "java/lang/invoke/MethodHandle" ∧ y.cls ≠ "java/lang/invoke/VarHandle" ∧ (parseMethodDescriptor y.desc).map (fun d => d.parameters.length) = some n) (hR : rm.frames + 1 ≤ R.frames ∧ 8 + (mxL + 11) + rm.locals ≤ R.locals) :
    CallB R s args own index y bytes mxL rt [.code y bytes mxL rt] rm rm.cells rm.slots n := by
  refine ⟨rfl, rfl, hR.1, hR.2, fun w hw a' U hW => ?_, List.mem_cons_self, hB.K.2 _ hcode args, hB.K.2 _ hini args, ⟨hd.1, hd.2.1⟩, fun sig h => ?_, hB.K.2 _ hl args⟩
  · cases List.mem_singleton.mp hw
    exact (TB.moved hW hB.K.2) _ hcode a'
  · have h2 := hd.2.2
    rw [h] at h2
    exact (Option.some.inj h2).symm
theorem mh_go {avs : List Value} {rm : Room} {A1 : Nat → Prop} {post : Option Value → Heap → Prop} {st0 : List Value} (hr : va_Run p l e R s m args below meth c H locs cells slots rm.cells rm.slots (F0 m pc ls st0) rest (mQ H A1 post avs.toArray) A1) (hS : va_S A H0 H locs) (hA : ∀ q, A1 q → A q)
    (kk : ∀ (v : Option Value) (H1 : Heap) (locs1 : List Loc), post v H1 → Fr A1 H H1 → va_S A H0 H1 locs1 → W p l e R s m args below meth c H1 locs1 (cells + rm.cells) (slots + rm.slots) Q (F0 m (pc + 3) ls (v.toList ++ rest))) : W p l e R s m args below meth c H locs cells slots Q (F0 m pc ls st0) := by
  intro T hT X
  obtain ⟨v, st₀, t, T', L, h0, X', hL, e1, e2, ⟨v', hv, hp, hz, hk⟩, st⟩ := hr T hT X
  cases hv
  obtain ⟨t2, a1, b1⟩ := kk v T'.heap (locs ++ L) (by rw [e1]; exact hp) (by rw [e1]; exact ⟨hz, hk⟩)
    ⟨Nat.le_trans hS.1 (by rw [e1]; exact hz), fun q h1 h2 => by rw [e1, hk q (Nat.lt_of_lt_of_le h1 hS.1) (fun z => h2 (hA q z))]; exact hS.2.1 q h1 h2, fun q hq => by
      rcases List.mem_append.mp hq with h | h
      · exact hS.2.2 q h
      · exact hA _ (hL q h)⟩ T' rfl X'
  exact ⟨t2, st t2 a1, b1⟩
theorem mh_callV {C : String} {T : u_T} {N ci : Nat} {y : MethodName} {bytes : ByteArray} {mxL n index : Nat} {rt : Option FieldType} {rm : Room} {A1 : Nat → Prop} {post : Option Value → Heap → Prop} {b : Nat} {fs As : List Value} (hc : vwCl[ci]? = some (C, T, N)) (hcode : Cond.code y bytes mxL rt ∈ lw_gn) (hini : Cond.initialized y.cls ∈ lw_gn) (hlk : Cond.methodLink own index y ∈ lw_gn) (hinst : Cond.instanceMethod y ∈ lw_gn) (hsel : Cond.selects C y y ∈ lw_gn)
    (hd : y.cls ≠ "java/lang/invoke/MethodHandle" ∧ y.cls ≠ "java/lang/invoke/VarHandle" ∧ (parseMethodDescriptor y.desc).map (fun d => d.parameters.length) = some n)
    (hB : Bd p s m meth c cc maxL ret own g) (hM : Ct l y bytes mxL rt rm g (.ref b :: As) H A1 post) (hb0 : at_ g H b (eO ci fs)) (hn : As.length = n) (hsize : ls.size = maxL) (hcat : (rest.map fun v => v.category).sum ≤ 8) (hdg : decode cc pc = .ok (.invokevirtual index, 3)) (hR : rm.frames + 1 ≤ R.frames ∧ 8 + (mxL + 11) + rm.locals ≤ R.locals) (hf : cells + rm.cells ≤ R.cells ∧ slots + rm.slots ≤ R.slots) (hS : va_S A H0 H locs) (hA : ∀ q, A1 q → A q)
    (kk : ∀ (v : Option Value) (H1 : Heap) (locs1 : List Loc), post v H1 → Fr A1 H H1 → va_S A H0 H1 locs1 → W p l e R s m args below meth c H1 locs1 (cells + rm.cells) (slots + rm.slots) Q (F0 m (pc + 3) ls (v.toList ++ rest))) : W p l e R s m args below meth c H locs cells slots Q (F0 m pc ls (As.reverse ++ .ref b :: rest)) :=
  mh_go (avs := .ref b :: As) (va_runV (C := C) (As := As) (Ts := []) ⟨hB.x, hB.b, hB.ml, hB.ow, fun _ h => absurd h List.not_mem_nil⟩ hM ⟨mh_cb hB hcode hini hlk hd hR, hB.K.2 _ hinst args, hB.K.2 _ hsel args⟩
    ⟨mP.blind, va_recv (q0 := 0) (fs := fs) hB.K.1 (va_P1 hb0) hc rfl, fun U hU hW => ⟨rfl, KK.moved hW hB.K, hU⟩⟩ rfl hn hsize rfl (lv_room hcat) hdg hf) hS hA kk
theorem mh_callS {y : MethodName} {bytes : ByteArray} {mxL n index : Nat} {rt : Option FieldType} {rm : Room} {A1 : Nat → Prop} {post : Option Value → Heap → Prop} {As : List Value} (hcode : Cond.code y bytes mxL rt ∈ lw_gn) (hini : Cond.initialized y.cls ∈ lw_gn) (hlk : Cond.methodLink own index y ∈ lw_gn) (hstat : Cond.static y ∈ lw_gn)
    (hd : y.cls ≠ "java/lang/invoke/MethodHandle" ∧ y.cls ≠ "java/lang/invoke/VarHandle" ∧ (parseMethodDescriptor y.desc).map (fun d => d.parameters.length) = some n)
    (hB : Bd p s m meth c cc maxL ret own g) (hM : Ct l y bytes mxL rt rm g As H A1 post) (hn : As.length = n) (hsize : ls.size = maxL) (hcat : (rest.map fun v => v.category).sum ≤ 8) (hdg : decode cc pc = .ok (.invokestatic index, 3)) (hR : rm.frames + 1 ≤ R.frames ∧ 8 + (mxL + 11) + rm.locals ≤ R.locals) (hf : cells + rm.cells ≤ R.cells ∧ slots + rm.slots ≤ R.slots) (hS : va_S A H0 H locs) (hA : ∀ q, A1 q → A q)
    (kk : ∀ (v : Option Value) (H1 : Heap) (locs1 : List Loc), post v H1 → Fr A1 H H1 → va_S A H0 H1 locs1 → W p l e R s m args below meth c H1 locs1 (cells + rm.cells) (slots + rm.slots) Q (F0 m (pc + 3) ls (v.toList ++ rest))) : W p l e R s m args below meth c H locs cells slots Q (F0 m pc ls (As.reverse ++ rest)) :=
  mh_go (avs := As) (va_runS (As := As) (Ts := []) ⟨hB.x, hB.b, hB.ml, hB.ow, fun _ h => absurd h List.not_mem_nil⟩ hM ⟨mh_cb hB hcode hini hlk hd hR, hB.K.2 _ hstat args⟩
    ⟨mP.blind, fun U hU hW => ⟨rfl, KK.moved hW hB.K, hU⟩⟩ rfl hn hsize rfl (lv_room hcat) hdg hf) hS hA kk
theorem mh_callI {y : MethodName} {bytes : ByteArray} {mxL n index : Nat} {rm : Room} {A1 : Nat → Prop} {post : Option Value → Heap → Prop} {b : Nat} {As : List Value} (hcode : Cond.code y bytes mxL none ∈ lw_gn) (hini : Cond.initialized y.cls ∈ lw_gn) (hlk : Cond.methodLink own index y ∈ lw_gn) (hinst : Cond.instanceMethod y ∈ lw_gn) (hy : y.name = "<init>")
    (hd : y.cls ≠ "java/lang/invoke/MethodHandle" ∧ y.cls ≠ "java/lang/invoke/VarHandle" ∧ (parseMethodDescriptor y.desc).map (fun d => d.parameters.length) = some n)
    (hB : Bd p s m meth c cc maxL ret own g) (hM : Ct l y bytes mxL none rm g (.ref b :: As) H A1 post) (hn : As.length = n) (hsize : ls.size = maxL) (hcat : (rest.map fun v => v.category).sum ≤ 8) (hdg : decode cc pc = .ok (.invokespecial index, 3)) (hR : rm.frames + 1 ≤ R.frames ∧ 8 + (mxL + 11) + rm.locals ≤ R.locals) (hf : cells + rm.cells ≤ R.cells ∧ slots + rm.slots ≤ R.slots) (hS : va_S A H0 H locs) (hA : ∀ q, A1 q → A q)
    (kk : ∀ (v : Option Value) (H1 : Heap) (locs1 : List Loc), post v H1 → Fr A1 H H1 → va_S A H0 H1 locs1 → W p l e R s m args below meth c H1 locs1 (cells + rm.cells) (slots + rm.slots) Q (F0 m (pc + 3) ls (v.toList ++ rest))) : W p l e R s m args below meth c H locs cells slots Q (F0 m pc ls (As.reverse ++ .ref b :: rest)) :=
  mh_go (avs := .ref b :: As) (va_runI (b := b) (As := As) (Ts := []) ⟨hB.x, hB.b, hB.ml, hB.ow, fun _ h => absurd h List.not_mem_nil⟩ hM ⟨mh_cb hB hcode hini hlk hd hR, hy, hB.K.2 _ hinst args⟩
    ⟨mP.blind, fun U hU hW => ⟨rfl, KK.moved hW hB.K, hU⟩⟩ rfl hn hsize rfl (lv_room hcat) hdg hf) hS hA kk
theorem mh_callIN {host : String} {y : MethodName} {bytes : ByteArray} {mxL n index : Nat} {rm : Room} {A1 : Nat → Prop} {post : Option Value → Heap → Prop} {b : Nat} {As : List Value} (hcode : Cond.code y bytes mxL none ∈ lw_gn) (hini : Cond.initialized y.cls ∈ lw_gn) (hlk : Cond.methodLinkNest own index y host ∈ lw_gn) (hinst : Cond.instanceMethod y ∈ lw_gn) (hy : y.name = "<init>")
    (hd : y.cls ≠ "java/lang/invoke/MethodHandle" ∧ y.cls ≠ "java/lang/invoke/VarHandle" ∧ (parseMethodDescriptor y.desc).map (fun d => d.parameters.length) = some n)
    (hB : Bd p s m meth c cc maxL ret own g) (hM : Ct l y bytes mxL none rm g (.ref b :: As) H A1 post) (hn : As.length = n) (hsize : ls.size = maxL) (hcat : (rest.map fun v => v.category).sum ≤ 8) (hdg : decode cc pc = .ok (.invokespecial index, 3)) (hR : rm.frames + 1 ≤ R.frames ∧ 8 + (mxL + 11) + rm.locals ≤ R.locals) (hf : cells + rm.cells ≤ R.cells ∧ slots + rm.slots ≤ R.slots) (hS : va_S A H0 H locs) (hA : ∀ q, A1 q → A q)
    (kk : ∀ (v : Option Value) (H1 : Heap) (locs1 : List Loc), post v H1 → Fr A1 H H1 → va_S A H0 H1 locs1 → W p l e R s m args below meth c H1 locs1 (cells + rm.cells) (slots + rm.slots) Q (F0 m (pc + 3) ls (v.toList ++ rest))) : W p l e R s m args below meth c H locs cells slots Q (F0 m pc ls (As.reverse ++ .ref b :: rest)) := by
  refine mh_go (avs := .ref b :: As) (va_runIN (b := b) (As := As) (Ts := []) (host := host) ⟨hB.x, hB.b, hB.ml, hB.ow, fun _ h => absurd h List.not_mem_nil⟩ hM ⟨⟨⟨rfl, rfl, hR.1, hR.2, fun w hw a' U hW => ?_, List.mem_cons_self⟩, hB.K.2 _ hcode args, hB.K.2 _ hini args, ⟨hd.1, hd.2.1⟩, fun sig h => ?_, hB.K.2 _ hlk args⟩, hy, hB.K.2 _ hinst args⟩
    ⟨mP.blind, fun U hU hW => ⟨rfl, KK.moved hW hB.K, hU⟩⟩ rfl hn hsize rfl (lv_room hcat) hdg hf) hS hA kk
  · cases List.mem_singleton.mp hw
    exact (TB.moved hW hB.K.2) _ hcode a'
  · have h2 := hd.2.2
    rw [h] at h2
    exact (Option.some.inj h2).symm
/-- Object.<init> -/
theorem mh_obj {index : Nat} (hlk : Cond.methodLink own index objectInit ∈ lw_gn) (hB : Bd p s m meth c cc maxL ret own g) (hsize : ls.size = maxL) (hdg : decode cc pc = .ok (.invokespecial index, 3)) (hR : 1 ≤ R.frames ∧ (rest.map fun v => v.category).sum + 12 ≤ R.locals)
    (hin : Cond.instanceMethod objectInit ∈ lw_gn) (hco : Cond.code objectInit ⟨#[0xb1]⟩ 1 none ∈ lw_gn)
    (kk : W p l e R s m args below meth c H locs cells slots Q (F0 m (pc + 3) ls rest)) : W p l e R s m args below meth c H locs cells slots Q (F0 m pc ls (.ref a :: rest)) :=
  W.objInit hB.x hB.b hB.ow (hB.K.2 _ hlk args) (hB.K.2 _ hin args) (hB.K.2 _ hco args) rfl (hsize.trans hB.ml.symm) rfl hdg hR.1 (by
    have : (F0 m pc ls (.ref a :: rest)).monitorRoom = 0 := by simp [JFrame.monitorRoom]
    rw [this]; omega) kk
/-! ends -/
theorem mh_iret {mc ms : Nat} {post : Option Value → Heap → Prop} {v : Int32} (hB : Bd p s m meth c cc maxL (some .int) own g) (hc : cells ≤ mc ∧ slots ≤ ms) (hS : va_S A H0 H locs) (hdg : decode cc pc = .ok (.ireturn, 1)) (hp : post (some (.int v)) H) : W p l e R s m args below meth c H locs cells slots (MQ below (mQ H0 A post) args s mc ms A) (F0 m pc ls [.int v]) :=
  W.widen hc.1 hc.2 (W.iret hB.x hB.b hB.r (fun t ht _ => ⟨_, rfl, by rw [ht]; exact hp, by rw [ht]; exact ⟨hS.1, hS.2.1⟩⟩) hS.2.2 hdg hB.lk)
theorem mh_zret {mc ms : Nat} {post : Option Value → Heap → Prop} {v : Int32} (hB : Bd p s m meth c cc maxL (some .boolean) own g) (hc : cells ≤ mc ∧ slots ≤ ms) (hS : va_S A H0 H locs) (hdg : decode cc pc = .ok (.ireturn, 1)) (hn : narrow .boolean (.int v) = .int v) (hp : post (some (.int v)) H) : W p l e R s m args below meth c H locs cells slots (MQ below (mQ H0 A post) args s mc ms A) (F0 m pc ls [.int v]) :=
  W.widen hc.1 hc.2 (W.zret hB.x hB.b hB.r hn (fun t ht _ => ⟨_, rfl, by rw [ht]; exact hp, by rw [ht]; exact ⟨hS.1, hS.2.1⟩⟩) hS.2.2 hdg hB.lk)
theorem mh_vret {mc ms : Nat} {post : Option Value → Heap → Prop} (hB : Bd p s m meth c cc maxL none own g) (hc : cells ≤ mc ∧ slots ≤ ms) (hS : va_S A H0 H locs) (hdg : decode cc pc = .ok (.return_, 1)) (hp : post none H) : W p l e R s m args below meth c H locs cells slots (MQ below (mQ H0 A post) args s mc ms A) (F0 m pc ls []) :=
  W.widen hc.1 hc.2 (W.vret hB.x hB.b hB.r (fun t ht _ => ⟨_, rfl, by rw [ht]; exact hp, by rw [ht]; exact ⟨hS.1, hS.2.1⟩⟩) hS.2.2 hdg hB.lk)
theorem mh_lret {mc ms : Nat} {post : Option Value → Heap → Prop} {v : Int64} (hB : Bd p s m meth c cc maxL (some .long) own g) (hc : cells ≤ mc ∧ slots ≤ ms) (hS : va_S A H0 H locs) (hdg : decode cc pc = .ok (.lreturn, 1)) (hp : post (some (.long v)) H) : W p l e R s m args below meth c H locs cells slots (MQ below (mQ H0 A post) args s mc ms A) (F0 m pc ls [.long v]) :=
  W.widen hc.1 hc.2 (W.lret hB.x hB.b hB.r (fun t ht _ => ⟨_, rfl, by rw [ht]; exact hp, by rw [ht]; exact ⟨hS.1, hS.2.1⟩⟩) hS.2.2 hdg hB.lk)
theorem mh_aret {mc ms : Nat} {post : Option Value → Heap → Prop} {v : Value} {C : String} (hB : Bd p s m meth c cc maxL (some (.object C)) own g) (hv : v = .null ∨ ∃ a, v = .ref a) (hc : cells ≤ mc ∧ slots ≤ ms) (hS : va_S A H0 H locs) (hdg : decode cc pc = .ok (.areturn, 1)) (hp : post (some v) H) : W p l e R s m args below meth c H locs cells slots (MQ below (mQ H0 A post) args s mc ms A) (F0 m pc ls [v]) :=
  W.widen hc.1 hc.2 (W.aret hB.x hB.b hB.r (Or.inl ⟨C, rfl⟩) hv (fun t ht _ => ⟨_, rfl, by rw [ht]; exact hp, by rw [ht]; exact ⟨hS.1, hS.2.1⟩⟩) hS.2.2 hdg hB.lk)
/-- the top of the stack under another name -/
theorem mh_top {x y : Value} (h : x = y) (k : W p l e R s m args below meth c H locs cells slots Q (F0 m pc ls (y :: rest))) : W p l e R s m args below meth c H locs cells slots Q (F0 m pc ls (x :: rest)) := h ▸ k
end MH
