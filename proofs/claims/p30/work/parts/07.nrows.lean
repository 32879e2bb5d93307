/-! own rows over natural numbers and booleans -/
def ftA (F : Nat → Prop) (sz : Nat) : Nat → Prop := fun q => F q ∨ sz ≤ q
theorem Fr.keep {F : Nat → Prop} {H0 H1 : Heap} (h : Fr (ftA F H0.size) H0 H1) {g : GG} {a : Nat} {e : va_E} (h1 : at_ g H0 a e) (ha : ¬ F a) : at_ g H1 a e := h.atk h1 (fun q => q.elim ha (fun z => absurd h1.lt (Nat.not_lt.mpr z)))
def bI (b : Bool) : Int32 := if b = true then 1 else 0
theorem bI_t : bI true = 1 := rfl
theorem bI_f : bI false = 0 := rfl
theorem nI_zero_iff {a : Nat} (h : a < 2147483648) : nI a = 0 ↔ a = 0 := by rw [← nI_0]; exact nI_eq h (by omega)
theorem nI_ne_of {a b : Nat} (ha : a < 2147483648) (hb : b < 2147483648) (h : a ≠ b) : ¬ nI a = nI b := fun q => h ((nI_eq ha hb).mp q)
section MN
variable {p : Program} {l : Launch} {e : Env} {R : Room} {s : State} {m : MethodId} {args : Array Value} {below : List Frame} {meth : Method} {c : Code} {H : Heap} {locs : List Loc} {cells slots : Nat} {Q : State → Prop}
variable {cc : ByteArray} {maxL : Nat} {ret : Option FieldType} {own : String} {g : GG} {pc : Nat} {ls : Array Slot} {rest : List Value} {A : Nat → Prop} {H0 : Heap} {a b : Nat}
theorem mn_iadd (hB : Bd p s m meth c cc maxL ret own g) (hdg : decode cc pc = .ok (.iadd, 1)) (k : W p l e R s m args below meth c H locs cells slots Q (F0 m (pc + 1) ls (.int (nI (a + b)) :: rest))) : W p l e R s m args below meth c H locs cells slots Q (F0 m pc ls (.int (nI b) :: .int (nI a) :: rest)) := lv_iadd hB.x hB.b hdg (by first | (rw [nI_add]; exact k) | (rw [← nI_add] at k; exact k))
theorem mn_imul (hB : Bd p s m meth c cc maxL ret own g) (hdg : decode cc pc = .ok (.imul, 1)) (k : W p l e R s m args below meth c H locs cells slots Q (F0 m (pc + 1) ls (.int (nI (a * b)) :: rest))) : W p l e R s m args below meth c H locs cells slots Q (F0 m pc ls (.int (nI b) :: .int (nI a) :: rest)) := lv_imul hB.x hB.b hdg (by first | (rw [pk_mul]; exact k) | (rw [← pk_mul] at k; exact k))
theorem mn_isub (hB : Bd p s m meth c cc maxL ret own g) (hdg : decode cc pc = .ok (.isub, 1)) (h : b ≤ a) (k : W p l e R s m args below meth c H locs cells slots Q (F0 m (pc + 1) ls (.int (nI (a - b)) :: rest))) : W p l e R s m args below meth c H locs cells slots Q (F0 m pc ls (.int (nI b) :: .int (nI a) :: rest)) := lv_isub hB.x hB.b hdg (by first | (rw [pk_sub h]; exact k) | (rw [← pk_sub h] at k; exact k))
theorem mn_idiv (hB : Bd p s m meth c cc maxL ret own g) (hdg : decode cc pc = .ok (.idiv, 1)) (ha2 : a < 2147483648) (h0 : 0 < b) (hb2 : b < 2147483648) (k : W p l e R s m args below meth c H locs cells slots Q (F0 m (pc + 1) ls (.int (nI (a / b)) :: rest))) : W p l e R s m args below meth c H locs cells slots Q (F0 m pc ls (.int (nI b) :: .int (nI a) :: rest)) := lv_idiv hB.x hB.b hdg (nI_ne0 h0 hb2) (by first | (rw [pk_div ha2 h0 hb2]; exact k) | (rw [← pk_div ha2 h0 hb2] at k; exact k))
theorem mn_irem (hB : Bd p s m meth c cc maxL ret own g) (hdg : decode cc pc = .ok (.irem, 1)) (ha2 : a < 2147483648) (h0 : 0 < b) (hb2 : b < 2147483648) (k : W p l e R s m args below meth c H locs cells slots Q (F0 m (pc + 1) ls (.int (nI (a % b)) :: rest))) : W p l e R s m args below meth c H locs cells slots Q (F0 m pc ls (.int (nI b) :: .int (nI a) :: rest)) := lv_irem hB.x hB.b hdg (nI_ne0 h0 hb2) (by first | (rw [pk_rem ha2 h0 hb2]; exact k) | (rw [← pk_rem ha2 h0 hb2] at k; exact k))
theorem mn_icmp_eq (hB : Bd p s m meth c cc maxL ret own g) {off : Int} {tgt : Nat} (hdg : decode cc pc = .ok (.if_icmp .eq off, 3)) (ht : (pc : Int) + off = (tgt : Int)) (ha : a < 2147483648) (hb : b < 2147483648) (k1 : a = b → W p l e R s m args below meth c H locs cells slots Q (F0 m tgt ls rest)) (k2 : ¬ a = b → W p l e R s m args below meth c H locs cells slots Q (F0 m (pc + 3) ls rest)) : W p l e R s m args below meth c H locs cells slots Q (F0 m pc ls (.int (nI b) :: .int (nI a) :: rest)) := by
  have e1 := nI_eq ha hb
  have e2 := nI_ltI ha hb
  have e3 := nI_leI ha hb
  have e4 := nI_ltI hb ha
  have e5 := nI_leI hb ha
  refine lv_icmp_eq hB.x hB.b hdg ht (fun q => k1 ?_) (fun q => k2 ?_)
  · first | exact e1.mp q | exact fun z => q (e1.mpr z) | exact e2.mp q | exact e3.mp q | exact e4.mp q | exact e5.mp q
  · first | exact e1.mp q | exact fun z => q (e1.mpr z) | exact Decidable.byContradiction fun z => q (fun y => z (e1.mp y)) | exact Nat.not_lt.mp (fun z => q (e2.mpr z)) | exact Nat.not_lt.mp (fun z => q (e4.mpr z)) | exact Nat.not_le.mp (fun z => q (e3.mpr z)) | exact Nat.not_le.mp (fun z => q (e5.mpr z))
theorem mn_icmp_ne (hB : Bd p s m meth c cc maxL ret own g) {off : Int} {tgt : Nat} (hdg : decode cc pc = .ok (.if_icmp .ne off, 3)) (ht : (pc : Int) + off = (tgt : Int)) (ha : a < 2147483648) (hb : b < 2147483648) (k1 : ¬ a = b → W p l e R s m args below meth c H locs cells slots Q (F0 m tgt ls rest)) (k2 : a = b → W p l e R s m args below meth c H locs cells slots Q (F0 m (pc + 3) ls rest)) : W p l e R s m args below meth c H locs cells slots Q (F0 m pc ls (.int (nI b) :: .int (nI a) :: rest)) := by
  have e1 := nI_eq ha hb
  have e2 := nI_ltI ha hb
  have e3 := nI_leI ha hb
  have e4 := nI_ltI hb ha
  have e5 := nI_leI hb ha
  refine lv_icmp_ne hB.x hB.b hdg ht (fun q => k1 ?_) (fun q => k2 ?_)
  · first | exact e1.mp q | exact fun z => q (e1.mpr z) | exact e2.mp q | exact e3.mp q | exact e4.mp q | exact e5.mp q
  · first | exact e1.mp q | exact fun z => q (e1.mpr z) | exact Decidable.byContradiction fun z => q (fun y => z (e1.mp y)) | exact Nat.not_lt.mp (fun z => q (e2.mpr z)) | exact Nat.not_lt.mp (fun z => q (e4.mpr z)) | exact Nat.not_le.mp (fun z => q (e3.mpr z)) | exact Nat.not_le.mp (fun z => q (e5.mpr z))
theorem mn_icmp_lt (hB : Bd p s m meth c cc maxL ret own g) {off : Int} {tgt : Nat} (hdg : decode cc pc = .ok (.if_icmp .lt off, 3)) (ht : (pc : Int) + off = (tgt : Int)) (ha : a < 2147483648) (hb : b < 2147483648) (k1 : a < b → W p l e R s m args below meth c H locs cells slots Q (F0 m tgt ls rest)) (k2 : b ≤ a → W p l e R s m args below meth c H locs cells slots Q (F0 m (pc + 3) ls rest)) : W p l e R s m args below meth c H locs cells slots Q (F0 m pc ls (.int (nI b) :: .int (nI a) :: rest)) := by
  have e1 := nI_eq ha hb
  have e2 := nI_ltI ha hb
  have e3 := nI_leI ha hb
  have e4 := nI_ltI hb ha
  have e5 := nI_leI hb ha
  refine lv_icmp_lt hB.x hB.b hdg ht (fun q => k1 ?_) (fun q => k2 ?_)
  · first | exact e1.mp q | exact fun z => q (e1.mpr z) | exact e2.mp q | exact e3.mp q | exact e4.mp q | exact e5.mp q
  · first | exact e1.mp q | exact fun z => q (e1.mpr z) | exact Decidable.byContradiction fun z => q (fun y => z (e1.mp y)) | exact Nat.not_lt.mp (fun z => q (e2.mpr z)) | exact Nat.not_lt.mp (fun z => q (e4.mpr z)) | exact Nat.not_le.mp (fun z => q (e3.mpr z)) | exact Nat.not_le.mp (fun z => q (e5.mpr z))
theorem mn_icmp_ge (hB : Bd p s m meth c cc maxL ret own g) {off : Int} {tgt : Nat} (hdg : decode cc pc = .ok (.if_icmp .ge off, 3)) (ht : (pc : Int) + off = (tgt : Int)) (ha : a < 2147483648) (hb : b < 2147483648) (k1 : b ≤ a → W p l e R s m args below meth c H locs cells slots Q (F0 m tgt ls rest)) (k2 : a < b → W p l e R s m args below meth c H locs cells slots Q (F0 m (pc + 3) ls rest)) : W p l e R s m args below meth c H locs cells slots Q (F0 m pc ls (.int (nI b) :: .int (nI a) :: rest)) := by
  have e1 := nI_eq ha hb
  have e2 := nI_ltI ha hb
  have e3 := nI_leI ha hb
  have e4 := nI_ltI hb ha
  have e5 := nI_leI hb ha
  refine lv_icmp_ge hB.x hB.b hdg ht (fun q => k1 ?_) (fun q => k2 ?_)
  · first | exact e1.mp q | exact fun z => q (e1.mpr z) | exact e2.mp q | exact e3.mp q | exact e4.mp q | exact e5.mp q
  · first | exact e1.mp q | exact fun z => q (e1.mpr z) | exact Decidable.byContradiction fun z => q (fun y => z (e1.mp y)) | exact Nat.not_lt.mp (fun z => q (e2.mpr z)) | exact Nat.not_lt.mp (fun z => q (e4.mpr z)) | exact Nat.not_le.mp (fun z => q (e3.mpr z)) | exact Nat.not_le.mp (fun z => q (e5.mpr z))
theorem mn_icmp_gt (hB : Bd p s m meth c cc maxL ret own g) {off : Int} {tgt : Nat} (hdg : decode cc pc = .ok (.if_icmp .gt off, 3)) (ht : (pc : Int) + off = (tgt : Int)) (ha : a < 2147483648) (hb : b < 2147483648) (k1 : b < a → W p l e R s m args below meth c H locs cells slots Q (F0 m tgt ls rest)) (k2 : a ≤ b → W p l e R s m args below meth c H locs cells slots Q (F0 m (pc + 3) ls rest)) : W p l e R s m args below meth c H locs cells slots Q (F0 m pc ls (.int (nI b) :: .int (nI a) :: rest)) := by
  have e1 := nI_eq ha hb
  have e2 := nI_ltI ha hb
  have e3 := nI_leI ha hb
  have e4 := nI_ltI hb ha
  have e5 := nI_leI hb ha
  refine lv_icmp_gt hB.x hB.b hdg ht (fun q => k1 ?_) (fun q => k2 ?_)
  · first | exact e1.mp q | exact fun z => q (e1.mpr z) | exact e2.mp q | exact e3.mp q | exact e4.mp q | exact e5.mp q
  · first | exact e1.mp q | exact fun z => q (e1.mpr z) | exact Decidable.byContradiction fun z => q (fun y => z (e1.mp y)) | exact Nat.not_lt.mp (fun z => q (e2.mpr z)) | exact Nat.not_lt.mp (fun z => q (e4.mpr z)) | exact Nat.not_le.mp (fun z => q (e3.mpr z)) | exact Nat.not_le.mp (fun z => q (e5.mpr z))
theorem mn_icmp_le (hB : Bd p s m meth c cc maxL ret own g) {off : Int} {tgt : Nat} (hdg : decode cc pc = .ok (.if_icmp .le off, 3)) (ht : (pc : Int) + off = (tgt : Int)) (ha : a < 2147483648) (hb : b < 2147483648) (k1 : a ≤ b → W p l e R s m args below meth c H locs cells slots Q (F0 m tgt ls rest)) (k2 : b < a → W p l e R s m args below meth c H locs cells slots Q (F0 m (pc + 3) ls rest)) : W p l e R s m args below meth c H locs cells slots Q (F0 m pc ls (.int (nI b) :: .int (nI a) :: rest)) := by
  have e1 := nI_eq ha hb
  have e2 := nI_ltI ha hb
  have e3 := nI_leI ha hb
  have e4 := nI_ltI hb ha
  have e5 := nI_leI hb ha
  refine lv_icmp_le hB.x hB.b hdg ht (fun q => k1 ?_) (fun q => k2 ?_)
  · first | exact e1.mp q | exact fun z => q (e1.mpr z) | exact e2.mp q | exact e3.mp q | exact e4.mp q | exact e5.mp q
  · first | exact e1.mp q | exact fun z => q (e1.mpr z) | exact Decidable.byContradiction fun z => q (fun y => z (e1.mp y)) | exact Nat.not_lt.mp (fun z => q (e2.mpr z)) | exact Nat.not_lt.mp (fun z => q (e4.mpr z)) | exact Nat.not_le.mp (fun z => q (e3.mpr z)) | exact Nat.not_le.mp (fun z => q (e5.mpr z))
theorem mn_if_eq (hB : Bd p s m meth c cc maxL ret own g) {off : Int} {tgt : Nat} (hdg : decode cc pc = .ok (.ifCond .eq off, 3)) (ht : (pc : Int) + off = (tgt : Int)) (ha : a < 2147483648) (k1 : a = 0 → W p l e R s m args below meth c H locs cells slots Q (F0 m tgt ls rest)) (k2 : 0 < a → W p l e R s m args below meth c H locs cells slots Q (F0 m (pc + 3) ls rest)) : W p l e R s m args below meth c H locs cells slots Q (F0 m pc ls (.int (nI a) :: rest)) := by
  have e0 := nI_zero_iff ha
  have e1 := nI_pos ha
  have e2 := nI_pos' ha
  have e3 : 0 < a → ¬ nI a ≤ 0 := fun z => nI_nle z ha
  have e4 : a = 0 → nI a ≤ 0 := fun z => by rw [z]; decide
  have e5 : a = 0 → ¬ 0 < nI a := fun z => by rw [z]; decide
  have e6 : a = 0 ∨ 0 < a := by omega
  have e7 : 0 < a → 0 < nI a := fun z => by have := nI_lt z ha; rwa [nI_0] at this
  refine lv_if_eq hB.x hB.b hdg ht (fun q => k1 ?_) (fun q => k2 ?_)
  all_goals first | trivial | exact e0.mp q | exact absurd q e1 | exact absurd e2 q | exact (e6.resolve_left fun z => q (e0.mpr z)) | exact (e6.resolve_right fun z => e3 z q) | exact (e6.resolve_left fun z => q (e4 z)) | exact (e6.resolve_left fun z => e5 z q) | exact (e6.resolve_right fun z => q (e7 z)) | exact Decidable.byContradiction fun z => q (fun y => z (e0.mp y))
theorem mn_if_ne (hB : Bd p s m meth c cc maxL ret own g) {off : Int} {tgt : Nat} (hdg : decode cc pc = .ok (.ifCond .ne off, 3)) (ht : (pc : Int) + off = (tgt : Int)) (ha : a < 2147483648) (k1 : 0 < a → W p l e R s m args below meth c H locs cells slots Q (F0 m tgt ls rest)) (k2 : a = 0 → W p l e R s m args below meth c H locs cells slots Q (F0 m (pc + 3) ls rest)) : W p l e R s m args below meth c H locs cells slots Q (F0 m pc ls (.int (nI a) :: rest)) := by
  have e0 := nI_zero_iff ha
  have e1 := nI_pos ha
  have e2 := nI_pos' ha
  have e3 : 0 < a → ¬ nI a ≤ 0 := fun z => nI_nle z ha
  have e4 : a = 0 → nI a ≤ 0 := fun z => by rw [z]; decide
  have e5 : a = 0 → ¬ 0 < nI a := fun z => by rw [z]; decide
  have e6 : a = 0 ∨ 0 < a := by omega
  have e7 : 0 < a → 0 < nI a := fun z => by have := nI_lt z ha; rwa [nI_0] at this
  refine lv_if_ne hB.x hB.b hdg ht (fun q => k1 ?_) (fun q => k2 ?_)
  all_goals first | trivial | exact e0.mp q | exact absurd q e1 | exact absurd e2 q | exact (e6.resolve_left fun z => q (e0.mpr z)) | exact (e6.resolve_right fun z => e3 z q) | exact (e6.resolve_left fun z => q (e4 z)) | exact (e6.resolve_left fun z => e5 z q) | exact (e6.resolve_right fun z => q (e7 z)) | exact Decidable.byContradiction fun z => q (fun y => z (e0.mp y))
theorem mn_if_lt (hB : Bd p s m meth c cc maxL ret own g) {off : Int} {tgt : Nat} (hdg : decode cc pc = .ok (.ifCond .lt off, 3)) (ht : (pc : Int) + off = (tgt : Int)) (ha : a < 2147483648) (k1 : False → W p l e R s m args below meth c H locs cells slots Q (F0 m tgt ls rest)) (k2 : True → W p l e R s m args below meth c H locs cells slots Q (F0 m (pc + 3) ls rest)) : W p l e R s m args below meth c H locs cells slots Q (F0 m pc ls (.int (nI a) :: rest)) := by
  have e0 := nI_zero_iff ha
  have e1 := nI_pos ha
  have e2 := nI_pos' ha
  have e3 : 0 < a → ¬ nI a ≤ 0 := fun z => nI_nle z ha
  have e4 : a = 0 → nI a ≤ 0 := fun z => by rw [z]; decide
  have e5 : a = 0 → ¬ 0 < nI a := fun z => by rw [z]; decide
  have e6 : a = 0 ∨ 0 < a := by omega
  have e7 : 0 < a → 0 < nI a := fun z => by have := nI_lt z ha; rwa [nI_0] at this
  refine lv_if_lt hB.x hB.b hdg ht (fun q => k1 ?_) (fun q => k2 ?_)
  all_goals first | trivial | exact e0.mp q | exact absurd q e1 | exact absurd e2 q | exact (e6.resolve_left fun z => q (e0.mpr z)) | exact (e6.resolve_right fun z => e3 z q) | exact (e6.resolve_left fun z => q (e4 z)) | exact (e6.resolve_left fun z => e5 z q) | exact (e6.resolve_right fun z => q (e7 z)) | exact Decidable.byContradiction fun z => q (fun y => z (e0.mp y))
theorem mn_if_ge (hB : Bd p s m meth c cc maxL ret own g) {off : Int} {tgt : Nat} (hdg : decode cc pc = .ok (.ifCond .ge off, 3)) (ht : (pc : Int) + off = (tgt : Int)) (ha : a < 2147483648) (k1 : True → W p l e R s m args below meth c H locs cells slots Q (F0 m tgt ls rest)) (k2 : False → W p l e R s m args below meth c H locs cells slots Q (F0 m (pc + 3) ls rest)) : W p l e R s m args below meth c H locs cells slots Q (F0 m pc ls (.int (nI a) :: rest)) := by
  have e0 := nI_zero_iff ha
  have e1 := nI_pos ha
  have e2 := nI_pos' ha
  have e3 : 0 < a → ¬ nI a ≤ 0 := fun z => nI_nle z ha
  have e4 : a = 0 → nI a ≤ 0 := fun z => by rw [z]; decide
  have e5 : a = 0 → ¬ 0 < nI a := fun z => by rw [z]; decide
  have e6 : a = 0 ∨ 0 < a := by omega
  have e7 : 0 < a → 0 < nI a := fun z => by have := nI_lt z ha; rwa [nI_0] at this
  refine lv_if_ge hB.x hB.b hdg ht (fun q => k1 ?_) (fun q => k2 ?_)
  all_goals first | trivial | exact e0.mp q | exact absurd q e1 | exact absurd e2 q | exact (e6.resolve_left fun z => q (e0.mpr z)) | exact (e6.resolve_right fun z => e3 z q) | exact (e6.resolve_left fun z => q (e4 z)) | exact (e6.resolve_left fun z => e5 z q) | exact (e6.resolve_right fun z => q (e7 z)) | exact Decidable.byContradiction fun z => q (fun y => z (e0.mp y))
theorem mn_if_gt (hB : Bd p s m meth c cc maxL ret own g) {off : Int} {tgt : Nat} (hdg : decode cc pc = .ok (.ifCond .gt off, 3)) (ht : (pc : Int) + off = (tgt : Int)) (ha : a < 2147483648) (k1 : 0 < a → W p l e R s m args below meth c H locs cells slots Q (F0 m tgt ls rest)) (k2 : a = 0 → W p l e R s m args below meth c H locs cells slots Q (F0 m (pc + 3) ls rest)) : W p l e R s m args below meth c H locs cells slots Q (F0 m pc ls (.int (nI a) :: rest)) := by
  have e0 := nI_zero_iff ha
  have e1 := nI_pos ha
  have e2 := nI_pos' ha
  have e3 : 0 < a → ¬ nI a ≤ 0 := fun z => nI_nle z ha
  have e4 : a = 0 → nI a ≤ 0 := fun z => by rw [z]; decide
  have e5 : a = 0 → ¬ 0 < nI a := fun z => by rw [z]; decide
  have e6 : a = 0 ∨ 0 < a := by omega
  have e7 : 0 < a → 0 < nI a := fun z => by have := nI_lt z ha; rwa [nI_0] at this
  refine lv_if_gt hB.x hB.b hdg ht (fun q => k1 ?_) (fun q => k2 ?_)
  all_goals first | trivial | exact e0.mp q | exact absurd q e1 | exact absurd e2 q | exact (e6.resolve_left fun z => q (e0.mpr z)) | exact (e6.resolve_right fun z => e3 z q) | exact (e6.resolve_left fun z => q (e4 z)) | exact (e6.resolve_left fun z => e5 z q) | exact (e6.resolve_right fun z => q (e7 z)) | exact Decidable.byContradiction fun z => q (fun y => z (e0.mp y))
theorem mn_if_le (hB : Bd p s m meth c cc maxL ret own g) {off : Int} {tgt : Nat} (hdg : decode cc pc = .ok (.ifCond .le off, 3)) (ht : (pc : Int) + off = (tgt : Int)) (ha : a < 2147483648) (k1 : a = 0 → W p l e R s m args below meth c H locs cells slots Q (F0 m tgt ls rest)) (k2 : 0 < a → W p l e R s m args below meth c H locs cells slots Q (F0 m (pc + 3) ls rest)) : W p l e R s m args below meth c H locs cells slots Q (F0 m pc ls (.int (nI a) :: rest)) := by
  have e0 := nI_zero_iff ha
  have e1 := nI_pos ha
  have e2 := nI_pos' ha
  have e3 : 0 < a → ¬ nI a ≤ 0 := fun z => nI_nle z ha
  have e4 : a = 0 → nI a ≤ 0 := fun z => by rw [z]; decide
  have e5 : a = 0 → ¬ 0 < nI a := fun z => by rw [z]; decide
  have e6 : a = 0 ∨ 0 < a := by omega
  have e7 : 0 < a → 0 < nI a := fun z => by have := nI_lt z ha; rwa [nI_0] at this
  refine lv_if_le hB.x hB.b hdg ht (fun q => k1 ?_) (fun q => k2 ?_)
  all_goals first | trivial | exact e0.mp q | exact absurd q e1 | exact absurd e2 q | exact (e6.resolve_left fun z => q (e0.mpr z)) | exact (e6.resolve_right fun z => e3 z q) | exact (e6.resolve_left fun z => q (e4 z)) | exact (e6.resolve_left fun z => e5 z q) | exact (e6.resolve_right fun z => q (e7 z)) | exact Decidable.byContradiction fun z => q (fun y => z (e0.mp y))
theorem mb_if_eq (hB : Bd p s m meth c cc maxL ret own g) {x : Bool} {off : Int} {tgt : Nat} (hdg : decode cc pc = .ok (.ifCond .eq off, 3)) (ht : (pc : Int) + off = (tgt : Int)) (k1 : x = false → W p l e R s m args below meth c H locs cells slots Q (F0 m tgt ls rest)) (k2 : x = true → W p l e R s m args below meth c H locs cells slots Q (F0 m (pc + 3) ls rest)) : W p l e R s m args below meth c H locs cells slots Q (F0 m pc ls (.int (bI x) :: rest)) := by
  refine lv_if_eq hB.x hB.b hdg ht (fun q => k1 ?_) (fun q => k2 ?_)
  all_goals (cases x <;> simp [bI] at q ⊢)
theorem mb_if_ne (hB : Bd p s m meth c cc maxL ret own g) {x : Bool} {off : Int} {tgt : Nat} (hdg : decode cc pc = .ok (.ifCond .ne off, 3)) (ht : (pc : Int) + off = (tgt : Int)) (k1 : x = true → W p l e R s m args below meth c H locs cells slots Q (F0 m tgt ls rest)) (k2 : x = false → W p l e R s m args below meth c H locs cells slots Q (F0 m (pc + 3) ls rest)) : W p l e R s m args below meth c H locs cells slots Q (F0 m pc ls (.int (bI x) :: rest)) := by
  refine lv_if_ne hB.x hB.b hdg ht (fun q => k1 ?_) (fun q => k2 ?_)
  all_goals (cases x <;> simp [bI] at q ⊢)
theorem mn_iald (hB : Bd p s m meth c cc maxL ret own g) {n : Nat} {f : Nat → Int32} (ha : at_ g H a (eI g n f)) {k : Nat} (hk : k < n) (hn : n < 2147483648) (hdg : decode cc pc = .ok (.iaload, 1)) (kk : W p l e R s m args below meth c H locs cells slots Q (F0 m (pc + 1) ls (.int (f k) :: rest))) : W p l e R s m args below meth c H locs cells slots Q (F0 m pc ls (.int (nI k) :: .ref a :: rest)) := mh_iald hB ha (vp_in_nI hk hn) hdg (by rw [nI_clamp (Nat.lt_trans hk hn)]; exact kk)
theorem mn_bald (hB : Bd p s m meth c cc maxL ret own g) {n : Nat} {f : Nat → Int32} (ha : at_ g H a (eB g n f)) {k : Nat} (hk : k < n) (hn : n < 2147483648) (hdg : decode cc pc = .ok (.baload, 1)) (kk : W p l e R s m args below meth c H locs cells slots Q (F0 m (pc + 1) ls (.int (f k) :: rest))) : W p l e R s m args below meth c H locs cells slots Q (F0 m pc ls (.int (nI k) :: .ref a :: rest)) := mh_bald hB ha (vp_in_nI hk hn) hdg (by rw [nI_clamp (Nat.lt_trans hk hn)]; exact kk)
theorem mn_zald (hB : Bd p s m meth c cc maxL ret own g) {n : Nat} {f : Nat → Int32} (ha : at_ g H a (eZ g n f)) {k : Nat} (hk : k < n) (hn : n < 2147483648) (hdg : decode cc pc = .ok (.baload, 1)) (kk : W p l e R s m args below meth c H locs cells slots Q (F0 m (pc + 1) ls (.int (f k) :: rest))) : W p l e R s m args below meth c H locs cells slots Q (F0 m pc ls (.int (nI k) :: .ref a :: rest)) := mh_zald hB ha (vp_in_nI hk hn) hdg (by rw [nI_clamp (Nat.lt_trans hk hn)]; exact kk)
theorem mn_qald (k0 : Nat) {C : String} (hk0 : (tysA g.2)[k0]? = some (g.2 k0, .object C)) (hB : Bd p s m meth c cc maxL ret own g) {n : Nat} {f : Nat → Option Nat} (ha : at_ g H a (eQ g k0 n f)) {k : Nat} (hk : k < n) (hn : n < 2147483648) {y : Nat} (hy : f k = some y) (hdg : decode cc pc = .ok (.aaload, 1)) (kk : W p l e R s m args below meth c H locs cells slots Q (F0 m (pc + 1) ls (.ref y :: rest))) : W p l e R s m args below meth c H locs cells slots Q (F0 m pc ls (.int (nI k) :: .ref a :: rest)) := mh_qald k0 hk0 hB ha (vp_in_nI hk hn) hdg (by rw [nI_clamp (Nat.lt_trans hk hn), hy]; exact kk)
theorem mn_qaldN (k0 : Nat) {C : String} (hk0 : (tysA g.2)[k0]? = some (g.2 k0, .object C)) (hB : Bd p s m meth c cc maxL ret own g) {n : Nat} {f : Nat → Option Nat} (ha : at_ g H a (eQ g k0 n f)) {k : Nat} (hk : k < n) (hn : n < 2147483648) (hy : f k = none) (hdg : decode cc pc = .ok (.aaload, 1)) (kk : W p l e R s m args below meth c H locs cells slots Q (F0 m (pc + 1) ls (.null :: rest))) : W p l e R s m args below meth c H locs cells slots Q (F0 m pc ls (.int (nI k) :: .ref a :: rest)) := mh_qald k0 hk0 hB ha (vp_in_nI hk hn) hdg (by rw [nI_clamp (Nat.lt_trans hk hn), hy]; exact kk)
theorem mn_iast (hB : Bd p s m meth c cc maxL ret own g) {n : Nat} {f : Nat → Int32} (ha : at_ g H a (eI g n f)) (haA : A a) (hS0 : va_S A H0 H locs) {k : Nat} {x : Int32} (hk : k < n) (hn : n < 2147483648) (hdg : decode cc pc = .ok (.iastore, 1)) (kk : ∀ (H1 : Heap) (locs1 : List Loc), Wr g A H0 H a (eI g n (upd f k x)) H1 locs1 → W p l e R s m args below meth c H1 locs1 cells slots Q (F0 m (pc + 1) ls rest)) : W p l e R s m args below meth c H locs cells slots Q (F0 m pc ls (.int x :: .int (nI k) :: .ref a :: rest)) := mh_iast hB ha haA hS0 (vp_in_nI hk hn) hdg (by rw [nI_clamp (Nat.lt_trans hk hn)]; exact kk)
theorem mn_bast (hB : Bd p s m meth c cc maxL ret own g) {n : Nat} {f : Nat → Int32} (ha : at_ g H a (eB g n f)) (haA : A a) (hS0 : va_S A H0 H locs) {k : Nat} {x : Int32} (hk : k < n) (hn : n < 2147483648) (hdg : decode cc pc = .ok (.bastore, 1)) (kk : ∀ (H1 : Heap) (locs1 : List Loc), Wr g A H0 H a (eB g n (upd f k (vp_nar .byte x))) H1 locs1 → W p l e R s m args below meth c H1 locs1 cells slots Q (F0 m (pc + 1) ls rest)) : W p l e R s m args below meth c H locs cells slots Q (F0 m pc ls (.int x :: .int (nI k) :: .ref a :: rest)) := mh_bast hB ha haA hS0 (vp_in_nI hk hn) hdg (by rw [nI_clamp (Nat.lt_trans hk hn)]; exact kk)
theorem mn_zast (hB : Bd p s m meth c cc maxL ret own g) {n : Nat} {f : Nat → Int32} (ha : at_ g H a (eZ g n f)) (haA : A a) (hS0 : va_S A H0 H locs) {k : Nat} {x : Int32} (hk : k < n) (hn : n < 2147483648) (hdg : decode cc pc = .ok (.bastore, 1)) (kk : ∀ (H1 : Heap) (locs1 : List Loc), Wr g A H0 H a (eZ g n (upd f k (vp_nar .boolean x))) H1 locs1 → W p l e R s m args below meth c H1 locs1 cells slots Q (F0 m (pc + 1) ls rest)) : W p l e R s m args below meth c H locs cells slots Q (F0 m pc ls (.int x :: .int (nI k) :: .ref a :: rest)) := mh_zast hB ha haA hS0 (vp_in_nI hk hn) hdg (by rw [nI_clamp (Nat.lt_trans hk hn)]; exact kk)
theorem mn_qast (k0 : Nat) {C : String} {T : u_T} {N ci : Nat} (hk0 : (tysA g.2)[k0]? = some (g.2 k0, .object C)) (hc : vwCl[ci]? = some (C, T, N)) (hB : Bd p s m meth c cc maxL ret own g) {n v : Nat} {f : Nat → Option Nat} {vs : List Value} (ha : at_ g H a (eQ g k0 n f)) (haA : A a) (hv : at_ g H v (eO ci vs)) (hS0 : va_S A H0 H locs) {k : Nat} (hk : k < n) (hn : n < 2147483648) (hdg : decode cc pc = .ok (.aastore, 1)) (kk : ∀ (H1 : Heap) (locs1 : List Loc), Wr g A H0 H a (eQ g k0 n (va_up f k (some v))) H1 locs1 → W p l e R s m args below meth c H1 locs1 cells slots Q (F0 m (pc + 1) ls rest)) : W p l e R s m args below meth c H locs cells slots Q (F0 m pc ls (.ref v :: .int (nI k) :: .ref a :: rest)) := mh_qast k0 hk0 hc hB ha haA hv hS0 (vp_in_nI hk hn) hdg (by rw [nI_clamp (Nat.lt_trans hk hn)]; exact kk)
theorem mh_loop {σ : Type} {st0 : List Value} (Inv : σ → Heap → List Loc → Array Slot → Prop) (μ : σ → Nat)
    (step : ∀ (x : σ) (H : Heap) (locs : List Loc) (ls : Array Slot), Inv x H locs ls → (∀ (y : σ) (H' : Heap) (locs' : List Loc) (ls' : Array Slot), Inv y H' locs' ls' → μ y < μ x → W p l e R s m args below meth c H' locs' cells slots Q (F0 m pc ls' st0)) → W p l e R s m args below meth c H locs cells slots Q (F0 m pc ls st0)) (x0 : σ) (h0 : Inv x0 H locs ls) : W p l e R s m args below meth c H locs cells slots Q (F0 m pc ls st0) := by
  have key : ∀ (n : Nat) (x : σ) (H : Heap) (locs : List Loc) (ls : Array Slot), μ x < n → Inv x H locs ls → W p l e R s m args below meth c H locs cells slots Q (F0 m pc ls st0) := by
    intro n
    induction n with
    | zero => intro x H locs ls h; exact absurd h (Nat.not_lt_zero _)
    | succ n ih => intro x H locs ls h hI; exact step x H locs ls hI (fun y H' locs' ls' hI' hm => ih y H' locs' ls' (by omega) hI')
  exact key (μ x0 + 1) x0 H locs ls (Nat.lt_succ_self _) h0
theorem mh_loopR {σ : Type} {st0 : List Value} (Inv : σ → List Loc → Array Slot → Prop) (μ : σ → Nat)
    (step : ∀ (x : σ) (locs : List Loc) (ls : Array Slot), Inv x locs ls → (∀ (y : σ) (locs' : List Loc) (ls' : Array Slot), Inv y locs' ls' → μ y < μ x → W p l e R s m args below meth c H locs' cells slots Q (F0 m pc ls' st0)) → W p l e R s m args below meth c H locs cells slots Q (F0 m pc ls st0)) (x0 : σ) (h0 : Inv x0 locs ls) : W p l e R s m args below meth c H locs cells slots Q (F0 m pc ls st0) := by
  have key : ∀ (n : Nat) (x : σ) (locs : List Loc) (ls : Array Slot), μ x < n → Inv x locs ls → W p l e R s m args below meth c H locs cells slots Q (F0 m pc ls st0) := by
    intro n
    induction n with
    | zero => intro x locs ls h; exact absurd h (Nat.not_lt_zero _)
    | succ n ih => intro x locs ls h hI; exact step x locs ls hI (fun y locs' ls' hI' hm => ih y locs' ls' (by omega) hI')
  exact key (μ x0 + 1) x0 locs ls (Nat.lt_succ_self _) h0
theorem mh_join {σ : Type} {g0 : JFrame} (pcJ : Nat) (st : σ → List Value) (Inv : σ → Heap → List Loc → Array Slot → Prop) (use : (∀ (x : σ) (H' : Heap) (locs' : List Loc) (ls' : Array Slot), Inv x H' locs' ls' → W p l e R s m args below meth c H' locs' cells slots Q (F0 m pcJ ls' (st x))) → W p l e R s m args below meth c H locs cells slots Q g0)
    (hJ : ∀ (x : σ) (H' : Heap) (locs' : List Loc) (ls' : Array Slot), Inv x H' locs' ls' → W p l e R s m args below meth c H' locs' cells slots Q (F0 m pcJ ls' (st x))) : W p l e R s m args below meth c H locs cells slots Q g0 := use hJ
theorem mh_joinR {σ : Type} {g0 : JFrame} (pcJ : Nat) (st : σ → List Value) (Inv : σ → List Loc → Array Slot → Prop) (use : (∀ (x : σ) (locs' : List Loc) (ls' : Array Slot), Inv x locs' ls' → W p l e R s m args below meth c H locs' cells slots Q (F0 m pcJ ls' (st x))) → W p l e R s m args below meth c H locs cells slots Q g0)
    (hJ : ∀ (x : σ) (locs' : List Loc) (ls' : Array Slot), Inv x locs' ls' → W p l e R s m args below meth c H locs' cells slots Q (F0 m pcJ ls' (st x))) : W p l e R s m args below meth c H locs cells slots Q g0 := use hJ
theorem lgc {x y : Int64} : (lg_cmp x y < 0 ↔ x.toInt < y.toInt) ∧ (0 < lg_cmp x y ↔ y.toInt < x.toInt) ∧ (lg_cmp x y = 0 ↔ x.toInt = y.toInt) := by
  unfold lg_cmp
  by_cases h1 : y < x
  · have h2 := Int64.lt_iff_toInt_lt.mp h1
    simp only [h1, if_true]
    refine ⟨⟨fun h => absurd h (by decide), fun h => by omega⟩, ⟨fun _ => h2, fun _ => by decide⟩, ⟨fun h => absurd h (by decide), fun h => by omega⟩⟩
  · have h2 : ¬ y.toInt < x.toInt := fun z => h1 (Int64.lt_iff_toInt_lt.mpr z)
    by_cases h3 : x = y
    · subst h3
      rw [if_neg h1, if_pos rfl]
      refine ⟨⟨fun h => absurd h (by decide), fun h => by omega⟩, ⟨fun h => absurd h (by decide), fun h => by omega⟩, ⟨fun _ => rfl, fun _ => rfl⟩⟩
    · have h4 : x.toInt ≠ y.toInt := fun z => h3 (Int64.toInt_inj.mp z)
      simp only [h1, h3, if_false]
      refine ⟨⟨fun _ => by omega, fun _ => by decide⟩, ⟨fun h => absurd h (by decide), fun h => by omega⟩, ⟨fun h => absurd h (by decide), fun h => by omega⟩⟩
theorem ml_if_lt (hB : Bd p s m meth c cc maxL ret own g) {x y : Int64} {off : Int} {tgt : Nat} (hdg : decode cc pc = .ok (.ifCond .lt off, 3)) (ht : (pc : Int) + off = (tgt : Int)) (k1 : x.toInt < y.toInt → W p l e R s m args below meth c H locs cells slots Q (F0 m tgt ls rest)) (k2 : y.toInt ≤ x.toInt → W p l e R s m args below meth c H locs cells slots Q (F0 m (pc + 3) ls rest)) : W p l e R s m args below meth c H locs cells slots Q (F0 m pc ls (.int (lg_cmp x y) :: rest)) := by
  have e0 := (lgc (x := x) (y := y))
  have e1 := (Int32.not_lt (a := lg_cmp x y) (b := 0))
  have e2 := (Int32.not_lt (a := 0) (b := lg_cmp x y))
  refine lv_if_lt hB.x hB.b hdg ht (fun q => k1 ?_) (fun q => k2 ?_)
  all_goals first | exact e0.1.mp q | exact e0.2.1.mp q | exact e0.2.2.mp q | exact fun z => q (e0.2.2.mpr z) | exact Decidable.byContradiction fun z => q (fun y => z (e0.2.2.mp y)) | exact Int.not_lt.mp fun z => q (e0.1.mpr z) | exact Int.not_lt.mp fun z => q (e0.2.1.mpr z) | exact Int.not_lt.mp fun z => (e1.mpr q) (e0.1.mpr z) | exact Int.not_lt.mp fun z => (e2.mpr q) (e0.2.1.mpr z) | exact Int.not_le.mp fun z => q (e1.mp (fun y => absurd (e0.1.mp y) (Int.not_lt.mpr z))) | exact Int.not_le.mp fun z => q (e2.mp (fun y => absurd (e0.2.1.mp y) (Int.not_lt.mpr z)))
theorem ml_if_gt (hB : Bd p s m meth c cc maxL ret own g) {x y : Int64} {off : Int} {tgt : Nat} (hdg : decode cc pc = .ok (.ifCond .gt off, 3)) (ht : (pc : Int) + off = (tgt : Int)) (k1 : y.toInt < x.toInt → W p l e R s m args below meth c H locs cells slots Q (F0 m tgt ls rest)) (k2 : x.toInt ≤ y.toInt → W p l e R s m args below meth c H locs cells slots Q (F0 m (pc + 3) ls rest)) : W p l e R s m args below meth c H locs cells slots Q (F0 m pc ls (.int (lg_cmp x y) :: rest)) := by
  have e0 := (lgc (x := x) (y := y))
  have e1 := (Int32.not_lt (a := lg_cmp x y) (b := 0))
  have e2 := (Int32.not_lt (a := 0) (b := lg_cmp x y))
  refine lv_if_gt hB.x hB.b hdg ht (fun q => k1 ?_) (fun q => k2 ?_)
  all_goals first | exact e0.1.mp q | exact e0.2.1.mp q | exact e0.2.2.mp q | exact fun z => q (e0.2.2.mpr z) | exact Decidable.byContradiction fun z => q (fun y => z (e0.2.2.mp y)) | exact Int.not_lt.mp fun z => q (e0.1.mpr z) | exact Int.not_lt.mp fun z => q (e0.2.1.mpr z) | exact Int.not_lt.mp fun z => (e1.mpr q) (e0.1.mpr z) | exact Int.not_lt.mp fun z => (e2.mpr q) (e0.2.1.mpr z) | exact Int.not_le.mp fun z => q (e1.mp (fun y => absurd (e0.1.mp y) (Int.not_lt.mpr z))) | exact Int.not_le.mp fun z => q (e2.mp (fun y => absurd (e0.2.1.mp y) (Int.not_lt.mpr z)))
theorem ml_if_ge (hB : Bd p s m meth c cc maxL ret own g) {x y : Int64} {off : Int} {tgt : Nat} (hdg : decode cc pc = .ok (.ifCond .ge off, 3)) (ht : (pc : Int) + off = (tgt : Int)) (k1 : y.toInt ≤ x.toInt → W p l e R s m args below meth c H locs cells slots Q (F0 m tgt ls rest)) (k2 : x.toInt < y.toInt → W p l e R s m args below meth c H locs cells slots Q (F0 m (pc + 3) ls rest)) : W p l e R s m args below meth c H locs cells slots Q (F0 m pc ls (.int (lg_cmp x y) :: rest)) := by
  have e0 := (lgc (x := x) (y := y))
  have e1 := (Int32.not_lt (a := lg_cmp x y) (b := 0))
  have e2 := (Int32.not_lt (a := 0) (b := lg_cmp x y))
  refine lv_if_ge hB.x hB.b hdg ht (fun q => k1 ?_) (fun q => k2 ?_)
  all_goals first | exact e0.1.mp q | exact e0.2.1.mp q | exact e0.2.2.mp q | exact fun z => q (e0.2.2.mpr z) | exact Decidable.byContradiction fun z => q (fun y => z (e0.2.2.mp y)) | exact Int.not_lt.mp fun z => q (e0.1.mpr z) | exact Int.not_lt.mp fun z => q (e0.2.1.mpr z) | exact Int.not_lt.mp fun z => (e1.mpr q) (e0.1.mpr z) | exact Int.not_lt.mp fun z => (e2.mpr q) (e0.2.1.mpr z) | exact Int.not_le.mp fun z => q (e1.mp (fun y => absurd (e0.1.mp y) (Int.not_lt.mpr z))) | exact Int.not_le.mp fun z => q (e2.mp (fun y => absurd (e0.2.1.mp y) (Int.not_lt.mpr z)))
theorem ml_if_le (hB : Bd p s m meth c cc maxL ret own g) {x y : Int64} {off : Int} {tgt : Nat} (hdg : decode cc pc = .ok (.ifCond .le off, 3)) (ht : (pc : Int) + off = (tgt : Int)) (k1 : x.toInt ≤ y.toInt → W p l e R s m args below meth c H locs cells slots Q (F0 m tgt ls rest)) (k2 : y.toInt < x.toInt → W p l e R s m args below meth c H locs cells slots Q (F0 m (pc + 3) ls rest)) : W p l e R s m args below meth c H locs cells slots Q (F0 m pc ls (.int (lg_cmp x y) :: rest)) := by
  have e0 := (lgc (x := x) (y := y))
  have e1 := (Int32.not_lt (a := lg_cmp x y) (b := 0))
  have e2 := (Int32.not_lt (a := 0) (b := lg_cmp x y))
  refine lv_if_le hB.x hB.b hdg ht (fun q => k1 ?_) (fun q => k2 ?_)
  all_goals first | exact e0.1.mp q | exact e0.2.1.mp q | exact e0.2.2.mp q | exact fun z => q (e0.2.2.mpr z) | exact Decidable.byContradiction fun z => q (fun y => z (e0.2.2.mp y)) | exact Int.not_lt.mp fun z => q (e0.1.mpr z) | exact Int.not_lt.mp fun z => q (e0.2.1.mpr z) | exact Int.not_lt.mp fun z => (e1.mpr q) (e0.1.mpr z) | exact Int.not_lt.mp fun z => (e2.mpr q) (e0.2.1.mpr z) | exact Int.not_le.mp fun z => q (e1.mp (fun y => absurd (e0.1.mp y) (Int.not_lt.mpr z))) | exact Int.not_le.mp fun z => q (e2.mp (fun y => absurd (e0.2.1.mp y) (Int.not_lt.mpr z)))
theorem ml_if_eq (hB : Bd p s m meth c cc maxL ret own g) {x y : Int64} {off : Int} {tgt : Nat} (hdg : decode cc pc = .ok (.ifCond .eq off, 3)) (ht : (pc : Int) + off = (tgt : Int)) (k1 : x.toInt = y.toInt → W p l e R s m args below meth c H locs cells slots Q (F0 m tgt ls rest)) (k2 : ¬ x.toInt = y.toInt → W p l e R s m args below meth c H locs cells slots Q (F0 m (pc + 3) ls rest)) : W p l e R s m args below meth c H locs cells slots Q (F0 m pc ls (.int (lg_cmp x y) :: rest)) := by
  have e0 := (lgc (x := x) (y := y))
  have e1 := (Int32.not_lt (a := lg_cmp x y) (b := 0))
  have e2 := (Int32.not_lt (a := 0) (b := lg_cmp x y))
  refine lv_if_eq hB.x hB.b hdg ht (fun q => k1 ?_) (fun q => k2 ?_)
  all_goals first | exact e0.1.mp q | exact e0.2.1.mp q | exact e0.2.2.mp q | exact fun z => q (e0.2.2.mpr z) | exact Decidable.byContradiction fun z => q (fun y => z (e0.2.2.mp y)) | exact Int.not_lt.mp fun z => q (e0.1.mpr z) | exact Int.not_lt.mp fun z => q (e0.2.1.mpr z) | exact Int.not_lt.mp fun z => (e1.mpr q) (e0.1.mpr z) | exact Int.not_lt.mp fun z => (e2.mpr q) (e0.2.1.mpr z) | exact Int.not_le.mp fun z => q (e1.mp (fun y => absurd (e0.1.mp y) (Int.not_lt.mpr z))) | exact Int.not_le.mp fun z => q (e2.mp (fun y => absurd (e0.2.1.mp y) (Int.not_lt.mpr z)))
theorem ml_if_ne (hB : Bd p s m meth c cc maxL ret own g) {x y : Int64} {off : Int} {tgt : Nat} (hdg : decode cc pc = .ok (.ifCond .ne off, 3)) (ht : (pc : Int) + off = (tgt : Int)) (k1 : ¬ x.toInt = y.toInt → W p l e R s m args below meth c H locs cells slots Q (F0 m tgt ls rest)) (k2 : x.toInt = y.toInt → W p l e R s m args below meth c H locs cells slots Q (F0 m (pc + 3) ls rest)) : W p l e R s m args below meth c H locs cells slots Q (F0 m pc ls (.int (lg_cmp x y) :: rest)) := by
  have e0 := (lgc (x := x) (y := y))
  have e1 := (Int32.not_lt (a := lg_cmp x y) (b := 0))
  have e2 := (Int32.not_lt (a := 0) (b := lg_cmp x y))
  refine lv_if_ne hB.x hB.b hdg ht (fun q => k1 ?_) (fun q => k2 ?_)
  all_goals first | exact e0.1.mp q | exact e0.2.1.mp q | exact e0.2.2.mp q | exact fun z => q (e0.2.2.mpr z) | exact Decidable.byContradiction fun z => q (fun y => z (e0.2.2.mp y)) | exact Int.not_lt.mp fun z => q (e0.1.mpr z) | exact Int.not_lt.mp fun z => q (e0.2.1.mpr z) | exact Int.not_lt.mp fun z => (e1.mpr q) (e0.1.mpr z) | exact Int.not_lt.mp fun z => (e2.mpr q) (e0.2.1.mpr z) | exact Int.not_le.mp fun z => q (e1.mp (fun y => absurd (e0.1.mp y) (Int.not_lt.mpr z))) | exact Int.not_le.mp fun z => q (e2.mp (fun y => absurd (e0.2.1.mp y) (Int.not_lt.mpr z)))
end MN
