def rm_c_X6_at : Room := { frames := 0, cells := 0, slots := 0, locals := 0 }
set_option maxRecDepth 100000 in
set_option maxHeartbeats 400000 in
theorem c_X6_at (l : Launch) (g : GG) (H0 : Heap) (a : Nat) (n : Nat) (f : Nat → Int32) (k : Nat) (ha : at_ g H0 a (eI g n f)) (hk : k < n) (hn : n < 2147483648) : Ct l yX6_at cX6_at 2 (some .int) rm_c_X6_at g [.ref a, .int (nI k)] H0 (ftA (fun _ => False) H0.size) (fun v H1 => v = some (.int (f k)) ∧ H0 = H1) := by
  refine Ct.of (by decide) (fun _ h => Or.inr h) (Nat.le_of_ble_eq_true rfl) ?_
  intro p e s m below meth c ls hB hin hS hH hl
  have hx := hB.x
  have hb := hB.b
  have hl : lv_has ls 2 [(0, .ref a), (1, .int (nI k))] := hl
  refine lv_iload_n hx hb dX6_at_0 rfl (lv_at hl 1 rfl) ?_
  refine mn_if_lt (tgt := 16) hB dX6_at_1 (by decide) (by omega) (fun h => by exfalso; omega) (fun h_1 => ?_)
  refine lv_iload_n hx hb dX6_at_4 rfl (lv_at hl 1 rfl) ?_
  refine lv_aload_n hx hb dX6_at_5 rfl (lv_at hl 0 rfl) ?_
  refine mh_alen hB 0 rfl ha dX6_at_6 ?_
  refine mn_icmp_ge (tgt := 16) hB dX6_at_7 (by decide) (by omega) (by omega) (fun h => by exfalso; omega) (fun h_7 => ?_)
  refine lv_aload_n hx hb dX6_at_10 rfl (lv_at hl 0 rfl) ?_
  refine lv_iload_n hx hb dX6_at_11 rfl (lv_at hl 1 rfl) ?_
  refine mn_iald hB ha (by omega) (by omega) dX6_at_12 ?_
  refine lv_goto (tgt := 17) hx hb dX6_at_13 (by decide) ?_
  refine mh_iret hB ⟨Nat.le_of_ble_eq_true rfl, Nat.le_of_ble_eq_true rfl⟩ hS dX6_at_17 ⟨?_, rfl⟩
  · rfl

def rm_c_X6_at_out : Room := { frames := 0, cells := 0, slots := 0, locals := 0 }
set_option maxRecDepth 100000 in
set_option maxHeartbeats 400000 in
theorem c_X6_at_out (l : Launch) (g : GG) (H0 : Heap) (a : Nat) (x : Int32) (hk : x < 0) : Ct l yX6_at cX6_at 2 (some .int) rm_c_X6_at_out g [.ref a, .int x] H0 (ftA (fun _ => False) H0.size) (fun v H1 => v = some (.int (nI 0)) ∧ H0 = H1) := by
  refine Ct.of (by decide) (fun _ h => Or.inr h) (Nat.le_of_ble_eq_true rfl) ?_
  intro p e s m below meth c ls hB hin hS hH hl
  have hx := hB.x
  have hb := hB.b
  have hl : lv_has ls 2 [(0, .ref a), (1, .int x)] := hl
  refine lv_iload_n hx hb dX6_at_0 rfl (lv_at hl 1 rfl) ?_
  refine lv_if_lt (tgt := 16) hx hb dX6_at_1 (by decide) (fun h_1 => ?_) (fun h => absurd hk h)
  refine lv_iconst (v := nI 0) hx hb dX6_at_16 (by decide) ?_
  refine mh_iret hB ⟨Nat.le_of_ble_eq_true rfl, Nat.le_of_ble_eq_true rfl⟩ hS dX6_at_17 ⟨?_, rfl⟩
  · rfl

def rm_c_X6_put : Room := { frames := 0, cells := 0, slots := 0, locals := 0 }
set_option maxRecDepth 100000 in
set_option maxHeartbeats 400000 in
theorem c_X6_put (l : Launch) (g : GG) (H0 : Heap) (a : Nat) (n : Nat) (f : Nat → Int32) (k : Nat) (x : Int32) (ha : at_ g H0 a (eI g n f)) (hk : k < n) (hn : n < 2147483648) : Ct l yX6_put cX6_put 3 none rm_c_X6_put g [.ref a, .int (nI k), .int x] H0 (ftA (fun q => q = a) H0.size) (fun v H1 => v = none ∧ at_ g H1 a (eI g n (upd f k x))) := by
  refine Ct.of (by decide) (fun _ h => Or.inr h) (Nat.le_of_ble_eq_true rfl) ?_
  intro p e s m below meth c ls hB hin hS hH hl
  have hx := hB.x
  have hb := hB.b
  have hl : lv_has ls 3 [(0, .ref a), (1, .int (nI k)), (2, .int x)] := hl
  refine lv_iload_n hx hb dX6_put_0 rfl (lv_at hl 1 rfl) ?_
  refine mn_if_lt (tgt := 14) hB dX6_put_1 (by decide) (by omega) (fun h => by exfalso; omega) (fun h_1 => ?_)
  refine lv_iload_n hx hb dX6_put_4 rfl (lv_at hl 1 rfl) ?_
  refine lv_aload_n hx hb dX6_put_5 rfl (lv_at hl 0 rfl) ?_
  refine mh_alen hB 0 rfl ha dX6_put_6 ?_
  refine mn_icmp_ge (tgt := 14) hB dX6_put_7 (by decide) (by omega) (by omega) (fun h => by exfalso; omega) (fun h_7 => ?_)
  refine lv_aload_n hx hb dX6_put_10 rfl (lv_at hl 0 rfl) ?_
  refine lv_iload_n hx hb dX6_put_11 rfl (lv_at hl 1 rfl) ?_
  refine lv_iload_n hx hb dX6_put_12 rfl (lv_at hl 2 rfl) ?_
  refine mn_iast hB ha (by first | exact Or.inl rfl | (simp only [ftA]; omega) | (simp [ftA]; omega)) hS (by omega) (by omega) dX6_put_13 (fun H locs hwr => ?_)
  obtain ⟨ha, ho, hz, hS⟩ := hwr
  refine mh_vret hB ⟨Nat.le_of_ble_eq_true rfl, Nat.le_of_ble_eq_true rfl⟩ hS dX6_put_14 ⟨?_, ?_⟩
  · rfl
  · exact ha

def rm_c_X6_add : Room := { frames := 1, cells := 0, slots := 0, locals := 22 }
set_option maxRecDepth 100000 in
set_option maxHeartbeats 400000 in
theorem c_X6_add (l : Launch) (g : GG) (H0 : Heap) (a : Nat) (n : Nat) (f : Nat → Int32) (k : Nat) (x : Int32) (ha : at_ g H0 a (eI g n f)) (hk : k < n) (hn : n < 2147483648) : Ct l yX6_add cX6_add 3 none rm_c_X6_add g [.ref a, .int (nI k), .int x] H0 (ftA (fun q => q = a) H0.size) (fun v H1 => v = none ∧ at_ g H1 a (eI g n (upd f k (f k + x)))) := by
  refine Ct.of (by decide) (fun _ h => Or.inr h) (Nat.le_of_ble_eq_true rfl) ?_
  intro p e s m below meth c ls hB hin hS hH hl
  have hx := hB.x
  have hb := hB.b
  have hl : lv_has ls 3 [(0, .ref a), (1, .int (nI k)), (2, .int x)] := hl
  refine lv_aload_n hx hb dX6_add_0 rfl (lv_at hl 0 rfl) ?_
  refine lv_iload_n hx hb dX6_add_1 rfl (lv_at hl 1 rfl) ?_
  refine lv_aload_n hx hb dX6_add_2 rfl (lv_at hl 0 rfl) ?_
  refine lv_iload_n hx hb dX6_add_3 rfl (lv_at hl 1 rfl) ?_
  refine cl_X6_7 (As := [.ref a, .int (nI k)]) (rest := [.int (nI k), .ref a]) hB (c_X6_at l g H0 a n f k ha (by first | assumption | omega) (by first | assumption | omega)) rfl hl.1 (Nat.le_of_ble_eq_true rfl) dX6_add_4 ⟨Nat.le_of_ble_eq_true rfl, Nat.le_of_ble_eq_true rfl⟩ ⟨Nat.le_of_ble_eq_true rfl, Nat.le_of_ble_eq_true rfl⟩ hS (by have hz9 := hS.1; rintro q (h | h) <;> first | exact Or.inr (by omega) | exact h.elim | exact Or.inl h | (simp only [ftA] at h ⊢; omega)) (fun v H1 locs hpo hfr hS => ?_)
  obtain ⟨rfl, rfl⟩ := hpo
  refine W.widen (k := 0) (n := 0) (Nat.le_of_ble_eq_true rfl) (Nat.le_of_ble_eq_true rfl) ?_
  refine lv_iload_n hx hb dX6_add_7 rfl (lv_at hl 2 rfl) ?_
  refine lv_iadd hx hb dX6_add_8 ?_
  refine cl_X6_13 (As := [.ref a, .int (nI k), .int ((f k) + x)]) (rest := []) hB (c_X6_put l g H0 a n f k ((f k) + x) ha (by first | assumption | omega) (by first | assumption | omega)) rfl hl.1 (Nat.le_of_ble_eq_true rfl) dX6_add_9 ⟨Nat.le_of_ble_eq_true rfl, Nat.le_of_ble_eq_true rfl⟩ ⟨Nat.le_of_ble_eq_true rfl, Nat.le_of_ble_eq_true rfl⟩ hS (by have hz9 := hS.1; rintro q (h | h) <;> first | exact Or.inr (by omega) | exact h.elim | exact Or.inl h | (simp only [ftA] at h ⊢; omega)) (fun v H1 locs hpo hfr hS => ?_)
  obtain ⟨rfl, ha⟩ := hpo
  generalize H1 = H at hfr hS ha ⊢
  refine W.widen (k := 0) (n := 0) (Nat.le_of_ble_eq_true rfl) (Nat.le_of_ble_eq_true rfl) ?_
  refine mh_vret hB ⟨Nat.le_of_ble_eq_true rfl, Nat.le_of_ble_eq_true rfl⟩ hS dX6_add_12 ⟨?_, ?_⟩
  · rfl
  · exact ha

def rm_c_X6_sum : Room := { frames := 0, cells := 0, slots := 0, locals := 0 }
set_option maxRecDepth 100000 in
set_option maxHeartbeats 400000 in
theorem c_X6_sum (l : Launch) (g : GG) (H0 : Heap) (a : Nat) (n : Nat) (f : Nat → Int32) (ha : at_ g H0 a (eI g n f)) (hn : n < 2147483648) : Ct l yX6_sum cX6_sum 3 (some .int) rm_c_X6_sum g [.ref a] H0 (ftA (fun _ => False) H0.size) (fun v H1 => v = some (.int (bx_sum f n)) ∧ H0 = H1) := by
  refine Ct.of (by decide) (fun _ h => Or.inr h) (Nat.le_of_ble_eq_true rfl) ?_
  intro p e s m below meth c ls hB hin hS hH hl
  have hx := hB.x
  have hb := hB.b
  have hl : lv_has ls 3 [(0, .ref a)] := hl
  refine lv_iconst (v := nI 0) hx hb dX6_sum_0 (by decide) ?_
  refine lv_istore_n (lv' := [(1, .int (nI 0)), (0, .ref a)]) hx hb dX6_sum_1 rfl hl (by decide) rfl (fun ls hl => ?_)
  refine lv_iconst (v := nI 0) hx hb dX6_sum_2 (by decide) ?_
  refine lv_istore_n (lv' := [(2, .int (nI 0)), (1, .int (nI 0)), (0, .ref a)]) hx hb dX6_sum_3 rfl hl (by decide) rfl (fun ls hl => ?_)
  refine mh_loopR (σ := Nat) (fun xx9 locs ls => match xx9 with | i => i ≤ n ∧ va_S (ftA (fun _ => False) H0.size) H0 H0 locs ∧ lv_has ls 3 [(0, .ref a), (1, .int (bx_sum f i)), (2, .int (nI i))]) (fun xx9 => match xx9 with | i => n - i) ?_ 0 ⟨(by omega), hS, lv_sub hl [2, 1, 0] rfl⟩
  rintro i locs ls ⟨hi, hS, hl⟩ ih
  have ih4 := ih
  refine lv_iload_n hx hb dX6_sum_4 rfl (lv_at hl 2 rfl) ?_
  refine lv_aload_n hx hb dX6_sum_5 rfl (lv_at hl 0 rfl) ?_
  refine mh_alen hB 0 rfl ha dX6_sum_6 ?_
  refine mn_icmp_ge (tgt := 22) hB dX6_sum_7 (by decide) (by omega) (by omega) (fun h_7 => ?_) (fun h_7 => ?_)
  · skip
    have hin : i = n := by omega
    subst hin
    refine lv_iload_n hx hb dX6_sum_22 rfl (lv_at hl 1 rfl) ?_
    refine mh_iret hB ⟨Nat.le_of_ble_eq_true rfl, Nat.le_of_ble_eq_true rfl⟩ hS dX6_sum_23 ⟨?_, rfl⟩
    · rfl
  · skip
    refine lv_iload_n hx hb dX6_sum_10 rfl (lv_at hl 1 rfl) ?_
    refine lv_aload_n hx hb dX6_sum_11 rfl (lv_at hl 0 rfl) ?_
    refine lv_iload_n hx hb dX6_sum_12 rfl (lv_at hl 2 rfl) ?_
    refine mn_iald hB ha (by omega) (by omega) dX6_sum_13 ?_
    refine lv_iadd hx hb dX6_sum_14 ?_
    refine mh_top (y := .int (bx_sum f (i + 1))) (rfl) ?_
    refine lv_istore_n (lv' := [(1, .int (bx_sum f (i + 1))), (0, .ref a), (2, .int (nI i))]) hx hb dX6_sum_15 rfl hl (by decide) rfl (fun ls hl => ?_)
    refine lv_iinc (v := nI (i + 1)) (lv' := [(2, .int (nI (i + 1))), (1, .int (bx_sum f (i + 1))), (0, .ref a)]) hx hb dX6_sum_16 hl (k := 2) rfl (nI_1 _) (by decide) rfl (fun ls hl => ?_)
    refine lv_goto (tgt := 4) hx hb dX6_sum_19 (by decide) ?_
    refine ih4 (i + 1) _ _ ⟨(by omega), hS, lv_sub hl [2, 1, 0] rfl⟩ (by dsimp only; omega)

def rm_c_X6_clear : Room := { frames := 0, cells := 0, slots := 0, locals := 0 }
set_option maxRecDepth 100000 in
set_option maxHeartbeats 400000 in
theorem c_X6_clear (l : Launch) (g : GG) (H0 : Heap) (a : Nat) (n : Nat) (f : Nat → Int32) (ha : at_ g H0 a (eI g n f)) (hn : n < 2147483648) : Ct l yX6_clear cX6_clear 2 none rm_c_X6_clear g [.ref a] H0 (ftA (fun q => q = a) H0.size) (fun v H1 => v = none ∧ at_ g H1 a (eI g n (fun _ => 0))) := by
  refine Ct.of (by decide) (fun _ h => Or.inr h) (Nat.le_of_ble_eq_true rfl) ?_
  intro p e s m below meth c ls hB hin hS hH hl
  have hx := hB.x
  have hb := hB.b
  have hl : lv_has ls 2 [(0, .ref a)] := hl
  refine lv_iconst (v := nI 0) hx hb dX6_clear_0 (by decide) ?_
  refine lv_istore_n (lv' := [(1, .int (nI 0)), (0, .ref a)]) hx hb dX6_clear_1 rfl hl (by decide) rfl (fun ls hl => ?_)
  refine mh_loop (σ := Nat) (fun xx9 H locs ls => match xx9 with | i => i ≤ n ∧ at_ g H a (eI g n (lowOf (fun _ => 0) f i)) ∧ va_S (ftA (fun q => q = a) H0.size) H0 H locs ∧ lv_has ls 2 [(0, .ref a), (1, .int (nI i))]) (fun xx9 => match xx9 with | i => n - i) ?_ 0 ⟨(by omega), (by rw [lowOf_0]; exact ha), hS, lv_sub hl [1, 0] rfl⟩
  rintro i H locs ls ⟨hi, ha, hS, hl⟩ ih
  have ih2 := ih
  refine lv_iload_n hx hb dX6_clear_2 rfl (lv_at hl 1 rfl) ?_
  refine lv_aload_n hx hb dX6_clear_3 rfl (lv_at hl 0 rfl) ?_
  refine mh_alen hB 0 rfl ha dX6_clear_4 ?_
  refine mn_icmp_ge (tgt := 18) hB dX6_clear_5 (by decide) (by omega) (by omega) (fun h_5 => ?_) (fun h_5 => ?_)
  · skip
    have hin : i = n := by omega
    subst hin
    refine mh_vret hB ⟨Nat.le_of_ble_eq_true rfl, Nat.le_of_ble_eq_true rfl⟩ hS dX6_clear_18 ⟨?_, ?_⟩
    · rfl
    · exact ha.eqI (fun j hj => lowOf_all _ _ hj)
  · skip
    refine lv_aload_n hx hb dX6_clear_8 rfl (lv_at hl 0 rfl) ?_
    refine lv_iload_n hx hb dX6_clear_9 rfl (lv_at hl 1 rfl) ?_
    refine lv_iconst (v := nI 0) hx hb dX6_clear_10 (by decide) ?_
    refine mn_iast hB ha (by first | exact Or.inl rfl | (simp only [ftA]; omega) | (simp [ftA]; omega)) hS (by omega) (by omega) dX6_clear_11 (fun H locs hwr => ?_)
    obtain ⟨ha, ho, hz, hS⟩ := hwr
    refine lv_iinc (v := nI (i + 1)) (lv' := [(1, .int (nI (i + 1))), (0, .ref a)]) hx hb dX6_clear_12 hl (k := 1) rfl (nI_1 _) (by decide) rfl (fun ls hl => ?_)
    refine lv_goto (tgt := 2) hx hb dX6_clear_15 (by decide) ?_
    refine ih2 (i + 1) _ _ _ ⟨(by omega), (by rw [← lowOf_up]; exact ha), hS, lv_sub hl [1, 0] rfl⟩ (by dsimp only; omega)

def rm_c_X6_copy : Room := { frames := 0, cells := 0, slots := 0, locals := 0 }
set_option maxRecDepth 100000 in
set_option maxHeartbeats 400000 in
theorem c_X6_copy (l : Launch) (g : GG) (H0 : Heap) (a : Nat) (b : Nat) (n : Nat) (f : Nat → Int32) (h : Nat → Int32) (ha : at_ g H0 a (eI g n f)) (hb9 : at_ g H0 b (eI g n h)) (hab : a ≠ b) (hn : n < 2147483648) : Ct l yX6_copy cX6_copy 3 none rm_c_X6_copy g [.ref a, .ref b] H0 (ftA (fun q => q = b) H0.size) (fun v H1 => v = none ∧ at_ g H1 b (eI g n f)) := by
  refine Ct.of (by decide) (fun _ h => Or.inr h) (Nat.le_of_ble_eq_true rfl) ?_
  intro p e s m below meth c ls hB hin hS hH hl
  have hx := hB.x
  have hb := hB.b
  have hl : lv_has ls 3 [(0, .ref a), (1, .ref b)] := hl
  refine lv_iconst (v := nI 0) hx hb dX6_copy_0 (by decide) ?_
  refine lv_istore_n (lv' := [(2, .int (nI 0)), (0, .ref a), (1, .ref b)]) hx hb dX6_copy_1 rfl hl (by decide) rfl (fun ls hl => ?_)
  refine mh_loop (σ := Nat) (fun xx9 H locs ls => match xx9 with | i => i ≤ n ∧ at_ g H a (eI g n f) ∧ at_ g H b (eI g n (lowOf f h i)) ∧ va_S (ftA (fun q => q = b) H0.size) H0 H locs ∧ lv_has ls 3 [(0, .ref a), (1, .ref b), (2, .int (nI i))]) (fun xx9 => match xx9 with | i => n - i) ?_ 0 ⟨(by omega), ha, (by rw [lowOf_0]; exact hb9), hS, lv_sub hl [1, 2, 0] rfl⟩
  rintro i H locs ls ⟨hi, ha, hb9, hS, hl⟩ ih
  have ih2 := ih
  refine lv_iload_n hx hb dX6_copy_2 rfl (lv_at hl 2 rfl) ?_
  refine lv_aload_n hx hb dX6_copy_3 rfl (lv_at hl 0 rfl) ?_
  refine mh_alen hB 0 rfl ha dX6_copy_4 ?_
  refine mn_icmp_ge (tgt := 26) hB dX6_copy_5 (by decide) (by omega) (by omega) (fun h_5 => ?_) (fun h_5 => ?_)
  · skip
    have hin : i = n := by omega
    subst hin
    refine mh_vret hB ⟨Nat.le_of_ble_eq_true rfl, Nat.le_of_ble_eq_true rfl⟩ hS dX6_copy_26 ⟨?_, ?_⟩
    · rfl
    · exact hb9.eqI (fun j hj => lowOf_all _ _ hj)
  · skip
    refine lv_iload_n hx hb dX6_copy_8 rfl (lv_at hl 2 rfl) ?_
    refine lv_aload_n hx hb dX6_copy_9 rfl (lv_at hl 1 rfl) ?_
    refine mh_alen hB 0 rfl hb9 dX6_copy_10 ?_
    refine mn_icmp_ge (tgt := 26) hB dX6_copy_11 (by decide) (by omega) (by omega) (fun h => by exfalso; omega) (fun h_11 => ?_)
    refine lv_aload_n hx hb dX6_copy_14 rfl (lv_at hl 1 rfl) ?_
    refine lv_iload_n hx hb dX6_copy_15 rfl (lv_at hl 2 rfl) ?_
    refine lv_aload_n hx hb dX6_copy_16 rfl (lv_at hl 0 rfl) ?_
    refine lv_iload_n hx hb dX6_copy_17 rfl (lv_at hl 2 rfl) ?_
    refine mn_iald hB ha (by omega) (by omega) dX6_copy_18 ?_
    refine mn_iast hB hb9 (by first | exact Or.inl rfl | (simp only [ftA]; omega) | (simp [ftA]; omega)) hS (by omega) (by omega) dX6_copy_19 (fun H locs hwr => ?_)
    obtain ⟨hb9, ho, hz, hS⟩ := hwr
    have ha := ha.kept (ho _ (by omega))
    refine lv_iinc (v := nI (i + 1)) (lv' := [(2, .int (nI (i + 1))), (0, .ref a), (1, .ref b)]) hx hb dX6_copy_20 hl (k := 2) rfl (nI_1 _) (by decide) rfl (fun ls hl => ?_)
    refine lv_goto (tgt := 2) hx hb dX6_copy_23 (by decide) ?_
    refine ih2 (i + 1) _ _ _ ⟨(by omega), ha, (by rw [← lowOf_up]; exact hb9), hS, lv_sub hl [1, 2, 0] rfl⟩ (by dsimp only; omega)
