/-! recolouring, shares: pure words -/
theorem mh_loopC {p : Program} {l : Launch} {e : Env} {R : Room} {s : State} {m : MethodId} {args : Array Value} {below : List Frame} {meth : Method} {c : Code} {H : Heap} {locs : List Loc} {Q : State → Prop} {pc : Nat} {ls : Array Slot} {σ : Type} {st0 : List Value} (Inv : σ → Heap → List Loc → Array Slot → Prop) (μ cN sN : σ → Nat)
    (step : ∀ (x : σ) (H : Heap) (locs : List Loc) (ls : Array Slot), Inv x H locs ls → (∀ (y : σ) (H' : Heap) (locs' : List Loc) (ls' : Array Slot), Inv y H' locs' ls' → μ y < μ x → W p l e R s m args below meth c H' locs' (cN y) (sN y) Q (F0 m pc ls' st0)) → W p l e R s m args below meth c H locs (cN x) (sN x) Q (F0 m pc ls st0)) (x0 : σ) (h0 : Inv x0 H locs ls) : W p l e R s m args below meth c H locs (cN x0) (sN x0) Q (F0 m pc ls st0) := by
  have key : ∀ (n : Nat) (x : σ) (H : Heap) (locs : List Loc) (ls : Array Slot), μ x < n → Inv x H locs ls → W p l e R s m args below meth c H locs (cN x) (sN x) Q (F0 m pc ls st0) := by
    intro n
    induction n with
    | zero => intro x H locs ls h; exact absurd h (Nat.not_lt_zero _)
    | succ n ih => intro x H locs ls h hI; exact step x H locs ls hI (fun y H' locs' ls' hI' hm => ih y H' locs' ls' (by omega) hI')
  exact key (μ x0 + 1) x0 H locs ls (Nat.lt_succ_self _) h0
theorem rec_dims {q : Nat → Int32} {f a b : Nat} (hab : a ≠ b) : wdF (recQ q f a b) f = wdF q f ∧ htF (recQ q f a b) f = htF q f := by
  unfold recQ
  rw [if_neg hab]
  exact ⟨qn_eq (recU_off (by omega)), qn_eq (recU_off (by omega))⟩
theorem rec_cl {q : Nat → Int32} {f a b k : Nat} (hab : a ≠ b) (ha : a < 6) (hb : b < 6) (hF : WFf q f) (hk : k < szF q f) : clF (recQ q f a b) f k = swpC a b (clF q f k) := by
  have hz := WF.sz hF
  unfold recQ
  rw [if_neg hab, recU_cl ha hb hF hz (by omega), if_pos hk]
theorem rec_same {q : Nat → Int32} {f a b j : Nat} (hz : szF q f ≤ 256) (hj : j ≠ f) : Same q (recQ q f a b) j := fun i h1 h2 => by
  unfold recQ
  split
  · rfl
  · exact recU_off (by omega)
theorem PT.recol {g : GG} {D : Nat → Prop} {P : Nat → Option Nat} {q : Nat → Int32} {H : Heap} {f a b p2 b2 : Nat} (hp : PT g D P q H) (hF : WFf q f) (ha : a < 6) (hb : b < 6) (hab : a ≠ b) (hn : PatB g p2 b2 (wdF q f) (htF q f) (fun k => swpC a b (clF q f k)) H) (h1 : ¬ D p2) (h2 : ¬ D b2) : PT g D (va_up P f (some p2)) (recQ q f a b) H := fun j hj => by
  by_cases e : j = f
  · subst e
    rw [va_up_s, (rec_dims hab).1, (rec_dims hab).2]
    exact FP.congr (pf := some p2) ⟨b2, h1, h2, hn⟩ (fun k hk => rec_cl hab ha hb hF hk)
  · have h3 := rec_same (a := a) (b := b) (WF.sz hF) e
    rw [va_up_n e, h3.wd, h3.ht]
    refine (hp j hj).congr (fun k hk => ?_)
    rcases Nat.lt_or_ge k 256 with z | z
    · exact h3.cl z
    · have h4 := hp j hj
      cases hpj : P j with
      | none => rw [hpj] at h4; obtain ⟨h5, h6⟩ := h4; rw [h5, Nat.zero_mul] at hk; omega
      | some p => rw [hpj] at h4; obtain ⟨b3, _, _, _, _, _, _, _, _, h5, _⟩ := h4; omega
theorem rec_cnt {q : Nat → Int32} {f a b : Nat} (hab : a ≠ b) (ha : a < 6) (hb : b < 6) (hF : WFf q f) : ∀ n, n ≤ szF q f → cntC (recQ q f a b) f a 0 n + cntC (recQ q f a b) f b 0 n = cntR (recP q f a b) 0 n := by
  intro n
  induction n with
  | zero => intro _; rfl
  | succ n ih =>
    intro hn
    have h1 : cntR (fun k => decide (clF (recQ q f a b) f k = a)) 0 n + cntR (fun k => decide (clF (recQ q f a b) f k = b)) 0 n = cntR (recP q f a b) 0 n := ih (by omega)
    show cntR (fun k => decide (clF (recQ q f a b) f k = a)) 0 n + (if decide (clF (recQ q f a b) f (0 + n) = a) = true then 1 else 0) + (cntR (fun k => decide (clF (recQ q f a b) f k = b)) 0 n + (if decide (clF (recQ q f a b) f (0 + n) = b) = true then 1 else 0)) = cntR (recP q f a b) 0 n + (if decide (clF q f (0 + n) = a ∨ clF q f (0 + n) = b) = true then 1 else 0)
    generalize cntR (fun k => decide (clF (recQ q f a b) f k = a)) 0 n = xA at h1 ⊢
    generalize cntR (fun k => decide (clF (recQ q f a b) f k = b)) 0 n = xB at h1 ⊢
    rw [Nat.zero_add, rec_cl hab ha hb hF (by omega)]
    simp only [decide_eq_true_eq]
    unfold swpC
    by_cases e1 : clF q f n = a
    · rw [if_pos e1, if_neg (by omega), if_pos rfl, if_pos (Or.inl e1)]; omega
    · by_cases e2 : clF q f n = b
      · rw [if_neg e1, if_pos e2, if_pos rfl, if_neg (by omega), if_pos (Or.inr e2)]; omega
      · rw [if_neg e1, if_neg e2, if_neg e1, if_neg e2, if_neg (by omega)]; omega
def lowQ (F : Nat → Nat) (i : Nat) : Nat → Option Nat := fun k => if k < i then some (F k) else none
theorem lowQ_0 (F : Nat → Nat) : lowQ F 0 = fun _ => none := rfl
theorem lowQ_up (F : Nat → Nat) (i : Nat) : va_up (lowQ F i) i (some (F i)) = lowQ F (i + 1) := by
  funext k
  by_cases e : k = i
  · subst e; rw [va_up_s]; unfold lowQ; rw [if_pos (by omega)]
  · rw [va_up_n e]
    unfold lowQ
    by_cases h : k < i
    · rw [if_pos h, if_pos (by omega)]
    · rw [if_neg h, if_neg (by omega)]
theorem lowQ_all (F : Nat → Nat) {n k : Nat} (h : k < n) : lowQ F n k = some (F k) := if_pos h
theorem isIx_n {x : Int32} {n : Nat} (h : isIx x n = false) (hn : n < 2147483648) (h0 : ¬ x < 0) : nI n ≤ x := by
  have h1 := isIx_f h
  rw [Int32.lt_iff_toInt_lt, show (0 : Int32).toInt = 0 from rfl] at h0
  rw [Int32.le_iff_toInt_le, nI_toInt' hn]
  omega

def rm_c_X1_exchangeColours : Room := { frames := 3, cells := 2, slots := 259, locals := 69 }
set_option maxRecDepth 100000 in
set_option maxHeartbeats 400000 in
theorem c_X1_exchangeColours (l : Launch) (g : GG) (H0 : Heap) (sb : Nat) (z : Nat → Int32) (P : Nat → Option Nat) (D : Nat → Prop) (q : Nat → Int32) (f : Nat) (a0 : Nat) (b0 : Nat) (n0 : Nat) (hS1 : StAt g sb z P H0) (hPT : PT g D P q H0) (hD : ∀ q9, sb ≤ q9 → q9 < sb + 26 → D q9) (hf : f < 3) (hF : WFf q f) (hpos : 0 < szF q f) (ha6 : a0 < 6) (hb6 : b0 < 6) (hab : a0 ≠ b0) (hsz : H0.size = n0) (hDs : ∀ q9, D q9 → q9 < n0) : Ct l yX1_exchangeColours cX1_exchangeColours 3 (some .int) rm_c_X1_exchangeColours g [.ref (sb + (20 + 2 * f)), .int (nI a0), .int (nI b0)] H0 (ftA (fun q9 => sb ≤ q9 ∧ q9 < sb + 26) H0.size) (fun v H1 => v = some (.int (nI (recN q f a0 b0))) ∧ StAt g sb z (va_up P f (some (n0 + 1))) H1 ∧ PT g D (va_up P f (some (n0 + 1))) (recQ q f a0 b0) H1 ∧ H1.size = n0 + 2) := by
  refine Ct.of (by decide) (fun _ h => Or.inr h) (Nat.le_of_ble_eq_true rfl) ?_
  intro p e s m below meth c ls hB hin hS hH hl
  have hx := hB.x
  have hb := hB.b
  have hl : lv_has ls 3 [(0, .ref (sb + (20 + 2 * f))), (1, .int (nI a0)), (2, .int (nI b0))] := hl
  have hn1 : ¬ D (n0 + 1) := fun y => by have := hDs _ y; omega
  have hn2 : ¬ D n0 := fun y => by have := hDs _ y; omega
  rcases hPf : P f with _ | p9
  · skip
    have hz0 := hPT.none0 hf hPf
    exfalso
    omega
  · skip
    have hz0 := hPT.pos hf hPf
    obtain ⟨b9, hd1, hd2, hpb⟩ := hPT.some0 hf hPf
    have hw0 := hpb.2.2.1
    have hw16 := hpb.2.2.2.1
    have hh0 := hpb.2.2.2.2.1
    have hh16 := hpb.2.2.2.2.2.1
    have hwh := hpb.2.2.2.2.2.2.1
    have hcol := hpb.2.2.2.2.2.2.2
    have hzz : szF q f = wdF q f * htF q f := rfl
    refine lv_aload_n hx hb dX1_exchangeColours_0 rfl (lv_at hl 0 rfl) ?_
    refine gf_X1_15 hB (hS1.ofS (k := f) (by omega) hPf) rfl dX1_exchangeColours_1 ?_
    refine lv_ifnull hx hb dX1_exchangeColours_4 ?_
    refine lv_iload_n hx hb dX1_exchangeColours_7 rfl (lv_at hl 1 rfl) ?_
    refine lv_iload_n hx hb dX1_exchangeColours_8 rfl (lv_at hl 2 rfl) ?_
    refine mn_icmp_ne (tgt := 14) hB dX1_exchangeColours_9 (by decide) (by omega) (by omega) (fun h_9 => ?_) (fun h => by exfalso; omega)
    refine lv_aload_n hx hb dX1_exchangeColours_14 rfl (lv_at hl 0 rfl) ?_
    refine lv_aload_n hx hb dX1_exchangeColours_15 rfl (lv_at hl 0 rfl) ?_
    refine gf_X1_15 hB (hS1.ofS (k := f) (by omega) hPf) rfl dX1_exchangeColours_16 ?_
    refine lv_iload_n hx hb dX1_exchangeColours_19 rfl (lv_at hl 1 rfl) ?_
    refine lv_iload_n hx hb dX1_exchangeColours_20 rfl (lv_at hl 2 rfl) ?_
    refine cl_X1_44 (As := [.int (nI a0), .int (nI b0)]) (rest := [.ref (sb + (20 + 2 * f))]) hB (c_X4_withExchanged l g H0 p9 b9 (wdF q f) (htF q f) (clF q f) a0 b0 n0 hpb (by first | assumption | omega) (by first | assumption | omega) (by assumption)) hpb.1 rfl hl.1 (Nat.le_of_ble_eq_true rfl) dX1_exchangeColours_21 ⟨Nat.le_of_ble_eq_true rfl, Nat.le_of_ble_eq_true rfl⟩ ⟨Nat.le_of_ble_eq_true rfl, Nat.le_of_ble_eq_true rfl⟩ hS (by have hz9 := hS.1; rintro q (h | h) <;> first | exact Or.inr (by omega) | exact h.elim | exact Or.inl h | (simp only [ftA] at h ⊢; omega)) (fun v H1 locs hpo hfr hS => ?_)
    obtain ⟨rfl, hpn, hsz⟩ := hpo
    have hS1 := hS1.keptF hfr (fun q9 h1 h2 => by first | omega | exact fun y => y.elim)
    have hPT := hPT.keptF hfr (fun q9 hq9 => by first | exact hq9.elim | exact hD q9 (by have := hq9; omega) (by have := hq9; omega))
    have hpb := hpb.keptF hfr (fun y => by first | exact y.elim | exact hd1 (hD _ (by have := y; omega) (by have := y; omega))) (fun y => by first | exact y.elim | exact hd2 (hD _ (by have := y; omega) (by have := y; omega)))
    generalize H1 = H at hfr hS hS1 hPT hpb hpn hsz ⊢
    refine W.widen (k := 2) (n := 259) (Nat.le_of_ble_eq_true rfl) (Nat.le_of_ble_eq_true rfl) ?_
    refine pf_X1_15 hB (hS1.ofS (k := f) (by omega) hPf) (by first | exact Or.inl rfl | (simp only [ftA]; omega) | (simp [ftA]; omega)) hS rfl rfl (Nat.le_of_ble_eq_true rfl) dX1_exchangeColours_24 (fun H locs hwr => ?_)
    have ho := hwr.2.1
    have hz := hwr.2.2.1
    obtain ⟨hS1, hS⟩ := hS1.w_fPr (by omega) hwr
    have hPT := hPT.kept (fun q9 hq9 _ => ho q9 (fun e9 => hq9 (by rw [e9]; first | exact hD _ (by omega) (by omega))))
    have hpb := hpb.kept (ho _ (fun e9 => hd1 (by rw [e9]; exact hD _ (by omega) (by omega)))) (ho _ (fun e9 => hd2 (by rw [e9]; exact hD _ (by omega) (by omega))))
    have hpn := hpn.kept (ho _ (fun e9 => hn1 (by rw [e9]; exact hD _ (by omega) (by omega)))) (ho _ (fun e9 => hn2 (by rw [e9]; exact hD _ (by omega) (by omega))))
    have hsz := hz.trans hsz
    have hPT := hPT.recol hF ha6 hb6 hab hpn hn1 hn2
    refine lv_aload_n hx hb dX1_exchangeColours_27 rfl (lv_at hl 0 rfl) ?_
    refine lv_iload_n hx hb dX1_exchangeColours_28 rfl (lv_at hl 1 rfl) ?_
    refine lv_iconst (v := nI 0) hx hb dX1_exchangeColours_29 (by decide) ?_
    refine lv_aload_n hx hb dX1_exchangeColours_30 rfl (lv_at hl 0 rfl) ?_
    refine cl_X1_23 (As := []) (rest := [.int (nI 0), .int (nI a0), .ref (sb + (20 + 2 * f))]) hB (c_X1_patches l g H sb z (va_up P f (some (n0 + 1))) D (recQ q f a0 b0) f hS1 hPT (by first | assumption | omega)) (hS1.of (k := f) (by omega)) rfl hl.1 (Nat.le_of_ble_eq_true rfl) dX1_exchangeColours_31 ⟨Nat.le_of_ble_eq_true rfl, Nat.le_of_ble_eq_true rfl⟩ ⟨Nat.le_of_ble_eq_true rfl, Nat.le_of_ble_eq_true rfl⟩ hS (by have hz9 := hS.1; rintro q (h | h) <;> first | exact Or.inr (by omega) | exact h.elim | exact Or.inl h | (simp only [ftA] at h ⊢; omega)) (fun v H1 locs hpo hfr hS => ?_)
    obtain ⟨rfl, rfl⟩ := hpo
    refine W.widen (k := 2) (n := 259) (Nat.le_of_ble_eq_true rfl) (Nat.le_of_ble_eq_true rfl) ?_
    refine cl_X1_48 (As := [.int (nI a0), .int (nI 0), .int (nI (szF (recQ q f a0 b0) f))]) (rest := []) hB (c_X1_patchesOf l g H sb z (va_up P f (some (n0 + 1))) D (recQ q f a0 b0) f a0 0 (szF (recQ q f a0 b0) f) hS1 hPT (by first | assumption | omega) (by omega) (by omega) (by omega)) (hS1.of (k := f) (by omega)) rfl hl.1 (Nat.le_of_ble_eq_true rfl) dX1_exchangeColours_34 ⟨Nat.le_of_ble_eq_true rfl, Nat.le_of_ble_eq_true rfl⟩ ⟨Nat.le_of_ble_eq_true rfl, Nat.le_of_ble_eq_true rfl⟩ hS (by have hz9 := hS.1; rintro q (h | h) <;> first | exact Or.inr (by omega) | exact h.elim | exact Or.inl h | (simp only [ftA] at h ⊢; omega)) (fun v H1 locs hpo hfr hS => ?_)
    obtain ⟨rfl, rfl⟩ := hpo
    refine W.widen (k := 2) (n := 259) (Nat.le_of_ble_eq_true rfl) (Nat.le_of_ble_eq_true rfl) ?_
    refine lv_aload_n hx hb dX1_exchangeColours_37 rfl (lv_at hl 0 rfl) ?_
    refine lv_iload_n hx hb dX1_exchangeColours_38 rfl (lv_at hl 2 rfl) ?_
    refine lv_iconst (v := nI 0) hx hb dX1_exchangeColours_39 (by decide) ?_
    refine lv_aload_n hx hb dX1_exchangeColours_40 rfl (lv_at hl 0 rfl) ?_
    refine cl_X1_23 (As := []) (rest := [.int (nI 0), .int (nI b0), .ref (sb + (20 + 2 * f)), .int (nI (cntC (recQ q f a0 b0) f a0 0 ((szF (recQ q f a0 b0) f) - 0)))]) hB (c_X1_patches l g H sb z (va_up P f (some (n0 + 1))) D (recQ q f a0 b0) f hS1 hPT (by first | assumption | omega)) (hS1.of (k := f) (by omega)) rfl hl.1 (Nat.le_of_ble_eq_true rfl) dX1_exchangeColours_41 ⟨Nat.le_of_ble_eq_true rfl, Nat.le_of_ble_eq_true rfl⟩ ⟨Nat.le_of_ble_eq_true rfl, Nat.le_of_ble_eq_true rfl⟩ hS (by have hz9 := hS.1; rintro q (h | h) <;> first | exact Or.inr (by omega) | exact h.elim | exact Or.inl h | (simp only [ftA] at h ⊢; omega)) (fun v H1 locs hpo hfr hS => ?_)
    obtain ⟨rfl, rfl⟩ := hpo
    refine W.widen (k := 2) (n := 259) (Nat.le_of_ble_eq_true rfl) (Nat.le_of_ble_eq_true rfl) ?_
    refine cl_X1_48 (As := [.int (nI b0), .int (nI 0), .int (nI (szF (recQ q f a0 b0) f))]) (rest := [.int (nI (cntC (recQ q f a0 b0) f a0 0 ((szF (recQ q f a0 b0) f) - 0)))]) hB (c_X1_patchesOf l g H sb z (va_up P f (some (n0 + 1))) D (recQ q f a0 b0) f b0 0 (szF (recQ q f a0 b0) f) hS1 hPT (by first | assumption | omega) (by omega) (by omega) (by omega)) (hS1.of (k := f) (by omega)) rfl hl.1 (Nat.le_of_ble_eq_true rfl) dX1_exchangeColours_44 ⟨Nat.le_of_ble_eq_true rfl, Nat.le_of_ble_eq_true rfl⟩ ⟨Nat.le_of_ble_eq_true rfl, Nat.le_of_ble_eq_true rfl⟩ hS (by have hz9 := hS.1; rintro q (h | h) <;> first | exact Or.inr (by omega) | exact h.elim | exact Or.inl h | (simp only [ftA] at h ⊢; omega)) (fun v H1 locs hpo hfr hS => ?_)
    obtain ⟨rfl, rfl⟩ := hpo
    refine W.widen (k := 2) (n := 259) (Nat.le_of_ble_eq_true rfl) (Nat.le_of_ble_eq_true rfl) ?_
    refine mn_iadd hB dX1_exchangeColours_47 ?_
    refine mh_iret hB ⟨Nat.le_of_ble_eq_true rfl, Nat.le_of_ble_eq_true rfl⟩ hS dX1_exchangeColours_48 ⟨?_, ?_, ?_, ?_⟩
    · have ez : szF (recQ q f a0 b0) f = szF q f := by unfold szF; rw [(rec_dims hab).1, (rec_dims hab).2]
      rw [Nat.sub_zero, ez, rec_cnt hab ha6 hb6 hF _ (Nat.le_refl _)]
      unfold recN
      rw [if_neg hab]
    · exact hS1
    · exact hPT
    · exact hsz

def rm_c_X1_shareOf : Room := { frames := 2, cells := 0, slots := 0, locals := 40 }
set_option maxRecDepth 100000 in
set_option maxHeartbeats 400000 in
theorem c_X1_shareOf (l : Launch) (g : GG) (H0 : Heap) (sb : Nat) (z : Nat → Int32) (P : Nat → Option Nat) (D : Nat → Prop) (q : Nat → Int32) (f : Nat) (m0 : Nat) (p0 : Nat) (hS1 : StAt g sb z P H0) (hPT : PT g D P q H0) (hf : f < 3) (hF : WFf q f) (hpos : 0 < szF q f) (hm0 : m0 < 5) (hp0 : p0 < 10000) (hby : ∀ j, j < 5 → z (83 + 5 * f + j) = nI (byF q f j)) : Ct l yX1_shareOf cX1_shareOf 10 (some .int) rm_c_X1_shareOf g [.ref (sb + (20 + 2 * f)), .int (nI m0), .int (nI p0)] H0 (ftA (fun _ => False) H0.size) (fun v H1 => v = some (.int (shrQ q f p0 m0)) ∧ H0 = H1) := by
  refine Ct.of (by decide) (fun _ h => Or.inr h) (Nat.le_of_ble_eq_true rfl) ?_
  intro p e s m below meth c ls hB hin hS hH hl
  have hx := hB.x
  have hb := hB.b
  have hl : lv_has ls 10 [(0, .ref (sb + (20 + 2 * f))), (1, .int (nI m0)), (2, .int (nI p0))] := hl
  have hzs := WF.sz hF
  have hpb := fun j (hj : j < 5) => pby (p := p0) hF hp0 hj
  have hmb := fun j => Nat.mod_lt (p0 * byF q f j) hpos
  refine lv_aload_n hx hb dX1_shareOf_0 rfl (lv_at hl 0 rfl) ?_
  refine cl_X1_23 (As := []) (rest := []) hB (c_X1_patches l g H0 sb z P D q f hS1 hPT (by first | assumption | omega)) (hS1.of (k := f) (by omega)) rfl hl.1 (Nat.le_of_ble_eq_true rfl) dX1_shareOf_1 ⟨Nat.le_of_ble_eq_true rfl, Nat.le_of_ble_eq_true rfl⟩ ⟨Nat.le_of_ble_eq_true rfl, Nat.le_of_ble_eq_true rfl⟩ hS (by have hz9 := hS.1; rintro q (h | h) <;> first | exact Or.inr (by omega) | exact h.elim | exact Or.inl h | (simp only [ftA] at h ⊢; omega)) (fun v H1 locs hpo hfr hS => ?_)
  obtain ⟨rfl, rfl⟩ := hpo
  refine W.widen (k := 0) (n := 0) (Nat.le_of_ble_eq_true rfl) (Nat.le_of_ble_eq_true rfl) ?_
  refine lv_istore_n (lv' := [(3, .int (nI (szF q f))), (0, .ref (sb + (20 + 2 * f))), (1, .int (nI m0)), (2, .int (nI p0))]) hx hb dX1_shareOf_4 rfl hl (by decide) rfl (fun ls hl => ?_)
  refine lv_iload_n hx hb dX1_shareOf_5 rfl (lv_at hl 0 rfl) ?_
  refine mn_if_gt (tgt := 11) hB dX1_shareOf_6 (by decide) (by omega) (fun h_6 => ?_) (fun h => by exfalso; omega)
  refine lv_iload_n hx hb dX1_shareOf_11 rfl (lv_at hl 3 rfl) ?_
  refine lv_aload_n hx hb dX1_shareOf_12 rfl (lv_at hl 1 rfl) ?_
  refine gf_X1_9 hB (hS1.of (k := f) (by omega)) rfl dX1_shareOf_13 ?_
  refine lv_iload_n hx hb dX1_shareOf_16 rfl (lv_at hl 2 rfl) ?_
  refine cl_X1_49 (As := [.ref (sb + (21 + 2 * f)), .int (nI m0)]) (rest := [.int (nI p0)]) hB (c_X6_at l g H0 (sb + (21 + 2 * f)) 5 (fun j7 => z (83 + 5 * f + j7)) m0 (hS1.of2 (k := f) (by omega)) (hm0) (by omega)) rfl hl.1 (Nat.le_of_ble_eq_true rfl) dX1_shareOf_17 ⟨Nat.le_of_ble_eq_true rfl, Nat.le_of_ble_eq_true rfl⟩ ⟨Nat.le_of_ble_eq_true rfl, Nat.le_of_ble_eq_true rfl⟩ hS (by have hz9 := hS.1; rintro q (h | h) <;> first | exact Or.inr (by omega) | exact h.elim | exact Or.inl h | (simp only [ftA] at h ⊢; omega)) (fun v H1 locs hpo hfr hS => ?_)
  obtain ⟨rfl, rfl⟩ := hpo
  refine W.widen (k := 0) (n := 0) (Nat.le_of_ble_eq_true rfl) (Nat.le_of_ble_eq_true rfl) ?_
  refine mh_top (y := .int (nI (byF q f m0))) (by rw [hby _ hm0]) ?_
  have hpm := hpb _ hm0
  refine mn_imul hB dX1_shareOf_20 ?_
  refine lv_istore (lv' := [(4, .int (nI (p0 * (byF q f m0)))), (3, .int (nI (szF q f))), (0, .ref (sb + (20 + 2 * f))), (1, .int (nI m0)), (2, .int (nI p0))]) hx hb dX1_shareOf_21 hl (by decide) rfl (fun ls hl => ?_)
  refine lv_iload_n hx hb dX1_shareOf_23 rfl (lv_at hl 4 rfl) ?_
  refine lv_istore (lv' := [(5, .int (nI p0)), (4, .int (nI (p0 * (byF q f m0)))), (3, .int (nI (szF q f))), (0, .ref (sb + (20 + 2 * f))), (1, .int (nI m0)), (2, .int (nI p0))]) hx hb dX1_shareOf_24 hl (by decide) rfl (fun ls hl => ?_)
  refine lv_iconst (v := nI 0) hx hb dX1_shareOf_26 (by decide) ?_
  refine lv_istore (lv' := [(6, .int (nI 0)), (5, .int (nI p0)), (4, .int (nI (p0 * (byF q f m0)))), (3, .int (nI (szF q f))), (0, .ref (sb + (20 + 2 * f))), (1, .int (nI m0)), (2, .int (nI p0))]) hx hb dX1_shareOf_27 hl (by decide) rfl (fun ls hl => ?_)
  refine lv_iconst (v := nI 0) hx hb dX1_shareOf_29 (by decide) ?_
  refine lv_istore (lv' := [(7, .int (nI 0)), (6, .int (nI 0)), (5, .int (nI p0)), (4, .int (nI (p0 * (byF q f m0)))), (3, .int (nI (szF q f))), (0, .ref (sb + (20 + 2 * f))), (1, .int (nI m0)), (2, .int (nI p0))]) hx hb dX1_shareOf_30 hl (by decide) rfl (fun ls hl => ?_)
  refine mh_loopR (σ := Nat) (fun xx9 locs ls => match xx9 with | k9 => k9 ≤ 5 ∧ va_S (ftA (fun _ => False) H0.size) H0 H0 locs ∧ lv_has ls 10 [(0, .ref (sb + (20 + 2 * f))), (1, .int (nI m0)), (2, .int (nI p0)), (3, .int (nI (szF q f))), (4, .int (nI (p0 * (byF q f m0)))), (5, .int (lefU q f p0 k9)), (6, .int (nI (cntR (ahdP q f p0 m0) 0 k9))), (7, .int (nI k9))]) (fun xx9 => match xx9 with | k9 => 5 - k9) ?_ 0 ⟨(by omega), hS, lv_sub hl [5, 6, 7, 4, 3, 2, 1, 0] rfl⟩
  rintro k9 locs ls ⟨hk9, hS, hl⟩ ih
  have ih32 := ih
  refine lv_iload hx hb dX1_shareOf_32 (lv_at hl 7 rfl) ?_
  refine lv_iconst (v := nI 5) hx hb dX1_shareOf_34 (by decide) ?_
  refine mn_icmp_ge (tgt := 96) hB dX1_shareOf_35 (by decide) (by omega) (by omega) (fun h_35 => ?_) (fun h_35 => ?_)
  · skip
    have hin9 : k9 = 5 := by omega
    subst hin9
    refine lv_iload hx hb dX1_shareOf_96 (lv_at hl 4 rfl) ?_
    refine lv_iload_n hx hb dX1_shareOf_98 rfl (lv_at hl 3 rfl) ?_
    refine mn_idiv hB dX1_shareOf_99 (by omega) (by omega) (by omega) ?_
    refine lv_iload hx hb dX1_shareOf_100 (lv_at hl 6 rfl) ?_
    refine lv_iload hx hb dX1_shareOf_102 (lv_at hl 5 rfl) ?_
    refine lv_icmp_ge (tgt := 111) hx hb dX1_shareOf_104 (by decide) (fun h_104 => ?_) (fun h_104 => ?_)
    · skip
      refine lv_iconst (v := nI 0) hx hb dX1_shareOf_111 (by decide) ?_
      refine mn_iadd hB dX1_shareOf_112 ?_
      refine mh_top (y := .int (shrQ q f p0 m0)) (by unfold shrQ shr1; rw [← nI_add]; first | rw [if_pos (by first | assumption | exact Int32.not_le.mp (by assumption))] | rw [if_neg (by first | assumption | exact Int32.not_lt.mpr (by assumption))]) ?_
      refine mh_iret hB ⟨Nat.le_of_ble_eq_true rfl, Nat.le_of_ble_eq_true rfl⟩ hS dX1_shareOf_113 ⟨?_, rfl⟩
      · rfl
    · skip
      refine lv_iconst (v := nI 1) hx hb dX1_shareOf_107 (by decide) ?_
      refine lv_goto (tgt := 112) hx hb dX1_shareOf_108 (by decide) ?_
      refine mn_iadd hB dX1_shareOf_112 ?_
      refine mh_top (y := .int (shrQ q f p0 m0)) (by unfold shrQ shr1; rw [← nI_add]; first | rw [if_pos (by first | assumption | exact Int32.not_le.mp (by assumption))] | rw [if_neg (by first | assumption | exact Int32.not_lt.mpr (by assumption))]) ?_
      refine mh_iret hB ⟨Nat.le_of_ble_eq_true rfl, Nat.le_of_ble_eq_true rfl⟩ hS dX1_shareOf_113 ⟨?_, rfl⟩
      · rfl
  · skip
    refine lv_iload_n hx hb dX1_shareOf_38 rfl (lv_at hl 2 rfl) ?_
    refine lv_aload_n hx hb dX1_shareOf_39 rfl (lv_at hl 0 rfl) ?_
    refine gf_X1_9 hB (hS1.of (k := f) (by omega)) rfl dX1_shareOf_40 ?_
    refine lv_iload hx hb dX1_shareOf_43 (lv_at hl 7 rfl) ?_
    refine cl_X1_49 (As := [.ref (sb + (21 + 2 * f)), .int (nI k9)]) (rest := [.int (nI p0)]) hB (c_X6_at l g H0 (sb + (21 + 2 * f)) 5 (fun j7 => z (83 + 5 * f + j7)) k9 (hS1.of2 (k := f) (by omega)) (by omega) (by omega)) rfl hl.1 (Nat.le_of_ble_eq_true rfl) dX1_shareOf_45 ⟨Nat.le_of_ble_eq_true rfl, Nat.le_of_ble_eq_true rfl⟩ ⟨Nat.le_of_ble_eq_true rfl, Nat.le_of_ble_eq_true rfl⟩ hS (by have hz9 := hS.1; rintro q (h | h) <;> first | exact Or.inr (by omega) | exact h.elim | exact Or.inl h | (simp only [ftA] at h ⊢; omega)) (fun v H1 locs hpo hfr hS => ?_)
    obtain ⟨rfl, rfl⟩ := hpo
    refine W.widen (k := 0) (n := 0) (Nat.le_of_ble_eq_true rfl) (Nat.le_of_ble_eq_true rfl) ?_
    refine mh_top (y := .int (nI (byF q f k9))) (by rw [hby _ (by omega)]) ?_
    have hpk := hpb k9 (by omega)
    have hk1 := hmb k9
    have hk2 := hmb m0
    refine mn_imul hB dX1_shareOf_48 ?_
    refine lv_istore (lv' := [(8, .int (nI (p0 * (byF q f k9)))), (0, .ref (sb + (20 + 2 * f))), (1, .int (nI m0)), (2, .int (nI p0)), (3, .int (nI (szF q f))), (4, .int (nI (p0 * (byF q f m0)))), (5, .int (lefU q f p0 k9)), (6, .int (nI (cntR (ahdP q f p0 m0) 0 k9))), (7, .int (nI k9))]) hx hb dX1_shareOf_49 hl (by decide) rfl (fun ls hl => ?_)
    refine lv_iload hx hb dX1_shareOf_51 (lv_at hl 6 rfl) ?_
    refine lv_iload hx hb dX1_shareOf_53 (lv_at hl 0 rfl) ?_
    refine lv_iload_n hx hb dX1_shareOf_55 rfl (lv_at hl 4 rfl) ?_
    refine mn_idiv hB dX1_shareOf_56 (by omega) (by omega) (by omega) ?_
    refine lv_isub hx hb dX1_shareOf_57 ?_
    refine mh_top (y := .int (lefU q f p0 (k9 + 1))) (rfl) ?_
    refine lv_istore (lv' := [(5, .int (lefU q f p0 (k9 + 1))), (8, .int (nI (p0 * (byF q f k9)))), (0, .ref (sb + (20 + 2 * f))), (1, .int (nI m0)), (2, .int (nI p0)), (3, .int (nI (szF q f))), (4, .int (nI (p0 * (byF q f m0)))), (6, .int (nI (cntR (ahdP q f p0 m0) 0 k9))), (7, .int (nI k9))]) hx hb dX1_shareOf_58 hl (by decide) rfl (fun ls hl => ?_)
    refine lv_iload hx hb dX1_shareOf_60 (lv_at hl 1 rfl) ?_
    refine lv_iload_n hx hb dX1_shareOf_62 rfl (lv_at hl 5 rfl) ?_
    refine mn_irem hB dX1_shareOf_63 (by omega) (by omega) (by omega) ?_
    refine lv_iload hx hb dX1_shareOf_64 (lv_at hl 6 rfl) ?_
    refine lv_iload_n hx hb dX1_shareOf_66 rfl (lv_at hl 5 rfl) ?_
    refine mn_irem hB dX1_shareOf_67 (by omega) (by omega) (by omega) ?_
    refine lv_isub hx hb dX1_shareOf_68 ?_
    refine lv_istore (lv' := [(9, .int ((nI ((p0 * (byF q f k9)) % (szF q f))) - (nI ((p0 * (byF q f m0)) % (szF q f))))), (5, .int (lefU q f p0 (k9 + 1))), (8, .int (nI (p0 * (byF q f k9)))), (0, .ref (sb + (20 + 2 * f))), (1, .int (nI m0)), (2, .int (nI p0)), (3, .int (nI (szF q f))), (4, .int (nI (p0 * (byF q f m0)))), (6, .int (nI (cntR (ahdP q f p0 m0) 0 k9))), (7, .int (nI k9))]) hx hb dX1_shareOf_69 hl (by decide) rfl (fun ls hl => ?_)
    refine lv_iload hx hb dX1_shareOf_71 (lv_at hl 0 rfl) ?_
    refine lv_if_gt (tgt := 87) hx hb dX1_shareOf_73 (by decide) (fun h_73 => ?_) (fun h_73 => ?_)
    · skip
      have h73 := (sub_gt (by omega) (by omega)).mp h_73
      refine lv_iinc (v := nI (cntR (ahdP q f p0 m0) 0 k9 + 1)) (lv' := [(6, .int (nI (cntR (ahdP q f p0 m0) 0 k9 + 1))), (9, .int ((nI ((p0 * (byF q f k9)) % (szF q f))) - (nI ((p0 * (byF q f m0)) % (szF q f))))), (5, .int (lefU q f p0 (k9 + 1))), (8, .int (nI (p0 * (byF q f k9)))), (0, .ref (sb + (20 + 2 * f))), (1, .int (nI m0)), (2, .int (nI p0)), (3, .int (nI (szF q f))), (4, .int (nI (p0 * (byF q f m0)))), (7, .int (nI k9))]) hx hb dX1_shareOf_87 hl (k := 8) rfl (nI_1 _) (by decide) rfl (fun ls hl => ?_)
      have e90 : cntR (ahdP q f p0 m0) 0 k9 + 1 = cntR (ahdP q f p0 m0) 0 (k9 + 1) := by simp only [cntR, ahdP, rstN, Nat.zero_add, decide_eq_true_eq]; first | (rw [if_pos (by omega)]; done) | (rw [if_neg (by omega), Nat.add_zero]; done)
      rw [e90] at hl
      refine lv_iinc (v := nI (k9 + 1)) (lv' := [(7, .int (nI (k9 + 1))), (6, .int (nI (cntR (ahdP q f p0 m0) 0 (k9 + 1)))), (9, .int ((nI ((p0 * (byF q f k9)) % (szF q f))) - (nI ((p0 * (byF q f m0)) % (szF q f))))), (5, .int (lefU q f p0 (k9 + 1))), (8, .int (nI (p0 * (byF q f k9)))), (0, .ref (sb + (20 + 2 * f))), (1, .int (nI m0)), (2, .int (nI p0)), (3, .int (nI (szF q f))), (4, .int (nI (p0 * (byF q f m0))))]) hx hb dX1_shareOf_90 hl (k := 9) rfl (nI_1 _) (by decide) rfl (fun ls hl => ?_)
      refine lv_goto (tgt := 32) hx hb dX1_shareOf_93 (by decide) ?_
      refine ih32 (k9 + 1) _ _ ⟨(by omega), hS, lv_sub hl [5, 6, 7, 8, 9, 3, 1, 0] rfl⟩ (by dsimp only; omega)
    · skip
      have h73 := mt (sub_gt (by omega) (by omega)).mpr h_73
      refine lv_iload hx hb dX1_shareOf_76 (lv_at hl 0 rfl) ?_
      refine lv_if_ne (tgt := 90) hx hb dX1_shareOf_78 (by decide) (fun h_78 => ?_) (fun h_78 => ?_)
      · skip
        have h78 := mt (sub_eq0 (by omega) (by omega)).mpr h_78
        have e90 : cntR (ahdP q f p0 m0) 0 k9 = cntR (ahdP q f p0 m0) 0 (k9 + 1) := by simp only [cntR, ahdP, rstN, Nat.zero_add, decide_eq_true_eq]; first | (rw [if_pos (by omega)]; done) | (rw [if_neg (by omega), Nat.add_zero]; done)
        rw [e90] at hl
        refine lv_iinc (v := nI (k9 + 1)) (lv' := [(7, .int (nI (k9 + 1))), (9, .int ((nI ((p0 * (byF q f k9)) % (szF q f))) - (nI ((p0 * (byF q f m0)) % (szF q f))))), (5, .int (lefU q f p0 (k9 + 1))), (8, .int (nI (p0 * (byF q f k9)))), (0, .ref (sb + (20 + 2 * f))), (1, .int (nI m0)), (2, .int (nI p0)), (3, .int (nI (szF q f))), (4, .int (nI (p0 * (byF q f m0)))), (6, .int (nI (cntR (ahdP q f p0 m0) 0 (k9 + 1))))]) hx hb dX1_shareOf_90 hl (k := 9) rfl (nI_1 _) (by decide) rfl (fun ls hl => ?_)
        refine lv_goto (tgt := 32) hx hb dX1_shareOf_93 (by decide) ?_
        refine ih32 (k9 + 1) _ _ ⟨(by omega), hS, lv_sub hl [4, 5, 6, 7, 8, 2, 9, 0] rfl⟩ (by dsimp only; omega)
      · skip
        have h78 := (sub_eq0 (by omega) (by omega)).mp h_78
        refine lv_iload hx hb dX1_shareOf_81 (lv_at hl 9 rfl) ?_
        refine lv_iload_n hx hb dX1_shareOf_83 rfl (lv_at hl 4 rfl) ?_
        refine mn_icmp_ge (tgt := 90) hB dX1_shareOf_84 (by decide) (by omega) (by omega) (fun h_84 => ?_) (fun h_84 => ?_)
        · skip
          have e90 : cntR (ahdP q f p0 m0) 0 k9 = cntR (ahdP q f p0 m0) 0 (k9 + 1) := by simp only [cntR, ahdP, rstN, Nat.zero_add, decide_eq_true_eq]; first | (rw [if_pos (by omega)]; done) | (rw [if_neg (by omega), Nat.add_zero]; done)
          rw [e90] at hl
          refine lv_iinc (v := nI (k9 + 1)) (lv' := [(7, .int (nI (k9 + 1))), (9, .int ((nI ((p0 * (byF q f k9)) % (szF q f))) - (nI ((p0 * (byF q f m0)) % (szF q f))))), (5, .int (lefU q f p0 (k9 + 1))), (8, .int (nI (p0 * (byF q f k9)))), (0, .ref (sb + (20 + 2 * f))), (1, .int (nI m0)), (2, .int (nI p0)), (3, .int (nI (szF q f))), (4, .int (nI (p0 * (byF q f m0)))), (6, .int (nI (cntR (ahdP q f p0 m0) 0 (k9 + 1))))]) hx hb dX1_shareOf_90 hl (k := 9) rfl (nI_1 _) (by decide) rfl (fun ls hl => ?_)
          refine lv_goto (tgt := 32) hx hb dX1_shareOf_93 (by decide) ?_
          refine ih32 (k9 + 1) _ _ ⟨(by omega), hS, lv_sub hl [4, 5, 6, 7, 8, 2, 9, 0] rfl⟩ (by dsimp only; omega)
        · skip
          refine lv_iinc (v := nI (cntR (ahdP q f p0 m0) 0 k9 + 1)) (lv' := [(6, .int (nI (cntR (ahdP q f p0 m0) 0 k9 + 1))), (9, .int ((nI ((p0 * (byF q f k9)) % (szF q f))) - (nI ((p0 * (byF q f m0)) % (szF q f))))), (5, .int (lefU q f p0 (k9 + 1))), (8, .int (nI (p0 * (byF q f k9)))), (0, .ref (sb + (20 + 2 * f))), (1, .int (nI m0)), (2, .int (nI p0)), (3, .int (nI (szF q f))), (4, .int (nI (p0 * (byF q f m0)))), (7, .int (nI k9))]) hx hb dX1_shareOf_87 hl (k := 8) rfl (nI_1 _) (by decide) rfl (fun ls hl => ?_)
          have e90 : cntR (ahdP q f p0 m0) 0 k9 + 1 = cntR (ahdP q f p0 m0) 0 (k9 + 1) := by simp only [cntR, ahdP, rstN, Nat.zero_add, decide_eq_true_eq]; first | (rw [if_pos (by omega)]; done) | (rw [if_neg (by omega), Nat.add_zero]; done)
          rw [e90] at hl
          refine lv_iinc (v := nI (k9 + 1)) (lv' := [(7, .int (nI (k9 + 1))), (6, .int (nI (cntR (ahdP q f p0 m0) 0 (k9 + 1)))), (9, .int ((nI ((p0 * (byF q f k9)) % (szF q f))) - (nI ((p0 * (byF q f m0)) % (szF q f))))), (5, .int (lefU q f p0 (k9 + 1))), (8, .int (nI (p0 * (byF q f k9)))), (0, .ref (sb + (20 + 2 * f))), (1, .int (nI m0)), (2, .int (nI p0)), (3, .int (nI (szF q f))), (4, .int (nI (p0 * (byF q f m0))))]) hx hb dX1_shareOf_90 hl (k := 9) rfl (nI_1 _) (by decide) rfl (fun ls hl => ?_)
          refine lv_goto (tgt := 32) hx hb dX1_shareOf_93 (by decide) ?_
          refine ih32 (k9 + 1) _ _ ⟨(by omega), hS, lv_sub hl [5, 6, 7, 8, 9, 3, 1, 0] rfl⟩ (by dsimp only; omega)

def rm_c_X8_init : Room := { frames := 2, cells := 25, slots := 118, locals := 40 }
set_option maxRecDepth 100000 in
set_option maxHeartbeats 400000 in
theorem c_X8_init (l : Launch) (g : GG) (H0 : Heap) (sb : Nat) (hq0 : at_ g H0 sb (eO 6 [.int (nI 0), .int (nI 0), .int (nI 0), .int (nI 0), .int (nI 0), .null, .null, .null])) (hsz : H0.size = sb + 1) : Ct l yX8_init cX8_init 2 none rm_c_X8_init g [.ref sb] H0 (ftA (fun q9 => sb ≤ q9 ∧ q9 < sb + 26) H0.size) (fun v H1 => v = none ∧ StAt g sb (fun _ => 0) (fun _ => none) H1 ∧ H1.size = sb + 26) := by
  refine Ct.of (by decide) (fun _ h => Or.inr h) (Nat.le_of_ble_eq_true rfl) ?_
  intro p e s m below meth c ls hB hin hS hH hl
  have hx := hB.x
  have hb := hB.b
  have hl : lv_has ls 2 [(0, .ref sb)] := hl
  refine lv_aload_n hx hb dX8_init_0 rfl (lv_at hl 0 rfl) ?_
  refine ob_X8_3 hB hl.1 dX8_init_1 ⟨Nat.le_of_ble_eq_true rfl, Nat.le_of_ble_eq_true rfl⟩ ?_
  refine lv_aload_n hx hb dX8_init_4 rfl (lv_at hl 0 rfl) ?_
  refine lv_iconst (v := nI 5) hx hb dX8_init_5 (by decide) ?_
  refine mh_anew (C := RX3) (N' := 5) hB 4 rfl kw_74 kw_75 (nI_pos (by omega)) (nI_clamp (by omega)) (Nat.le_of_ble_eq_true rfl) hS (Nat.le_of_ble_eq_true rfl) (Nat.le_of_ble_eq_true rfl) dX8_init_6 (fun H1 hwr => ?_)
  obtain ⟨hqm, ho, hz, hS⟩ := hwr
  have hq0 := hq0.kept (ho _ hq0.lt)
  rw [hsz] at hqm hz
  refine mh_top (congrArg Value.ref hsz) ?_
  have hsz := hz
  generalize H1 = H at hqm hS hsz hq0 ⊢
  refine W.widen (k := 1) (n := 5) (Nat.le_of_ble_eq_true rfl) (Nat.le_of_ble_eq_true rfl) ?_
  refine pf_X8_11 hB hin hq0 (by first | exact Or.inl rfl | (simp only [ftA]; omega) | (simp [ftA]; omega)) hS rfl rfl (Nat.le_of_ble_eq_true rfl) dX8_init_9 (fun H locs hwr => ?_)
  obtain ⟨hq0, ho, hz, hS⟩ := hwr
  have hqm := hqm.kept (ho _ (by omega))
  have hsz := hz.trans hsz
  refine lv_aload_n hx hb dX8_init_12 rfl (lv_at hl 0 rfl) ?_
  refine lv_bipush (v := nI 6) hx hb dX8_init_13 (by decide) ?_
  refine mh_anew (C := RX0) (N' := 6) hB 5 rfl kw_76 kw_77 (nI_pos (by omega)) (nI_clamp (by omega)) (Nat.le_of_ble_eq_true rfl) hS (Nat.le_of_ble_eq_true rfl) (Nat.le_of_ble_eq_true rfl) dX8_init_15 (fun H1 hwr => ?_)
  obtain ⟨hqc, ho, hz, hS⟩ := hwr
  have hq0 := hq0.kept (ho _ hq0.lt)
  have hqm := hqm.kept (ho _ hqm.lt)
  rw [hsz] at hqc hz
  refine mh_top (congrArg Value.ref hsz) ?_
  have hsz := hz
  generalize H1 = H at hqc hS hsz hq0 hqm ⊢
  refine W.widen (k := 2) (n := 11) (Nat.le_of_ble_eq_true rfl) (Nat.le_of_ble_eq_true rfl) ?_
  refine pf_X8_19 hB hin hq0 (by first | exact Or.inl rfl | (simp only [ftA]; omega) | (simp [ftA]; omega)) hS rfl rfl (Nat.le_of_ble_eq_true rfl) dX8_init_18 (fun H locs hwr => ?_)
  obtain ⟨hq0, ho, hz, hS⟩ := hwr
  have hqm := hqm.kept (ho _ (by omega))
  have hqc := hqc.kept (ho _ (by omega))
  have hsz := hz.trans hsz
  refine lv_aload_n hx hb dX8_init_21 rfl (lv_at hl 0 rfl) ?_
  refine lv_iconst (v := nI 3) hx hb dX8_init_22 (by decide) ?_
  refine mh_anew (C := RX1) (N' := 3) hB 6 rfl kw_78 kw_79 (nI_pos (by omega)) (nI_clamp (by omega)) (Nat.le_of_ble_eq_true rfl) hS (Nat.le_of_ble_eq_true rfl) (Nat.le_of_ble_eq_true rfl) dX8_init_23 (fun H1 hwr => ?_)
  obtain ⟨hqf, ho, hz, hS⟩ := hwr
  have hq0 := hq0.kept (ho _ hq0.lt)
  have hqm := hqm.kept (ho _ hqm.lt)
  have hqc := hqc.kept (ho _ hqc.lt)
  rw [hsz] at hqf hz
  refine mh_top (congrArg Value.ref hsz) ?_
  have hsz := hz
  generalize H1 = H at hqf hS hsz hq0 hqm hqc ⊢
  refine W.widen (k := 3) (n := 14) (Nat.le_of_ble_eq_true rfl) (Nat.le_of_ble_eq_true rfl) ?_
  refine pf_X8_25 hB hin hq0 (by first | exact Or.inl rfl | (simp only [ftA]; omega) | (simp [ftA]; omega)) hS rfl rfl (Nat.le_of_ble_eq_true rfl) dX8_init_26 (fun H locs hwr => ?_)
  obtain ⟨hq0, ho, hz, hS⟩ := hwr
  have hqm := hqm.kept (ho _ (by omega))
  have hqc := hqc.kept (ho _ (by omega))
  have hqf := hqf.kept (ho _ (by omega))
  have hsz := hz.trans hsz
  refine lv_iconst (v := nI 0) hx hb dX8_init_29 (by decide) ?_
  refine lv_istore_n (lv' := [(1, .int (nI 0)), (0, .ref sb)]) hx hb dX8_init_30 rfl hl (by decide) rfl (fun ls hl => ?_)
  refine mh_loopC (σ := Nat) (fun xx9 H locs ls => match xx9 with | i9 => i9 ≤ 5 ∧ H.size = sb + (4 + 2 * i9) ∧ at_ g H sb (eO 6 [.int (nI 0), .int (nI 0), .int (nI 0), .int (nI 0), .int (nI 0), .ref (sb + 1), .ref (sb + 2), .ref (sb + 3)]) ∧ at_ g H (sb + 1) (eQ g 4 5 (lowQ (fun k => sb + (4 + 2 * k)) i9)) ∧ at_ g H (sb + 2) (eQ g 5 6 (lowQ (fun k => sb + (14 + k)) 0)) ∧ at_ g H (sb + 3) (eQ g 6 3 (lowQ (fun k => sb + (20 + 2 * k)) 0)) ∧ (∀ k9, k9 < i9 → at_ g H (sb + (4 + 2 * k9)) (eO 3 [.int (nI 0), .int (nI 0), .int (nI 0), .ref (sb + (5 + 2 * k9))]) ∧ at_ g H (sb + (5 + 2 * k9)) (eI g 6 (fun _ => 0))) ∧ va_S (ftA (fun q9 => sb ≤ q9 ∧ q9 < sb + 26) H0.size) H0 H locs ∧ lv_has ls 2 [(0, .ref sb), (1, .int (nI i9))]) (fun xx9 => match xx9 with | i9 => 5 - i9) (fun xx9 => match xx9 with | i9 => 3 + 2 * i9) (fun xx9 => match xx9 with | i9 => 14 + 10 * i9) ?_ 0 ⟨(by omega), (hsz), hq0, hqm, hqc, hqf, (fun k9 h9 => absurd h9 (Nat.not_lt_zero _)), hS, lv_sub hl [1, 0] rfl⟩
  rintro i9 H locs ls ⟨hi9, hsz, hq0, hqm, hqc, hqf, hM9, hS, hl⟩ ih
  have ih31 := ih
  refine lv_iload_n hx hb dX8_init_31 rfl (lv_at hl 1 rfl) ?_
  refine lv_aload_n hx hb dX8_init_32 rfl (lv_at hl 0 rfl) ?_
  refine gf_X8_11 hB hq0 rfl dX8_init_33 ?_
  refine mh_alen hB 4 rfl hqm dX8_init_36 ?_
  refine mn_icmp_ge (tgt := 59) hB dX8_init_37 (by decide) (by omega) (by omega) (fun h_37 => ?_) (fun h_37 => ?_)
  · skip
    have hin9 : i9 = 5 := by omega
    subst hin9
    refine W.widen (k := 13) (n := 64) (Nat.le_of_ble_eq_true rfl) (Nat.le_of_ble_eq_true rfl) ?_
    refine lv_iconst (v := nI 0) hx hb dX8_init_59 (by decide) ?_
    refine lv_istore_n (lv' := [(1, .int (nI 0)), (0, .ref sb)]) hx hb dX8_init_60 rfl hl (by decide) rfl (fun ls hl => ?_)
    refine mh_loopC (σ := Nat) (fun xx9 H locs ls => match xx9 with | j8 => j8 ≤ 6 ∧ H.size = sb + (14 + j8) ∧ at_ g H sb (eO 6 [.int (nI 0), .int (nI 0), .int (nI 0), .int (nI 0), .int (nI 0), .ref (sb + 1), .ref (sb + 2), .ref (sb + 3)]) ∧ at_ g H (sb + 1) (eQ g 4 5 (lowQ (fun k => sb + (4 + 2 * k)) 5)) ∧ at_ g H (sb + 2) (eQ g 5 6 (lowQ (fun k => sb + (14 + k)) j8)) ∧ at_ g H (sb + 3) (eQ g 6 3 (lowQ (fun k => sb + (20 + 2 * k)) 0)) ∧ (∀ k9, k9 < 5 → at_ g H (sb + (4 + 2 * k9)) (eO 3 [.int (nI 0), .int (nI 0), .int (nI 0), .ref (sb + (5 + 2 * k9))]) ∧ at_ g H (sb + (5 + 2 * k9)) (eI g 6 (fun _ => 0))) ∧ (∀ k9, k9 < j8 → at_ g H (sb + (14 + k9)) (eO 0 [.int (nI 0), .int (nI 0), .int (nI 0), .int (nI 0), .int (nI 0)])) ∧ va_S (ftA (fun q9 => sb ≤ q9 ∧ q9 < sb + 26) H0.size) H0 H locs ∧ lv_has ls 2 [(0, .ref sb), (1, .int (nI j8))]) (fun xx9 => match xx9 with | j8 => 6 - j8) (fun xx9 => match xx9 with | j8 => 13 + j8) (fun xx9 => match xx9 with | j8 => 64 + 5 * j8) ?_ 0 ⟨(by omega), (by omega), hq0, hqm, hqc, hqf, hM9, (fun k9 h9 => absurd h9 (Nat.not_lt_zero _)), hS, lv_sub hl [1, 0] rfl⟩
    rintro j8 H locs ls ⟨hj8, hsz, hq0, hqm, hqc, hqf, hM9, hC9, hS, hl⟩ ih
    have ih61 := ih
    refine lv_iload_n hx hb dX8_init_61 rfl (lv_at hl 1 rfl) ?_
    refine lv_aload_n hx hb dX8_init_62 rfl (lv_at hl 0 rfl) ?_
    refine gf_X8_19 hB hq0 rfl dX8_init_63 ?_
    refine mh_alen hB 5 rfl hqc dX8_init_66 ?_
    refine mn_icmp_ge (tgt := 89) hB dX8_init_67 (by decide) (by omega) (by omega) (fun h_67 => ?_) (fun h_67 => ?_)
    · skip
      have hin9 : j8 = 6 := by omega
      subst hin9
      refine W.widen (k := 19) (n := 94) (Nat.le_of_ble_eq_true rfl) (Nat.le_of_ble_eq_true rfl) ?_
      refine lv_iconst (v := nI 0) hx hb dX8_init_89 (by decide) ?_
      refine lv_istore_n (lv' := [(1, .int (nI 0)), (0, .ref sb)]) hx hb dX8_init_90 rfl hl (by decide) rfl (fun ls hl => ?_)
      refine mh_loopC (σ := Nat) (fun xx9 H locs ls => match xx9 with | j7 => j7 ≤ 3 ∧ H.size = sb + (20 + 2 * j7) ∧ at_ g H sb (eO 6 [.int (nI 0), .int (nI 0), .int (nI 0), .int (nI 0), .int (nI 0), .ref (sb + 1), .ref (sb + 2), .ref (sb + 3)]) ∧ at_ g H (sb + 1) (eQ g 4 5 (lowQ (fun k => sb + (4 + 2 * k)) 5)) ∧ at_ g H (sb + 2) (eQ g 5 6 (lowQ (fun k => sb + (14 + k)) 6)) ∧ at_ g H (sb + 3) (eQ g 6 3 (lowQ (fun k => sb + (20 + 2 * k)) j7)) ∧ (∀ k9, k9 < 5 → at_ g H (sb + (4 + 2 * k9)) (eO 3 [.int (nI 0), .int (nI 0), .int (nI 0), .ref (sb + (5 + 2 * k9))]) ∧ at_ g H (sb + (5 + 2 * k9)) (eI g 6 (fun _ => 0))) ∧ (∀ k9, k9 < 6 → at_ g H (sb + (14 + k9)) (eO 0 [.int (nI 0), .int (nI 0), .int (nI 0), .int (nI 0), .int (nI 0)])) ∧ (∀ k9, k9 < j7 → at_ g H (sb + (20 + 2 * k9)) (eO 1 [.null, .int (nI 0), .ref (sb + (21 + 2 * k9))]) ∧ at_ g H (sb + (21 + 2 * k9)) (eI g 5 (fun _ => 0))) ∧ va_S (ftA (fun q9 => sb ≤ q9 ∧ q9 < sb + 26) H0.size) H0 H locs ∧ lv_has ls 2 [(0, .ref sb), (1, .int (nI j7))]) (fun xx9 => match xx9 with | j7 => 3 - j7) (fun xx9 => match xx9 with | j7 => 19 + 2 * j7) (fun xx9 => match xx9 with | j7 => 94 + 8 * j7) ?_ 0 ⟨(by omega), (by omega), hq0, hqm, hqc, hqf, hM9, hC9, (fun k9 h9 => absurd h9 (Nat.not_lt_zero _)), hS, lv_sub hl [1, 0] rfl⟩
      rintro j7 H locs ls ⟨hj7, hsz, hq0, hqm, hqc, hqf, hM9, hC9, hF9, hS, hl⟩ ih
      have ih91 := ih
      refine lv_iload_n hx hb dX8_init_91 rfl (lv_at hl 1 rfl) ?_
      refine lv_aload_n hx hb dX8_init_92 rfl (lv_at hl 0 rfl) ?_
      refine gf_X8_25 hB hq0 rfl dX8_init_93 ?_
      refine mh_alen hB 6 rfl hqf dX8_init_96 ?_
      refine mn_icmp_ge (tgt := 119) hB dX8_init_97 (by decide) (by omega) (by omega) (fun h_97 => ?_) (fun h_97 => ?_)
      · skip
        have hin9 : j7 = 3 := by omega
        subst hin9
        refine W.widen (k := 25) (n := 118) (Nat.le_of_ble_eq_true rfl) (Nat.le_of_ble_eq_true rfl) ?_
        refine mh_vret hB ⟨Nat.le_of_ble_eq_true rfl, Nat.le_of_ble_eq_true rfl⟩ hS dX8_init_119 ⟨?_, ?_, ?_⟩
        · rfl
        · exact ⟨hq0, hqm.eqQ (fun k hk => lowQ_all _ hk), hqc.eqQ (fun k hk => lowQ_all _ hk), hqf.eqQ (fun k hk => lowQ_all _ hk), hM9, hC9, hF9⟩
        · exact hsz
      · skip
        refine lv_aload_n hx hb dX8_init_100 rfl (lv_at hl 0 rfl) ?_
        refine gf_X8_25 hB hq0 rfl dX8_init_101 ?_
        refine lv_iload_n hx hb dX8_init_104 rfl (lv_at hl 1 rfl) ?_
        refine nw_X8_23 hB hS (by show (19 + 2 * j7) + 1 ≤ 25; omega) (by show (94 + 8 * j7) + 3 ≤ 118; omega) dX8_init_105 (fun H1 hwr => ?_)
        obtain ⟨hm9, ho, hz, hS⟩ := hwr
        have hq0 := hq0.kept (ho _ hq0.lt)
        have hqm := hqm.kept (ho _ hqm.lt)
        have hqc := hqc.kept (ho _ hqc.lt)
        have hqf := hqf.kept (ho _ hqf.lt)
        have hM9 : (∀ k9, k9 < 5 → at_ g H1 (sb + (4 + 2 * k9)) (eO 3 [.int (nI 0), .int (nI 0), .int (nI 0), .ref (sb + (5 + 2 * k9))]) ∧ at_ g H1 (sb + (5 + 2 * k9)) (eI g 6 (fun _ => 0))) := fun k9 h9 => ⟨(hM9 k9 h9).1.kept (ho _ (by omega)), (hM9 k9 h9).2.kept (ho _ (by omega))⟩
        have hC9 : (∀ k9, k9 < 6 → at_ g H1 (sb + (14 + k9)) (eO 0 [.int (nI 0), .int (nI 0), .int (nI 0), .int (nI 0), .int (nI 0)])) := fun k9 h9 => (hC9 k9 h9).kept (ho _ (by omega))
        have hF9 : (∀ k9, k9 < j7 → at_ g H1 (sb + (20 + 2 * k9)) (eO 1 [.null, .int (nI 0), .ref (sb + (21 + 2 * k9))]) ∧ at_ g H1 (sb + (21 + 2 * k9)) (eI g 5 (fun _ => 0))) := fun k9 h9 => ⟨(hF9 k9 h9).1.kept (ho _ (by omega)), (hF9 k9 h9).2.kept (ho _ (by omega))⟩
        rw [hsz] at hm9 hz
        refine mh_top (congrArg Value.ref hsz) ?_
        have hsz := hz
        generalize H1 = H at hm9 hS hsz hq0 hqm hqc hqf hM9 hC9 hF9 ⊢
        refine W.widen (k := 19 + 2 * j7 + 1) (n := 94 + 8 * j7 + 3) (by show (19 + 2 * j7) + 1 ≤ 19 + 2 * j7 + 1; omega) (by show (94 + 8 * j7) + 3 ≤ 94 + 8 * j7 + 3; omega) ?_
        have hsz : H.size = sb + (21 + 2 * j7) := by omega
        refine lv_dup hx hb dX8_init_108 rfl ?_
        refine cl_X8_31 (As := []) (rest := [.ref (sb + (20 + 2 * j7)), .int (nI j7), .ref (sb + 3)]) hB (c_X1_init l g H (sb + (20 + 2 * j7)) (sb + (21 + 2 * j7)) hm9 (by assumption)) rfl hl.1 (Nat.le_of_ble_eq_true rfl) dX8_init_109 ⟨Nat.le_of_ble_eq_true rfl, Nat.le_of_ble_eq_true rfl⟩ ⟨by show (19 + 2 * j7 + 1) + 1 ≤ 25; omega, by show (94 + 8 * j7 + 3) + 5 ≤ 118; omega⟩ hS (by have hz9 := hS.1; rintro q (h | h) <;> first | exact Or.inr (by omega) | exact h.elim | exact Or.inl h | (simp only [ftA] at h ⊢; omega)) (fun v H1 locs hpo hfr hS => ?_)
        obtain ⟨rfl, hm9, hm8, hsz⟩ := hpo
        have hq0 := Fr.keep hfr hq0 (by first | omega | exact fun y => y.elim)
        have hqm := Fr.keep hfr hqm (by first | omega | exact fun y => y.elim)
        have hqc := Fr.keep hfr hqc (by first | omega | exact fun y => y.elim)
        have hqf := Fr.keep hfr hqf (by first | omega | exact fun y => y.elim)
        have hM9 : (∀ k9, k9 < 5 → at_ g H1 (sb + (4 + 2 * k9)) (eO 3 [.int (nI 0), .int (nI 0), .int (nI 0), .ref (sb + (5 + 2 * k9))]) ∧ at_ g H1 (sb + (5 + 2 * k9)) (eI g 6 (fun _ => 0))) := fun k9 h9 => ⟨Fr.keep hfr (hM9 k9 h9).1 (by omega), Fr.keep hfr (hM9 k9 h9).2 (by omega)⟩
        have hC9 : (∀ k9, k9 < 6 → at_ g H1 (sb + (14 + k9)) (eO 0 [.int (nI 0), .int (nI 0), .int (nI 0), .int (nI 0), .int (nI 0)])) := fun k9 h9 => Fr.keep hfr (hC9 k9 h9) (by omega)
        have hF9 : (∀ k9, k9 < j7 → at_ g H1 (sb + (20 + 2 * k9)) (eO 1 [.null, .int (nI 0), .ref (sb + (21 + 2 * k9))]) ∧ at_ g H1 (sb + (21 + 2 * k9)) (eI g 5 (fun _ => 0))) := fun k9 h9 => ⟨Fr.keep hfr (hF9 k9 h9).1 (by omega), Fr.keep hfr (hF9 k9 h9).2 (by omega)⟩
        generalize H1 = H at hfr hS hq0 hqm hqc hqf hM9 hC9 hF9 hm9 hm8 hsz ⊢
        refine W.widen (k := 19 + 2 * j7 + 1 + 1) (n := 94 + 8 * j7 + 3 + 5) (by show (19 + 2 * j7 + 1) + 1 ≤ 19 + 2 * j7 + 1 + 1; omega) (by show (94 + 8 * j7 + 3) + 5 ≤ 94 + 8 * j7 + 3 + 5; omega) ?_
        refine mn_qast 6 rfl rfl hB hqf (by first | exact Or.inl rfl | (simp only [ftA]; omega) | (simp [ftA]; omega)) hm9 hS (by omega) (by omega) dX8_init_112 (fun H locs hwr => ?_)
        obtain ⟨hqf, ho, hz, hS⟩ := hwr
        have hq0 := hq0.kept (ho _ (by omega))
        have hqm := hqm.kept (ho _ (by omega))
        have hqc := hqc.kept (ho _ (by omega))
        have hM9 : (∀ k9, k9 < 5 → at_ g H (sb + (4 + 2 * k9)) (eO 3 [.int (nI 0), .int (nI 0), .int (nI 0), .ref (sb + (5 + 2 * k9))]) ∧ at_ g H (sb + (5 + 2 * k9)) (eI g 6 (fun _ => 0))) := fun k9 h9 => ⟨(hM9 k9 h9).1.kept (ho _ (by omega)), (hM9 k9 h9).2.kept (ho _ (by omega))⟩
        have hC9 : (∀ k9, k9 < 6 → at_ g H (sb + (14 + k9)) (eO 0 [.int (nI 0), .int (nI 0), .int (nI 0), .int (nI 0), .int (nI 0)])) := fun k9 h9 => (hC9 k9 h9).kept (ho _ (by omega))
        have hF9 : (∀ k9, k9 < j7 → at_ g H (sb + (20 + 2 * k9)) (eO 1 [.null, .int (nI 0), .ref (sb + (21 + 2 * k9))]) ∧ at_ g H (sb + (21 + 2 * k9)) (eI g 5 (fun _ => 0))) := fun k9 h9 => ⟨(hF9 k9 h9).1.kept (ho _ (by omega)), (hF9 k9 h9).2.kept (ho _ (by omega))⟩
        have hm9 := hm9.kept (ho _ (by omega))
        have hm8 := hm8.kept (ho _ (by omega))
        have hsz := hz.trans hsz
        refine lv_iinc (v := nI (j7 + 1)) (lv' := [(1, .int (nI (j7 + 1))), (0, .ref sb)]) hx hb dX8_init_113 hl (k := 1) rfl (nI_1 _) (by decide) rfl (fun ls hl => ?_)
        refine lv_goto (tgt := 91) hx hb dX8_init_116 (by decide) ?_
        refine W.widen (k := 19 + 2 * (j7 + 1)) (n := 94 + 8 * (j7 + 1)) (by omega) (by omega) ?_
        refine ih91 (j7 + 1) _ _ _ ⟨(by omega), (by omega), hq0, hqm, hqc, (by rw [← lowQ_up]; exact hqf), hM9, hC9, (fun k9 h9 => by by_cases e9 : k9 = j7; (subst e9; exact ⟨hm9, hm8⟩); exact hF9 k9 (by omega)), hS, lv_sub hl [1, 0] rfl⟩ (by dsimp only; omega)
    · skip
      refine lv_aload_n hx hb dX8_init_70 rfl (lv_at hl 0 rfl) ?_
      refine gf_X8_19 hB hq0 rfl dX8_init_71 ?_
      refine lv_iload_n hx hb dX8_init_74 rfl (lv_at hl 1 rfl) ?_
      refine nw_X8_17 hB hS (by show (13 + j8) + 1 ≤ 25; omega) (by show (64 + 5 * j8) + 5 ≤ 118; omega) dX8_init_75 (fun H1 hwr => ?_)
      obtain ⟨hc9, ho, hz, hS⟩ := hwr
      have hq0 := hq0.kept (ho _ hq0.lt)
      have hqm := hqm.kept (ho _ hqm.lt)
      have hqc := hqc.kept (ho _ hqc.lt)
      have hqf := hqf.kept (ho _ hqf.lt)
      have hM9 : (∀ k9, k9 < 5 → at_ g H1 (sb + (4 + 2 * k9)) (eO 3 [.int (nI 0), .int (nI 0), .int (nI 0), .ref (sb + (5 + 2 * k9))]) ∧ at_ g H1 (sb + (5 + 2 * k9)) (eI g 6 (fun _ => 0))) := fun k9 h9 => ⟨(hM9 k9 h9).1.kept (ho _ (by omega)), (hM9 k9 h9).2.kept (ho _ (by omega))⟩
      have hC9 : (∀ k9, k9 < j8 → at_ g H1 (sb + (14 + k9)) (eO 0 [.int (nI 0), .int (nI 0), .int (nI 0), .int (nI 0), .int (nI 0)])) := fun k9 h9 => (hC9 k9 h9).kept (ho _ (by omega))
      rw [hsz] at hc9 hz
      refine mh_top (congrArg Value.ref hsz) ?_
      have hsz := hz
      generalize H1 = H at hc9 hS hsz hq0 hqm hqc hqf hM9 hC9 ⊢
      refine W.widen (k := 13 + j8 + 1) (n := 64 + 5 * j8 + 5) (by show (13 + j8) + 1 ≤ 13 + j8 + 1; omega) (by show (64 + 5 * j8) + 5 ≤ 64 + 5 * j8 + 5; omega) ?_
      refine lv_dup hx hb dX8_init_78 rfl ?_
      refine cl_X8_30 (As := []) (rest := [.ref (sb + (14 + j8)), .int (nI j8), .ref (sb + 2)]) hB (c_X0_init l g H (sb + (14 + j8))) rfl hl.1 (Nat.le_of_ble_eq_true rfl) dX8_init_79 ⟨Nat.le_of_ble_eq_true rfl, Nat.le_of_ble_eq_true rfl⟩ ⟨by show (13 + j8 + 1) + 0 ≤ 25; omega, by show (64 + 5 * j8 + 5) + 0 ≤ 118; omega⟩ hS (by have hz9 := hS.1; rintro q (h | h) <;> first | exact Or.inr (by omega) | exact h.elim | exact Or.inl h | (simp only [ftA] at h ⊢; omega)) (fun v H1 locs hpo hfr hS => ?_)
      obtain ⟨rfl, rfl⟩ := hpo
      refine W.widen (k := 13 + j8 + 1) (n := 64 + 5 * j8 + 5) (by show (13 + j8 + 1) + 0 ≤ 13 + j8 + 1; omega) (by show (64 + 5 * j8 + 5) + 0 ≤ 64 + 5 * j8 + 5; omega) ?_
      refine mn_qast 5 rfl rfl hB hqc (by first | exact Or.inl rfl | (simp only [ftA]; omega) | (simp [ftA]; omega)) hc9 hS (by omega) (by omega) dX8_init_82 (fun H locs hwr => ?_)
      obtain ⟨hqc, ho, hz, hS⟩ := hwr
      have hq0 := hq0.kept (ho _ (by omega))
      have hqm := hqm.kept (ho _ (by omega))
      have hqf := hqf.kept (ho _ (by omega))
      have hM9 : (∀ k9, k9 < 5 → at_ g H (sb + (4 + 2 * k9)) (eO 3 [.int (nI 0), .int (nI 0), .int (nI 0), .ref (sb + (5 + 2 * k9))]) ∧ at_ g H (sb + (5 + 2 * k9)) (eI g 6 (fun _ => 0))) := fun k9 h9 => ⟨(hM9 k9 h9).1.kept (ho _ (by omega)), (hM9 k9 h9).2.kept (ho _ (by omega))⟩
      have hC9 : (∀ k9, k9 < j8 → at_ g H (sb + (14 + k9)) (eO 0 [.int (nI 0), .int (nI 0), .int (nI 0), .int (nI 0), .int (nI 0)])) := fun k9 h9 => (hC9 k9 h9).kept (ho _ (by omega))
      have hc9 := hc9.kept (ho _ (by omega))
      have hsz := hz.trans hsz
      refine lv_iinc (v := nI (j8 + 1)) (lv' := [(1, .int (nI (j8 + 1))), (0, .ref sb)]) hx hb dX8_init_83 hl (k := 1) rfl (nI_1 _) (by decide) rfl (fun ls hl => ?_)
      refine lv_goto (tgt := 61) hx hb dX8_init_86 (by decide) ?_
      refine W.widen (k := 13 + (j8 + 1)) (n := 64 + 5 * (j8 + 1)) (by omega) (by omega) ?_
      refine ih61 (j8 + 1) _ _ _ ⟨(by omega), (by omega), hq0, hqm, (by rw [← lowQ_up]; exact hqc), hqf, hM9, (fun k9 h9 => by by_cases e9 : k9 = j8; (subst e9; exact hc9); exact hC9 k9 (by omega)), hS, lv_sub hl [1, 0] rfl⟩ (by dsimp only; omega)
  · skip
    refine lv_aload_n hx hb dX8_init_40 rfl (lv_at hl 0 rfl) ?_
    refine gf_X8_11 hB hq0 rfl dX8_init_41 ?_
    refine lv_iload_n hx hb dX8_init_44 rfl (lv_at hl 1 rfl) ?_
    refine nw_X8_9 hB hS (by show (3 + 2 * i9) + 1 ≤ 25; omega) (by show (14 + 10 * i9) + 4 ≤ 118; omega) dX8_init_45 (fun H1 hwr => ?_)
    obtain ⟨hm9, ho, hz, hS⟩ := hwr
    have hq0 := hq0.kept (ho _ hq0.lt)
    have hqm := hqm.kept (ho _ hqm.lt)
    have hqc := hqc.kept (ho _ hqc.lt)
    have hqf := hqf.kept (ho _ hqf.lt)
    have hM9 : (∀ k9, k9 < i9 → at_ g H1 (sb + (4 + 2 * k9)) (eO 3 [.int (nI 0), .int (nI 0), .int (nI 0), .ref (sb + (5 + 2 * k9))]) ∧ at_ g H1 (sb + (5 + 2 * k9)) (eI g 6 (fun _ => 0))) := fun k9 h9 => ⟨(hM9 k9 h9).1.kept (ho _ (by omega)), (hM9 k9 h9).2.kept (ho _ (by omega))⟩
    rw [hsz] at hm9 hz
    refine mh_top (congrArg Value.ref hsz) ?_
    have hsz := hz
    generalize H1 = H at hm9 hS hsz hq0 hqm hqc hqf hM9 ⊢
    refine W.widen (k := 3 + 2 * i9 + 1) (n := 14 + 10 * i9 + 4) (by show (3 + 2 * i9) + 1 ≤ 3 + 2 * i9 + 1; omega) (by show (14 + 10 * i9) + 4 ≤ 14 + 10 * i9 + 4; omega) ?_
    have hsz : H.size = sb + (5 + 2 * i9) := by omega
    refine lv_dup hx hb dX8_init_48 rfl ?_
    refine cl_X8_29 (As := []) (rest := [.ref (sb + (4 + 2 * i9)), .int (nI i9), .ref (sb + 1)]) hB (c_X3_init l g H (sb + (4 + 2 * i9)) (sb + (5 + 2 * i9)) hm9 (by assumption)) rfl hl.1 (Nat.le_of_ble_eq_true rfl) dX8_init_49 ⟨Nat.le_of_ble_eq_true rfl, Nat.le_of_ble_eq_true rfl⟩ ⟨by show (3 + 2 * i9 + 1) + 1 ≤ 25; omega, by show (14 + 10 * i9 + 4) + 6 ≤ 118; omega⟩ hS (by have hz9 := hS.1; rintro q (h | h) <;> first | exact Or.inr (by omega) | exact h.elim | exact Or.inl h | (simp only [ftA] at h ⊢; omega)) (fun v H1 locs hpo hfr hS => ?_)
    obtain ⟨rfl, hm9, hm8, hsz⟩ := hpo
    have hq0 := Fr.keep hfr hq0 (by first | omega | exact fun y => y.elim)
    have hqm := Fr.keep hfr hqm (by first | omega | exact fun y => y.elim)
    have hqc := Fr.keep hfr hqc (by first | omega | exact fun y => y.elim)
    have hqf := Fr.keep hfr hqf (by first | omega | exact fun y => y.elim)
    have hM9 : (∀ k9, k9 < i9 → at_ g H1 (sb + (4 + 2 * k9)) (eO 3 [.int (nI 0), .int (nI 0), .int (nI 0), .ref (sb + (5 + 2 * k9))]) ∧ at_ g H1 (sb + (5 + 2 * k9)) (eI g 6 (fun _ => 0))) := fun k9 h9 => ⟨Fr.keep hfr (hM9 k9 h9).1 (by omega), Fr.keep hfr (hM9 k9 h9).2 (by omega)⟩
    generalize H1 = H at hfr hS hq0 hqm hqc hqf hM9 hm9 hm8 hsz ⊢
    refine W.widen (k := 3 + 2 * i9 + 1 + 1) (n := 14 + 10 * i9 + 4 + 6) (by show (3 + 2 * i9 + 1) + 1 ≤ 3 + 2 * i9 + 1 + 1; omega) (by show (14 + 10 * i9 + 4) + 6 ≤ 14 + 10 * i9 + 4 + 6; omega) ?_
    refine mn_qast 4 rfl rfl hB hqm (by first | exact Or.inl rfl | (simp only [ftA]; omega) | (simp [ftA]; omega)) hm9 hS (by omega) (by omega) dX8_init_52 (fun H locs hwr => ?_)
    obtain ⟨hqm, ho, hz, hS⟩ := hwr
    have hq0 := hq0.kept (ho _ (by omega))
    have hqc := hqc.kept (ho _ (by omega))
    have hqf := hqf.kept (ho _ (by omega))
    have hM9 : (∀ k9, k9 < i9 → at_ g H (sb + (4 + 2 * k9)) (eO 3 [.int (nI 0), .int (nI 0), .int (nI 0), .ref (sb + (5 + 2 * k9))]) ∧ at_ g H (sb + (5 + 2 * k9)) (eI g 6 (fun _ => 0))) := fun k9 h9 => ⟨(hM9 k9 h9).1.kept (ho _ (by omega)), (hM9 k9 h9).2.kept (ho _ (by omega))⟩
    have hm9 := hm9.kept (ho _ (by omega))
    have hm8 := hm8.kept (ho _ (by omega))
    have hsz := hz.trans hsz
    refine lv_iinc (v := nI (i9 + 1)) (lv' := [(1, .int (nI (i9 + 1))), (0, .ref sb)]) hx hb dX8_init_53 hl (k := 1) rfl (nI_1 _) (by decide) rfl (fun ls hl => ?_)
    refine lv_goto (tgt := 31) hx hb dX8_init_56 (by decide) ?_
    refine W.widen (k := 3 + 2 * (i9 + 1)) (n := 14 + 10 * (i9 + 1)) (by omega) (by omega) ?_
    refine ih31 (i9 + 1) _ _ _ ⟨(by omega), (by omega), hq0, (by rw [← lowQ_up]; exact hqm), hqc, hqf, (fun k9 h9 => by by_cases e9 : k9 = i9; (subst e9; exact ⟨hm9, hm8⟩); exact hM9 k9 (by omega)), hS, lv_sub hl [1, 0] rfl⟩ (by dsimp only; omega)
