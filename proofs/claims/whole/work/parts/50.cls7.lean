theorem nar_bI (b : Bool) : narrow .boolean (.int (bI b)) = .int (bI b) := by cases b <;> rfl

def rm_c_X1_exchangeColours_e : Room := { frames := 0, cells := 0, slots := 0, locals := 0 }
set_option maxRecDepth 100000 in
set_option maxHeartbeats 400000 in
theorem c_X1_exchangeColours_e (l : Launch) (g : GG) (H0 : Heap) (sb : Nat) (z : Nat → Int32) (P : Nat → Option Nat) (D : Nat → Prop) (q : Nat → Int32) (f : Nat) (a0 : Nat) (hS1 : StAt g sb z P H0) (hPT : PT g D P q H0) (hf : f < 3) (hpos : 0 < szF q f) (ha6 : a0 < 6) : Ct l yX1_exchangeColours cX1_exchangeColours 3 (some .int) rm_c_X1_exchangeColours_e g [.ref (sb + (20 + 2 * f)), .int (nI a0), .int (nI a0)] H0 (ftA (fun _ => False) H0.size) (fun v H1 => v = some (.int (nI 0)) ∧ H0 = H1) := by
  refine Ct.of (by decide) (fun _ h => Or.inr h) (Nat.le_of_ble_eq_true rfl) ?_
  intro p e s m below meth c ls hB hin hS hH hl
  have hx := hB.x
  have hb := hB.b
  have hl : lv_has ls 3 [(0, .ref (sb + (20 + 2 * f))), (1, .int (nI a0)), (2, .int (nI a0))] := hl
  rcases hPf : P f with _ | p9
  · skip
    have hz0 := hPT.none0 hf hPf
    exfalso
    omega
  · skip
    have hz0 := hPT.pos hf hPf
    obtain ⟨b9, hd1, hd2, hpb⟩ := hPT.some0 hf hPf
    have hw0 := hpb.2.2.1
    have hw16 := hpb.2.2.2.1
    have hh0 := hpb.2.2.2.2.1
    have hh16 := hpb.2.2.2.2.2.1
    have hwh := hpb.2.2.2.2.2.2.1
    have hcol := hpb.2.2.2.2.2.2.2
    have hzz : szF q f = wdF q f * htF q f := rfl
    refine lv_aload_n hx hb dX1_exchangeColours_0 rfl (lv_at hl 0 rfl) ?_
    refine gf_X1_15 hB (hS1.ofS (k := f) (by omega) hPf) rfl dX1_exchangeColours_1 ?_
    refine lv_ifnull hx hb dX1_exchangeColours_4 ?_
    refine lv_iload_n hx hb dX1_exchangeColours_7 rfl (lv_at hl 1 rfl) ?_
    refine lv_iload_n hx hb dX1_exchangeColours_8 rfl (lv_at hl 2 rfl) ?_
    refine mn_icmp_ne (tgt := 14) hB dX1_exchangeColours_9 (by decide) (by omega) (by omega) (fun h => by exfalso; omega) (fun h_9 => ?_)
    refine lv_iconst (v := nI 0) hx hb dX1_exchangeColours_12 (by decide) ?_
    refine mh_iret hB ⟨Nat.le_of_ble_eq_true rfl, Nat.le_of_ble_eq_true rfl⟩ hS dX1_exchangeColours_13 ⟨?_, rfl⟩
    · rfl

def rm_c_X7_sews : Room := { frames := 4, cells := 0, slots := 0, locals := 87 }
set_option maxRecDepth 100000 in
set_option maxHeartbeats 400000 in
theorem c_X7_sews (l : Launch) (g : GG) (H0 : Heap) (sb : Nat) (P : Nat → Option Nat) (D : Nat → Prop) (q : Nat → Int32) (f : Nat) (n0 : Nat) (hS1 : StAt g sb (zOf q) P H0) (hPT : PT g D P q H0) (hD : ∀ q9, sb ≤ q9 → q9 < sb + 26 → D q9) (hW : WF q) (hf : f < 3) (hn0 : n0 < 100) : Ct l yX7_sews cX7_sews 3 (some .boolean) rm_c_X7_sews g [.ref sb, .ref (sb + (20 + 2 * f)), .int (nI n0)] H0 (ftA (fun q9 => sb ≤ q9 ∧ q9 < sb + 26) H0.size) (fun v H1 => v = some (.int (bI (sB1 q f n0))) ∧ ∃ (P2 : Nat → Option Nat), StAt g sb (zOf (sQ1 q f n0)) P2 H1 ∧ PT g D P2 (sQ1 q f n0) H1) := by
  refine Ct.of (by decide) (fun _ h => Or.inr h) (Nat.le_of_ble_eq_true rfl) ?_
  intro p e s m below meth c ls hB hin hS hH hl
  have hx := hB.x
  have hb := hB.b
  have hl : lv_has ls 3 [(0, .ref sb), (1, .ref (sb + (20 + 2 * f))), (2, .int (nI n0))] := hl
  have hnm5 := hW.2.2.1
  have hz0 : (zOf q) 0 = nI (nmQ q) := by rw [zOf_lo (by omega), hW.1]
  refine lv_aload_n hx hb dX7_sews_0 rfl (lv_at hl 1 rfl) ?_
  refine lv_ifnull hx hb dX7_sews_1 ?_
  refine lv_iload_n hx hb dX7_sews_4 rfl (lv_at hl 2 rfl) ?_
  refine lv_iconst (v := nI 1) hx hb dX7_sews_5 (by decide) ?_
  refine mn_icmp_lt (tgt := 17) hB dX7_sews_6 (by decide) (by omega) (by omega) (fun h_6 => ?_) (fun h_6 => ?_)
  · skip
    have hB0 : sB1 q f n0 = false := by unfold sB1; exact decide_eq_false (by omega)
    refine lv_iconst (v := nI 0) hx hb dX7_sews_17 (by decide) ?_
    refine mh_zret hB ⟨Nat.le_of_ble_eq_true rfl, Nat.le_of_ble_eq_true rfl⟩ hS dX7_sews_18 (by first | rfl | decide | (split <;> rfl)) ⟨?_, P, ?_, ?_⟩
    · rw [hB0]; rfl
    · rw [show sQ1 q f n0 = q from by unfold sQ1; rw [if_neg (by rw [hB0]; decide)]]; exact hS1
    · rw [show sQ1 q f n0 = q from by unfold sQ1; rw [if_neg (by rw [hB0]; decide)]]; exact hPT
  · skip
    refine lv_aload_n hx hb dX7_sews_9 rfl (lv_at hl 0 rfl) ?_
    refine lv_aload_n hx hb dX7_sews_10 rfl (lv_at hl 1 rfl) ?_
    refine cl_X7_58 (As := [.ref (sb + (20 + 2 * f))]) (rest := []) hB (c_X8_canSewOn l g H0 sb (zOf q) P D q f (nmQ q) hS1 hPT (by first | assumption | omega) (hz0) (hnm5)) hS1.o rfl hl.1 (Nat.le_of_ble_eq_true rfl) dX7_sews_11 ⟨Nat.le_of_ble_eq_true rfl, Nat.le_of_ble_eq_true rfl⟩ ⟨Nat.le_of_ble_eq_true rfl, Nat.le_of_ble_eq_true rfl⟩ hS (by have hz9 := hS.1; rintro q (h | h) <;> first | exact Or.inr (by omega) | exact h.elim | exact Or.inl h | (simp only [ftA] at h ⊢; omega)) (fun v H1 locs hpo hfr hS => ?_)
    obtain ⟨rfl, rfl⟩ := hpo
    refine W.widen (k := 0) (n := 0) (Nat.le_of_ble_eq_true rfl) (Nat.le_of_ble_eq_true rfl) ?_
    refine mb_if_ne (tgt := 19) hB dX7_sews_14 (by decide) (fun h_14 => ?_) (fun h_14 => ?_)
    · skip
      have h14 := of_decide_eq_true h_14
      have hB1 : sB1 q f n0 = true := by unfold sB1; exact decide_eq_true (by omega)
      refine lv_aload_n hx hb dX7_sews_19 rfl (lv_at hl 0 rfl) ?_
      refine lv_aload_n hx hb dX7_sews_20 rfl (lv_at hl 1 rfl) ?_
      refine lv_iload_n hx hb dX7_sews_21 rfl (lv_at hl 2 rfl) ?_
      refine cl_X7_62 (As := [.ref (sb + (20 + 2 * f)), .int (nI n0)]) (rest := []) hB (c_X8_sewPatches l g H0 sb P D q f n0 hS1 hPT (by first | assumption | omega) (by first | assumption | omega) (by first | assumption | omega) (by first | assumption | omega) (h14.2)) hS1.o rfl hl.1 (Nat.le_of_ble_eq_true rfl) dX7_sews_22 ⟨Nat.le_of_ble_eq_true rfl, Nat.le_of_ble_eq_true rfl⟩ ⟨Nat.le_of_ble_eq_true rfl, Nat.le_of_ble_eq_true rfl⟩ hS (by have hz9 := hS.1; rintro q (h | h) <;> first | exact Or.inr (by omega) | exact h.elim | exact Or.inl h | (simp only [ftA] at h ⊢; omega)) (fun v H1 locs hpo hfr hS => ?_)
      obtain ⟨rfl, hS1, hPT⟩ := hpo
      generalize H1 = H at hfr hS hS1 hPT ⊢
      refine W.widen (k := 0) (n := 0) (Nat.le_of_ble_eq_true rfl) (Nat.le_of_ble_eq_true rfl) ?_
      refine lv_pop hx hb dX7_sews_25 rfl ?_
      refine lv_iconst (v := nI 1) hx hb dX7_sews_26 (by decide) ?_
      refine mh_zret hB ⟨Nat.le_of_ble_eq_true rfl, Nat.le_of_ble_eq_true rfl⟩ hS dX7_sews_27 (by first | rfl | decide | (split <;> rfl)) ⟨?_, P, ?_, ?_⟩
      · rw [hB1]; rfl
      · unfold sQ1; rw [if_pos hB1]; exact hS1
      · unfold sQ1; rw [if_pos hB1]; exact hPT
    · skip
      have h14 := of_decide_eq_false h_14
      have hB0 : sB1 q f n0 = false := by unfold sB1; exact decide_eq_false (by omega)
      refine lv_iconst (v := nI 0) hx hb dX7_sews_17 (by decide) ?_
      refine mh_zret hB ⟨Nat.le_of_ble_eq_true rfl, Nat.le_of_ble_eq_true rfl⟩ hS dX7_sews_18 (by first | rfl | decide | (split <;> rfl)) ⟨?_, P, ?_, ?_⟩
      · rw [hB0]; rfl
      · rw [show sQ1 q f n0 = q from by unfold sQ1; rw [if_neg (by rw [hB0]; decide)]]; exact hS1
      · rw [show sQ1 q f n0 = q from by unfold sQ1; rw [if_neg (by rw [hB0]; decide)]]; exact hPT

def rm_c_X7_sews_o : Room := { frames := 0, cells := 0, slots := 0, locals := 0 }
set_option maxRecDepth 100000 in
set_option maxHeartbeats 400000 in
theorem c_X7_sews_o (l : Launch) (g : GG) (H0 : Heap) (sb : Nat) (P : Nat → Option Nat) (D : Nat → Prop) (q : Nat → Int32) (x : Int32) (hS1 : StAt g sb (zOf q) P H0) (hPT : PT g D P q H0) (hD : ∀ q9, sb ≤ q9 → q9 < sb + 26 → D q9) (hW : WF q) : Ct l yX7_sews cX7_sews 3 (some .boolean) rm_c_X7_sews_o g [.ref sb, .null, .int x] H0 (ftA (fun q9 => sb ≤ q9 ∧ q9 < sb + 26) H0.size) (fun v H1 => v = some (.int (bI false)) ∧ ∃ (P2 : Nat → Option Nat), StAt g sb (zOf (q)) P2 H1 ∧ PT g D P2 q H1) := by
  refine Ct.of (by decide) (fun _ h => Or.inr h) (Nat.le_of_ble_eq_true rfl) ?_
  intro p e s m below meth c ls hB hin hS hH hl
  have hx := hB.x
  have hb := hB.b
  have hl : lv_has ls 3 [(0, .ref sb), (1, .null), (2, .int x)] := hl
  refine lv_aload_nN hx hb dX7_sews_0 rfl (lv_at hl 1 rfl) ?_
  refine lv_ifnullN (tgt := 17) hx hb dX7_sews_1 (by decide) ?_
  refine lv_iconst (v := nI 0) hx hb dX7_sews_17 (by decide) ?_
  refine mh_zret hB ⟨Nat.le_of_ble_eq_true rfl, Nat.le_of_ble_eq_true rfl⟩ hS dX7_sews_18 (by first | rfl | decide | (split <;> rfl)) ⟨?_, P, ?_, ?_⟩
  · rfl
  · exact hS1
  · exact hPT

def rm_c_X7_gives : Room := { frames := 3, cells := 0, slots := 0, locals := 68 }
set_option maxRecDepth 100000 in
set_option maxHeartbeats 400000 in
theorem c_X7_gives (l : Launch) (g : GG) (H0 : Heap) (sb : Nat) (P : Nat → Option Nat) (D : Nat → Prop) (q : Nat → Int32) (k : Nat) (c0 : Nat) (n0 : Nat) (hS1 : StAt g sb (zOf q) P H0) (hPT : PT g D P q H0) (hD : ∀ q9, sb ≤ q9 → q9 < sb + 26 → D q9) (hW : WF q) (hk : k < 5) (hc9 : c0 < 10) (hn9 : n0 < 10) : Ct l yX7_gives cX7_gives 4 (some .boolean) rm_c_X7_gives g [.ref sb, .ref (sb + (4 + 2 * k)), .int (nI c0), .int (nI n0)] H0 (ftA (fun q9 => sb ≤ q9 ∧ q9 < sb + 26) H0.size) (fun v H1 => v = some (.int (bI (sB2 c0 n0))) ∧ ∃ (P2 : Nat → Option Nat), StAt g sb (zOf (sQ2 q k c0 n0)) P2 H1 ∧ PT g D P2 (sQ2 q k c0 n0) H1) := by
  refine Ct.of (by decide) (fun _ h => Or.inr h) (Nat.le_of_ble_eq_true rfl) ?_
  intro p e s m below meth c ls hB hin hS hH hl
  have hx := hB.x
  have hb := hB.b
  have hl : lv_has ls 4 [(0, .ref sb), (1, .ref (sb + (4 + 2 * k))), (2, .int (nI c0)), (3, .int (nI n0))] := hl
  refine lv_aload_n hx hb dX7_gives_0 rfl (lv_at hl 1 rfl) ?_
  refine lv_ifnull hx hb dX7_gives_1 ?_
  rcases Nat.lt_or_ge c0 6 with hc0 | hc0
  · skip
    refine lv_aload_n hx hb dX7_gives_4 rfl (lv_at hl 0 rfl) ?_
    refine lv_iload_n hx hb dX7_gives_5 rfl (lv_at hl 2 rfl) ?_
    refine cl_X7_46 (As := [.int (nI c0)]) (rest := []) hB (c_X8_clothAt l g H0 sb (zOf q) P c0 hS1 (by omega)) hS1.o rfl hl.1 (Nat.le_of_ble_eq_true rfl) dX7_gives_6 ⟨Nat.le_of_ble_eq_true rfl, Nat.le_of_ble_eq_true rfl⟩ ⟨Nat.le_of_ble_eq_true rfl, Nat.le_of_ble_eq_true rfl⟩ hS (by have hz9 := hS.1; rintro q (h | h) <;> first | exact Or.inr (by omega) | exact h.elim | exact Or.inl h | (simp only [ftA] at h ⊢; omega)) (fun v H1 locs hpo hfr hS => ?_)
    obtain ⟨rfl, rfl⟩ := hpo
    refine W.widen (k := 0) (n := 0) (Nat.le_of_ble_eq_true rfl) (Nat.le_of_ble_eq_true rfl) ?_
    refine lv_ifnull hx hb dX7_gives_9 ?_
    refine lv_iload_n hx hb dX7_gives_12 rfl (lv_at hl 3 rfl) ?_
    refine lv_iconst (v := nI 1) hx hb dX7_gives_13 (by decide) ?_
    refine mn_icmp_ge (tgt := 19) hB dX7_gives_14 (by decide) (by omega) (by omega) (fun h_14 => ?_) (fun h_14 => ?_)
    · skip
      have hB1 : sB2 c0 n0 = true := by unfold sB2; exact decide_eq_true (by omega)
      refine lv_aload_n hx hb dX7_gives_19 rfl (lv_at hl 0 rfl) ?_
      refine lv_aload_n hx hb dX7_gives_20 rfl (lv_at hl 1 rfl) ?_
      refine lv_iload_n hx hb dX7_gives_21 rfl (lv_at hl 2 rfl) ?_
      refine lv_iload_n hx hb dX7_gives_22 rfl (lv_at hl 3 rfl) ?_
      refine cl_X7_66 (As := [.ref (sb + (4 + 2 * k)), .int (nI c0), .int (nI n0)]) (rest := []) hB (c_X8_takeGift l g H0 sb (zOf q) P k c0 (nI n0) hS1 (hk) (by omega)) hS1.o rfl hl.1 (Nat.le_of_ble_eq_true rfl) dX7_gives_23 ⟨Nat.le_of_ble_eq_true rfl, Nat.le_of_ble_eq_true rfl⟩ ⟨Nat.le_of_ble_eq_true rfl, Nat.le_of_ble_eq_true rfl⟩ hS (by have hz9 := hS.1; rintro q (h | h) <;> first | exact Or.inr (by omega) | exact h.elim | exact Or.inl h | (simp only [ftA] at h ⊢; omega)) (fun v H1 locs hpo hfr hS => ?_)
      obtain ⟨rfl, hS1⟩ := hpo
      have hPT := hPT.keptF hfr (fun q9 hq9 => by first | exact hq9.elim | exact hD q9 (by have := hq9; omega) (by have := hq9; omega))
      generalize H1 = H at hfr hS hPT hS1 ⊢
      refine W.widen (k := 0) (n := 0) (Nat.le_of_ble_eq_true rfl) (Nat.le_of_ble_eq_true rfl) ?_
      have hS1 := hS1.congr (giv_z hW hk hc0) (fun _ _ => rfl)
      refine lv_iconst (v := nI 1) hx hb dX7_gives_26 (by decide) ?_
      refine mh_zret hB ⟨Nat.le_of_ble_eq_true rfl, Nat.le_of_ble_eq_true rfl⟩ hS dX7_gives_27 (by first | rfl | decide | (split <;> rfl)) ⟨?_, P, ?_, ?_⟩
      · rw [hB1]; rfl
      · unfold sQ2; rw [if_pos hB1]; exact hS1
      · unfold sQ2; rw [if_pos hB1]; exact hPT.giv hW hk hc0
    · skip
      have hB0 : sB2 c0 n0 = false := by unfold sB2; exact decide_eq_false (by omega)
      refine lv_iconst (v := nI 0) hx hb dX7_gives_17 (by decide) ?_
      refine mh_zret hB ⟨Nat.le_of_ble_eq_true rfl, Nat.le_of_ble_eq_true rfl⟩ hS dX7_gives_18 (by first | rfl | decide | (split <;> rfl)) ⟨?_, P, ?_, ?_⟩
      · rw [hB0]; rfl
      · rw [show sQ2 q k c0 n0 = q from by unfold sQ2; rw [if_neg (by rw [hB0]; decide)]]; exact hS1
      · rw [show sQ2 q k c0 n0 = q from by unfold sQ2; rw [if_neg (by rw [hB0]; decide)]]; exact hPT
  · skip
    refine lv_aload_n hx hb dX7_gives_4 rfl (lv_at hl 0 rfl) ?_
    refine lv_iload_n hx hb dX7_gives_5 rfl (lv_at hl 2 rfl) ?_
    refine cl_X7_46 (As := [.int (nI c0)]) (rest := []) hB (c_X8_clothAt_o l g H0 sb (zOf q) P (nI c0) hS1 (by rw [isIx_nI (by omega)]; exact decide_eq_false (by omega))) hS1.o rfl hl.1 (Nat.le_of_ble_eq_true rfl) dX7_gives_6 ⟨Nat.le_of_ble_eq_true rfl, Nat.le_of_ble_eq_true rfl⟩ ⟨Nat.le_of_ble_eq_true rfl, Nat.le_of_ble_eq_true rfl⟩ hS (by have hz9 := hS.1; rintro q (h | h) <;> first | exact Or.inr (by omega) | exact h.elim | exact Or.inl h | (simp only [ftA] at h ⊢; omega)) (fun v H1 locs hpo hfr hS => ?_)
    obtain ⟨rfl, rfl⟩ := hpo
    refine W.widen (k := 0) (n := 0) (Nat.le_of_ble_eq_true rfl) (Nat.le_of_ble_eq_true rfl) ?_
    refine lv_ifnullN (tgt := 17) hx hb dX7_gives_9 (by decide) ?_
    have hB0 : sB2 c0 n0 = false := by unfold sB2; exact decide_eq_false (by omega)
    refine lv_iconst (v := nI 0) hx hb dX7_gives_17 (by decide) ?_
    refine mh_zret hB ⟨Nat.le_of_ble_eq_true rfl, Nat.le_of_ble_eq_true rfl⟩ hS dX7_gives_18 (by first | rfl | decide | (split <;> rfl)) ⟨?_, P, ?_, ?_⟩
    · rw [hB0]; rfl
    · rw [show sQ2 q k c0 n0 = q from by unfold sQ2; rw [if_neg (by rw [hB0]; decide)]]; exact hS1
    · rw [show sQ2 q k c0 n0 = q from by unfold sQ2; rw [if_neg (by rw [hB0]; decide)]]; exact hPT

def rm_c_X7_gives_o : Room := { frames := 0, cells := 0, slots := 0, locals := 0 }
set_option maxRecDepth 100000 in
set_option maxHeartbeats 400000 in
theorem c_X7_gives_o (l : Launch) (g : GG) (H0 : Heap) (sb : Nat) (P : Nat → Option Nat) (D : Nat → Prop) (q : Nat → Int32) (x : Int32) (y : Int32) (hS1 : StAt g sb (zOf q) P H0) (hPT : PT g D P q H0) (hD : ∀ q9, sb ≤ q9 → q9 < sb + 26 → D q9) (hW : WF q) : Ct l yX7_gives cX7_gives 4 (some .boolean) rm_c_X7_gives_o g [.ref sb, .null, .int x, .int y] H0 (ftA (fun q9 => sb ≤ q9 ∧ q9 < sb + 26) H0.size) (fun v H1 => v = some (.int (bI false)) ∧ ∃ (P2 : Nat → Option Nat), StAt g sb (zOf (q)) P2 H1 ∧ PT g D P2 q H1) := by
  refine Ct.of (by decide) (fun _ h => Or.inr h) (Nat.le_of_ble_eq_true rfl) ?_
  intro p e s m below meth c ls hB hin hS hH hl
  have hx := hB.x
  have hb := hB.b
  have hl : lv_has ls 4 [(0, .ref sb), (1, .null), (2, .int x), (3, .int y)] := hl
  refine lv_aload_nN hx hb dX7_gives_0 rfl (lv_at hl 1 rfl) ?_
  refine lv_ifnullN (tgt := 17) hx hb dX7_gives_1 (by decide) ?_
  refine lv_iconst (v := nI 0) hx hb dX7_gives_17 (by decide) ?_
  refine mh_zret hB ⟨Nat.le_of_ble_eq_true rfl, Nat.le_of_ble_eq_true rfl⟩ hS dX7_gives_18 (by first | rfl | decide | (split <;> rfl)) ⟨?_, P, ?_, ?_⟩
  · rfl
  · exact hS1
  · exact hPT

def rm_c_X7_takesApart : Room := { frames := 4, cells := 0, slots := 0, locals := 94 }
set_option maxRecDepth 100000 in
set_option maxHeartbeats 400000 in
theorem c_X7_takesApart (l : Launch) (g : GG) (H0 : Heap) (sb : Nat) (P : Nat → Option Nat) (D : Nat → Prop) (q : Nat → Int32) (f : Nat) (hS1 : StAt g sb (zOf q) P H0) (hPT : PT g D P q H0) (hD : ∀ q9, sb ≤ q9 → q9 < sb + 26 → D q9) (hW : WF q) (hf : f < 3) : Ct l yX7_takesApart cX7_takesApart 2 (some .boolean) rm_c_X7_takesApart g [.ref sb, .ref (sb + (20 + 2 * f))] H0 (ftA (fun q9 => sb ≤ q9 ∧ q9 < sb + 26) H0.size) (fun v H1 => v = some (.int (bI (sB3 q f))) ∧ ∃ (P2 : Nat → Option Nat), StAt g sb (zOf (sQ3 q f)) P2 H1 ∧ PT g D P2 (sQ3 q f) H1) := by
  refine Ct.of (by decide) (fun _ h => Or.inr h) (Nat.le_of_ble_eq_true rfl) ?_
  intro p e s m below meth c ls hB hin hS hH hl
  have hx := hB.x
  have hb := hB.b
  have hl : lv_has ls 2 [(0, .ref sb), (1, .ref (sb + (20 + 2 * f)))] := hl
  refine lv_aload_n hx hb dX7_takesApart_0 rfl (lv_at hl 1 rfl) ?_
  refine lv_ifnull hx hb dX7_takesApart_1 ?_
  refine lv_aload_n hx hb dX7_takesApart_4 rfl (lv_at hl 1 rfl) ?_
  refine cl_X7_70 (As := []) (rest := []) hB (c_X1_isEmpty l g H0 sb (zOf q) P D q f hS1 hPT (by first | assumption | omega)) (hS1.of (k := f) (by omega)) rfl hl.1 (Nat.le_of_ble_eq_true rfl) dX7_takesApart_5 ⟨Nat.le_of_ble_eq_true rfl, Nat.le_of_ble_eq_true rfl⟩ ⟨Nat.le_of_ble_eq_true rfl, Nat.le_of_ble_eq_true rfl⟩ hS (by have hz9 := hS.1; rintro q (h | h) <;> first | exact Or.inr (by omega) | exact h.elim | exact Or.inl h | (simp only [ftA] at h ⊢; omega)) (fun v H1 locs hpo hfr hS => ?_)
  obtain ⟨rfl, rfl⟩ := hpo
  refine W.widen (k := 0) (n := 0) (Nat.le_of_ble_eq_true rfl) (Nat.le_of_ble_eq_true rfl) ?_
  refine mb_if_eq (tgt := 13) hB dX7_takesApart_8 (by decide) (fun h_8 => ?_) (fun h_8 => ?_)
  · skip
    have h8 := of_decide_eq_false h_8
    have hB1 : sB3 q f = true := by unfold sB3; exact decide_eq_true (by omega)
    refine lv_aload_n hx hb dX7_takesApart_13 rfl (lv_at hl 0 rfl) ?_
    refine lv_aload_n hx hb dX7_takesApart_14 rfl (lv_at hl 1 rfl) ?_
    refine cl_X7_76 (As := [.ref (sb + (20 + 2 * f))]) (rest := []) hB (c_X8_cutUp l g H0 sb P D q f hS1 hPT (by first | assumption | omega) (by first | assumption | omega) (by first | assumption | omega)) hS1.o rfl hl.1 (Nat.le_of_ble_eq_true rfl) dX7_takesApart_15 ⟨Nat.le_of_ble_eq_true rfl, Nat.le_of_ble_eq_true rfl⟩ ⟨Nat.le_of_ble_eq_true rfl, Nat.le_of_ble_eq_true rfl⟩ hS (by have hz9 := hS.1; rintro q (h | h) <;> first | exact Or.inr (by omega) | exact h.elim | exact Or.inl h | (simp only [ftA] at h ⊢; omega)) (fun v H1 locs hpo hfr hS => ?_)
    obtain ⟨rfl, hS1, hPT⟩ := hpo
    generalize H1 = H at hfr hS hS1 hPT ⊢
    refine W.widen (k := 0) (n := 0) (Nat.le_of_ble_eq_true rfl) (Nat.le_of_ble_eq_true rfl) ?_
    refine lv_pop hx hb dX7_takesApart_18 rfl ?_
    refine lv_iconst (v := nI 1) hx hb dX7_takesApart_19 (by decide) ?_
    refine mh_zret hB ⟨Nat.le_of_ble_eq_true rfl, Nat.le_of_ble_eq_true rfl⟩ hS dX7_takesApart_20 (by first | rfl | decide | (split <;> rfl)) ⟨?_, va_up P f none, ?_, ?_⟩
    · rw [hB1]; rfl
    · unfold sQ3; rw [if_pos hB1]; exact hS1
    · unfold sQ3; rw [if_pos hB1]; exact hPT
  · skip
    have h8 := of_decide_eq_true h_8
    have hB0 : sB3 q f = false := by unfold sB3; exact decide_eq_false (by omega)
    refine lv_iconst (v := nI 0) hx hb dX7_takesApart_11 (by decide) ?_
    refine mh_zret hB ⟨Nat.le_of_ble_eq_true rfl, Nat.le_of_ble_eq_true rfl⟩ hS dX7_takesApart_12 (by first | rfl | decide | (split <;> rfl)) ⟨?_, P, ?_, ?_⟩
    · rw [hB0]; rfl
    · rw [show sQ3 q f = q from by unfold sQ3; rw [if_neg (by rw [hB0]; decide)]]; exact hS1
    · rw [show sQ3 q f = q from by unfold sQ3; rw [if_neg (by rw [hB0]; decide)]]; exact hPT

def rm_c_X7_takesApart_o : Room := { frames := 0, cells := 0, slots := 0, locals := 0 }
set_option maxRecDepth 100000 in
set_option maxHeartbeats 400000 in
theorem c_X7_takesApart_o (l : Launch) (g : GG) (H0 : Heap) (sb : Nat) (P : Nat → Option Nat) (D : Nat → Prop) (q : Nat → Int32) (hS1 : StAt g sb (zOf q) P H0) (hPT : PT g D P q H0) (hD : ∀ q9, sb ≤ q9 → q9 < sb + 26 → D q9) (hW : WF q) : Ct l yX7_takesApart cX7_takesApart 2 (some .boolean) rm_c_X7_takesApart_o g [.ref sb, .null] H0 (ftA (fun q9 => sb ≤ q9 ∧ q9 < sb + 26) H0.size) (fun v H1 => v = some (.int (bI false)) ∧ ∃ (P2 : Nat → Option Nat), StAt g sb (zOf (q)) P2 H1 ∧ PT g D P2 q H1) := by
  refine Ct.of (by decide) (fun _ h => Or.inr h) (Nat.le_of_ble_eq_true rfl) ?_
  intro p e s m below meth c ls hB hin hS hH hl
  have hx := hB.x
  have hb := hB.b
  have hl : lv_has ls 2 [(0, .ref sb), (1, .null)] := hl
  refine lv_aload_nN hx hb dX7_takesApart_0 rfl (lv_at hl 1 rfl) ?_
  refine lv_ifnullN (tgt := 11) hx hb dX7_takesApart_1 (by decide) ?_
  refine lv_iconst (v := nI 0) hx hb dX7_takesApart_11 (by decide) ?_
  refine mh_zret hB ⟨Nat.le_of_ble_eq_true rfl, Nat.le_of_ble_eq_true rfl⟩ hS dX7_takesApart_12 (by first | rfl | decide | (split <;> rfl)) ⟨?_, P, ?_, ?_⟩
  · rfl
  · exact hS1
  · exact hPT

def rm_c_X7_raffles : Room := { frames := 4, cells := 0, slots := 0, locals := 94 }
set_option maxRecDepth 100000 in
set_option maxHeartbeats 400000 in
theorem c_X7_raffles (l : Launch) (g : GG) (H0 : Heap) (sb : Nat) (P : Nat → Option Nat) (D : Nat → Prop) (q : Nat → Int32) (f : Nat) (p0 : Nat) (hS1 : StAt g sb (zOf q) P H0) (hPT : PT g D P q H0) (hD : ∀ q9, sb ≤ q9 → q9 < sb + 26 → D q9) (hW : WF q) (hf : f < 3) (hZ : WZ q) (hp0 : p0 < 10000) : Ct l yX7_raffles cX7_raffles 3 (some .boolean) rm_c_X7_raffles g [.ref sb, .ref (sb + (20 + 2 * f)), .int (nI p0)] H0 (ftA (fun q9 => sb ≤ q9 ∧ q9 < sb + 26) H0.size) (fun v H1 => v = some (.int (bI (sB4 q f))) ∧ ∃ (P2 : Nat → Option Nat), StAt g sb (zOf (sQ4 q f p0)) P2 H1 ∧ PT g D P2 (sQ4 q f p0) H1) := by
  refine Ct.of (by decide) (fun _ h => Or.inr h) (Nat.le_of_ble_eq_true rfl) ?_
  intro p e s m below meth c ls hB hin hS hH hl
  have hx := hB.x
  have hb := hB.b
  have hl : lv_has ls 3 [(0, .ref sb), (1, .ref (sb + (20 + 2 * f))), (2, .int (nI p0))] := hl
  have hsz9 := WF.sz (hW.fr hf)
  have hsw9 := WF.sw (hW.fr hf)
  refine lv_aload_n hx hb dX7_raffles_0 rfl (lv_at hl 1 rfl) ?_
  refine lv_ifnull hx hb dX7_raffles_1 ?_
  refine lv_aload_n hx hb dX7_raffles_4 rfl (lv_at hl 1 rfl) ?_
  refine cl_X7_80 (As := []) (rest := []) hB (c_X1_isFinished l g H0 sb (zOf q) P D q f (swF q f) hS1 hPT (by first | assumption | omega) (by rw [zOf_fS hf, (hW.fr hf).s]) (WF.sw (hW.fr hf)) (WF.sz (hW.fr hf))) (hS1.of (k := f) (by omega)) rfl hl.1 (Nat.le_of_ble_eq_true rfl) dX7_raffles_5 ⟨Nat.le_of_ble_eq_true rfl, Nat.le_of_ble_eq_true rfl⟩ ⟨Nat.le_of_ble_eq_true rfl, Nat.le_of_ble_eq_true rfl⟩ hS (by have hz9 := hS.1; rintro q (h | h) <;> first | exact Or.inr (by omega) | exact h.elim | exact Or.inl h | (simp only [ftA] at h ⊢; omega)) (fun v H1 locs hpo hfr hS => ?_)
  obtain ⟨rfl, rfl⟩ := hpo
  refine W.widen (k := 0) (n := 0) (Nat.le_of_ble_eq_true rfl) (Nat.le_of_ble_eq_true rfl) ?_
  refine mb_if_ne (tgt := 13) hB dX7_raffles_8 (by decide) (fun h_8 => ?_) (fun h_8 => ?_)
  · skip
    have h8 := of_decide_eq_true h_8
    have hB1 : sB4 q f = true := by unfold sB4; exact decide_eq_true (by omega)
    refine lv_aload_n hx hb dX7_raffles_13 rfl (lv_at hl 0 rfl) ?_
    refine lv_aload_n hx hb dX7_raffles_14 rfl (lv_at hl 1 rfl) ?_
    refine lv_iload_n hx hb dX7_raffles_15 rfl (lv_at hl 2 rfl) ?_
    refine cl_X7_83 (As := [.ref (sb + (20 + 2 * f)), .int (nI p0)]) (rest := []) hB (c_X8_raffleOff l g H0 sb P D q f p0 hS1 hPT (by first | assumption | omega) (by first | assumption | omega) (by first | assumption | omega) (by first | assumption | omega) (by first | assumption | omega) (h8.1) (by omega)) hS1.o rfl hl.1 (Nat.le_of_ble_eq_true rfl) dX7_raffles_16 ⟨Nat.le_of_ble_eq_true rfl, Nat.le_of_ble_eq_true rfl⟩ ⟨Nat.le_of_ble_eq_true rfl, Nat.le_of_ble_eq_true rfl⟩ hS (by have hz9 := hS.1; rintro q (h | h) <;> first | exact Or.inr (by omega) | exact h.elim | exact Or.inl h | (simp only [ftA] at h ⊢; omega)) (fun v H1 locs hpo hfr hS => ?_)
    obtain ⟨rfl, hS1, hPT⟩ := hpo
    generalize H1 = H at hfr hS hS1 hPT ⊢
    refine W.widen (k := 0) (n := 0) (Nat.le_of_ble_eq_true rfl) (Nat.le_of_ble_eq_true rfl) ?_
    refine lv_pop hx hb dX7_raffles_19 rfl ?_
    refine lv_iconst (v := nI 1) hx hb dX7_raffles_20 (by decide) ?_
    refine mh_zret hB ⟨Nat.le_of_ble_eq_true rfl, Nat.le_of_ble_eq_true rfl⟩ hS dX7_raffles_21 (by first | rfl | decide | (split <;> rfl)) ⟨?_, va_up P f none, ?_, ?_⟩
    · rw [hB1]; rfl
    · unfold sQ4; rw [if_pos hB1]; exact hS1
    · unfold sQ4; rw [if_pos hB1]; exact hPT
  · skip
    have h8 := of_decide_eq_false h_8
    have hB0 : sB4 q f = false := by unfold sB4; exact decide_eq_false (by omega)
    refine lv_iconst (v := nI 0) hx hb dX7_raffles_11 (by decide) ?_
    refine mh_zret hB ⟨Nat.le_of_ble_eq_true rfl, Nat.le_of_ble_eq_true rfl⟩ hS dX7_raffles_12 (by first | rfl | decide | (split <;> rfl)) ⟨?_, P, ?_, ?_⟩
    · rw [hB0]; rfl
    · rw [show sQ4 q f p0 = q from by unfold sQ4; rw [if_neg (by rw [hB0]; decide)]]; exact hS1
    · rw [show sQ4 q f p0 = q from by unfold sQ4; rw [if_neg (by rw [hB0]; decide)]]; exact hPT

def rm_c_X7_raffles_o : Room := { frames := 0, cells := 0, slots := 0, locals := 0 }
set_option maxRecDepth 100000 in
set_option maxHeartbeats 400000 in
theorem c_X7_raffles_o (l : Launch) (g : GG) (H0 : Heap) (sb : Nat) (P : Nat → Option Nat) (D : Nat → Prop) (q : Nat → Int32) (x : Int32) (hS1 : StAt g sb (zOf q) P H0) (hPT : PT g D P q H0) (hD : ∀ q9, sb ≤ q9 → q9 < sb + 26 → D q9) (hW : WF q) : Ct l yX7_raffles cX7_raffles 3 (some .boolean) rm_c_X7_raffles_o g [.ref sb, .null, .int x] H0 (ftA (fun q9 => sb ≤ q9 ∧ q9 < sb + 26) H0.size) (fun v H1 => v = some (.int (bI false)) ∧ ∃ (P2 : Nat → Option Nat), StAt g sb (zOf (q)) P2 H1 ∧ PT g D P2 q H1) := by
  refine Ct.of (by decide) (fun _ h => Or.inr h) (Nat.le_of_ble_eq_true rfl) ?_
  intro p e s m below meth c ls hB hin hS hH hl
  have hx := hB.x
  have hb := hB.b
  have hl : lv_has ls 3 [(0, .ref sb), (1, .null), (2, .int x)] := hl
  refine lv_aload_nN hx hb dX7_raffles_0 rfl (lv_at hl 1 rfl) ?_
  refine lv_ifnullN (tgt := 11) hx hb dX7_raffles_1 (by decide) ?_
  refine lv_iconst (v := nI 0) hx hb dX7_raffles_11 (by decide) ?_
  refine mh_zret hB ⟨Nat.le_of_ble_eq_true rfl, Nat.le_of_ble_eq_true rfl⟩ hS dX7_raffles_12 (by first | rfl | decide | (split <;> rfl)) ⟨?_, P, ?_, ?_⟩
  · rfl
  · exact hS1
  · exact hPT

def rm_c_X7_returnsCloth : Room := { frames := 3, cells := 0, slots := 0, locals := 70 }
set_option maxRecDepth 100000 in
set_option maxHeartbeats 400000 in
theorem c_X7_returnsCloth (l : Launch) (g : GG) (H0 : Heap) (sb : Nat) (P : Nat → Option Nat) (D : Nat → Prop) (q : Nat → Int32) (hS1 : StAt g sb (zOf q) P H0) (hPT : PT g D P q H0) (hD : ∀ q9, sb ≤ q9 → q9 < sb + 26 → D q9) (hW : WF q) (hZ : WZ q) : Ct l yX7_returnsCloth cX7_returnsCloth 1 (some .boolean) rm_c_X7_returnsCloth g [.ref sb] H0 (ftA (fun q9 => sb ≤ q9 ∧ q9 < sb + 26) H0.size) (fun v H1 => v = some (.int (bI true)) ∧ ∃ (P2 : Nat → Option Nat), StAt g sb (zOf (retO q 6)) P2 H1 ∧ PT g D P2 (retO q 6) H1) := by
  refine Ct.of (by decide) (fun _ h => Or.inr h) (Nat.le_of_ble_eq_true rfl) ?_
  intro p e s m below meth c ls hB hin hS hH hl
  have hx := hB.x
  have hb := hB.b
  have hl : lv_has ls 1 [(0, .ref sb)] := hl
  refine lv_aload_n hx hb dX7_returnsCloth_0 rfl (lv_at hl 0 rfl) ?_
  refine cl_X7_86 (As := []) (rest := []) hB (c_X8_giveBackStock l g H0 sb P D q hS1 hPT (by first | assumption | omega) (by first | assumption | omega) (by first | assumption | omega)) hS1.o rfl hl.1 (Nat.le_of_ble_eq_true rfl) dX7_returnsCloth_1 ⟨Nat.le_of_ble_eq_true rfl, Nat.le_of_ble_eq_true rfl⟩ ⟨Nat.le_of_ble_eq_true rfl, Nat.le_of_ble_eq_true rfl⟩ hS (by have hz9 := hS.1; rintro q (h | h) <;> first | exact Or.inr (by omega) | exact h.elim | exact Or.inl h | (simp only [ftA] at h ⊢; omega)) (fun v H1 locs hpo hfr hS => ?_)
  obtain ⟨rfl, hS1, hPT⟩ := hpo
  generalize H1 = H at hfr hS hS1 hPT ⊢
  refine W.widen (k := 0) (n := 0) (Nat.le_of_ble_eq_true rfl) (Nat.le_of_ble_eq_true rfl) ?_
  refine lv_pop hx hb dX7_returnsCloth_4 rfl ?_
  refine lv_iconst (v := nI 1) hx hb dX7_returnsCloth_5 (by decide) ?_
  refine mh_zret hB ⟨Nat.le_of_ble_eq_true rfl, Nat.le_of_ble_eq_true rfl⟩ hS dX7_returnsCloth_6 (by first | rfl | decide | (split <;> rfl)) ⟨?_, P, ?_, ?_⟩
  · rfl
  · exact hS1
  · exact hPT

def rm_c_X7_recolours : Room := { frames := 4, cells := 2, slots := 259, locals := 91 }
set_option maxRecDepth 100000 in
set_option maxHeartbeats 400000 in
theorem c_X7_recolours (l : Launch) (g : GG) (H0 : Heap) (sb : Nat) (P : Nat → Option Nat) (D : Nat → Prop) (q : Nat → Int32) (f : Nat) (a0 : Nat) (b0 : Nat) (n0 : Nat) (hS1 : StAt g sb (zOf q) P H0) (hPT : PT g D P q H0) (hD : ∀ q9, sb ≤ q9 → q9 < sb + 26 → D q9) (hW : WF q) (hf : f < 3) (ha9 : a0 < 10) (hb9 : b0 < 10) (hsz : H0.size = n0) (hDs : ∀ q9, D q9 → q9 < n0) : Ct l yX7_recolours cX7_recolours 4 (some .boolean) rm_c_X7_recolours g [.ref sb, .ref (sb + (20 + 2 * f)), .int (nI a0), .int (nI b0)] H0 (ftA (fun q9 => sb ≤ q9 ∧ q9 < sb + 26) H0.size) (fun v H1 => v = some (.int (bI (sB6 q f a0 b0))) ∧ ∃ (P2 : Nat → Option Nat), StAt g sb (zOf (sQ6 q f a0 b0)) P2 H1 ∧ PT g D P2 (sQ6 q f a0 b0) H1) := by
  refine Ct.of (by decide) (fun _ h => Or.inr h) (Nat.le_of_ble_eq_true rfl) ?_
  intro p e s m below meth c ls hB hin hS hH hl
  have hx := hB.x
  have hb := hB.b
  have hl : lv_has ls 4 [(0, .ref sb), (1, .ref (sb + (20 + 2 * f))), (2, .int (nI a0)), (3, .int (nI b0))] := hl
  have hsz9 := WF.sz (hW.fr hf)
  have hsw9 := WF.sw (hW.fr hf)
  refine lv_aload_n hx hb dX7_recolours_0 rfl (lv_at hl 1 rfl) ?_
  refine lv_ifnull hx hb dX7_recolours_1 ?_
  rcases Nat.lt_or_ge a0 6 with ha0 | ha0
  · skip
    refine lv_aload_n hx hb dX7_recolours_4 rfl (lv_at hl 0 rfl) ?_
    refine lv_iload_n hx hb dX7_recolours_5 rfl (lv_at hl 2 rfl) ?_
    refine cl_X7_46 (As := [.int (nI a0)]) (rest := []) hB (c_X8_clothAt l g H0 sb (zOf q) P a0 hS1 (by omega)) hS1.o rfl hl.1 (Nat.le_of_ble_eq_true rfl) dX7_recolours_6 ⟨Nat.le_of_ble_eq_true rfl, Nat.le_of_ble_eq_true rfl⟩ ⟨Nat.le_of_ble_eq_true rfl, Nat.le_of_ble_eq_true rfl⟩ hS (by have hz9 := hS.1; rintro q (h | h) <;> first | exact Or.inr (by omega) | exact h.elim | exact Or.inl h | (simp only [ftA] at h ⊢; omega)) (fun v H1 locs hpo hfr hS => ?_)
    obtain ⟨rfl, rfl⟩ := hpo
    refine W.widen (k := 0) (n := 0) (Nat.le_of_ble_eq_true rfl) (Nat.le_of_ble_eq_true rfl) ?_
    refine lv_ifnull hx hb dX7_recolours_9 ?_
    rcases Nat.lt_or_ge b0 6 with hb0 | hb0
    · skip
      refine lv_aload_n hx hb dX7_recolours_12 rfl (lv_at hl 0 rfl) ?_
      refine lv_iload_n hx hb dX7_recolours_13 rfl (lv_at hl 3 rfl) ?_
      refine cl_X7_46 (As := [.int (nI b0)]) (rest := []) hB (c_X8_clothAt l g H0 sb (zOf q) P b0 hS1 (by omega)) hS1.o rfl hl.1 (Nat.le_of_ble_eq_true rfl) dX7_recolours_14 ⟨Nat.le_of_ble_eq_true rfl, Nat.le_of_ble_eq_true rfl⟩ ⟨Nat.le_of_ble_eq_true rfl, Nat.le_of_ble_eq_true rfl⟩ hS (by have hz9 := hS.1; rintro q (h | h) <;> first | exact Or.inr (by omega) | exact h.elim | exact Or.inl h | (simp only [ftA] at h ⊢; omega)) (fun v H1 locs hpo hfr hS => ?_)
      obtain ⟨rfl, rfl⟩ := hpo
      refine W.widen (k := 0) (n := 0) (Nat.le_of_ble_eq_true rfl) (Nat.le_of_ble_eq_true rfl) ?_
      refine lv_ifnull hx hb dX7_recolours_17 ?_
      refine lv_aload_n hx hb dX7_recolours_20 rfl (lv_at hl 1 rfl) ?_
      refine cl_X7_90 (As := []) (rest := []) hB (c_X1_canBeRecoloured l g H0 sb (zOf q) P D q f (swF q f) hS1 hPT (by first | assumption | omega) (by rw [zOf_fS hf, (hW.fr hf).s]) (WF.sw (hW.fr hf)) (WF.sz (hW.fr hf))) (hS1.of (k := f) (by omega)) rfl hl.1 (Nat.le_of_ble_eq_true rfl) dX7_recolours_21 ⟨Nat.le_of_ble_eq_true rfl, Nat.le_of_ble_eq_true rfl⟩ ⟨Nat.le_of_ble_eq_true rfl, Nat.le_of_ble_eq_true rfl⟩ hS (by have hz9 := hS.1; rintro q (h | h) <;> first | exact Or.inr (by omega) | exact h.elim | exact Or.inl h | (simp only [ftA] at h ⊢; omega)) (fun v H1 locs hpo hfr hS => ?_)
      obtain ⟨rfl, rfl⟩ := hpo
      refine W.widen (k := 0) (n := 0) (Nat.le_of_ble_eq_true rfl) (Nat.le_of_ble_eq_true rfl) ?_
      refine mb_if_ne (tgt := 29) hB dX7_recolours_24 (by decide) (fun h_24 => ?_) (fun h_24 => ?_)
      · skip
        have h24 := of_decide_eq_true h_24
        have hB1 : sB6 q f a0 b0 = true := by unfold sB6; exact decide_eq_true (by omega)
        by_cases hab : a0 = b0
        · skip
          subst hab
          refine lv_aload_n hx hb dX7_recolours_29 rfl (lv_at hl 1 rfl) ?_
          refine lv_iload_n hx hb dX7_recolours_30 rfl (lv_at hl 2 rfl) ?_
          refine lv_iload_n hx hb dX7_recolours_31 rfl (lv_at hl 3 rfl) ?_
          refine cl_X7_93 (As := [.int (nI a0), .int (nI a0)]) (rest := []) hB (c_X1_exchangeColours_e l g H0 sb (zOf q) P D q f a0 hS1 hPT (by first | assumption | omega) (h24.1) (ha0)) (hS1.of (k := f) (by omega)) rfl hl.1 (Nat.le_of_ble_eq_true rfl) dX7_recolours_32 ⟨Nat.le_of_ble_eq_true rfl, Nat.le_of_ble_eq_true rfl⟩ ⟨Nat.le_of_ble_eq_true rfl, Nat.le_of_ble_eq_true rfl⟩ hS (by have hz9 := hS.1; rintro q (h | h) <;> first | exact Or.inr (by omega) | exact h.elim | exact Or.inl h | (simp only [ftA] at h ⊢; omega)) (fun v H1 locs hpo hfr hS => ?_)
          obtain ⟨rfl, rfl⟩ := hpo
          refine W.widen (k := 0) (n := 0) (Nat.le_of_ble_eq_true rfl) (Nat.le_of_ble_eq_true rfl) ?_
          refine lv_pop hx hb dX7_recolours_35 rfl ?_
          refine lv_iconst (v := nI 1) hx hb dX7_recolours_36 (by decide) ?_
          refine mh_zret hB ⟨Nat.le_of_ble_eq_true rfl, Nat.le_of_ble_eq_true rfl⟩ hS dX7_recolours_37 (by first | rfl | decide | (split <;> rfl)) ⟨?_, P, ?_, ?_⟩
          · rw [hB1]; rfl
          · unfold sQ6 recQ; rw [if_pos hB1, if_pos rfl]; exact hS1
          · unfold sQ6 recQ; rw [if_pos hB1, if_pos rfl]; exact hPT
        · skip
          refine lv_aload_n hx hb dX7_recolours_29 rfl (lv_at hl 1 rfl) ?_
          refine lv_iload_n hx hb dX7_recolours_30 rfl (lv_at hl 2 rfl) ?_
          refine lv_iload_n hx hb dX7_recolours_31 rfl (lv_at hl 3 rfl) ?_
          refine cl_X7_93 (As := [.int (nI a0), .int (nI b0)]) (rest := []) hB (c_X1_exchangeColours l g H0 sb (zOf q) P D q f a0 b0 n0 hS1 hPT (by first | assumption | omega) (by first | assumption | omega) (hW.fr hf) (h24.1) (ha0) (hb0) (hab) (by assumption) (hDs)) (hS1.of (k := f) (by omega)) rfl hl.1 (Nat.le_of_ble_eq_true rfl) dX7_recolours_32 ⟨Nat.le_of_ble_eq_true rfl, Nat.le_of_ble_eq_true rfl⟩ ⟨Nat.le_of_ble_eq_true rfl, Nat.le_of_ble_eq_true rfl⟩ hS (by have hz9 := hS.1; rintro q (h | h) <;> first | exact Or.inr (by omega) | exact h.elim | exact Or.inl h | (simp only [ftA] at h ⊢; omega)) (fun v H1 locs hpo hfr hS => ?_)
          obtain ⟨rfl, hS1, hPT, hsz⟩ := hpo
          generalize H1 = H at hfr hS hS1 hPT hsz ⊢
          refine W.widen (k := 2) (n := 259) (Nat.le_of_ble_eq_true rfl) (Nat.le_of_ble_eq_true rfl) ?_
          refine lv_pop hx hb dX7_recolours_35 rfl ?_
          refine lv_iconst (v := nI 1) hx hb dX7_recolours_36 (by decide) ?_
          refine mh_zret hB ⟨Nat.le_of_ble_eq_true rfl, Nat.le_of_ble_eq_true rfl⟩ hS dX7_recolours_37 (by first | rfl | decide | (split <;> rfl)) ⟨?_, va_up P f (some (n0 + 1)), ?_, ?_⟩
          · rw [hB1]; rfl
          · unfold sQ6; rw [if_pos hB1]; exact hS1.congr (rec_z hf hW h24.2) (fun _ _ => rfl)
          · unfold sQ6; rw [if_pos hB1]; exact hPT
      · skip
        have h24 := of_decide_eq_false h_24
        have hB0 : sB6 q f a0 b0 = false := by unfold sB6; exact decide_eq_false (by omega)
        refine lv_iconst (v := nI 0) hx hb dX7_recolours_27 (by decide) ?_
        refine mh_zret hB ⟨Nat.le_of_ble_eq_true rfl, Nat.le_of_ble_eq_true rfl⟩ hS dX7_recolours_28 (by first | rfl | decide | (split <;> rfl)) ⟨?_, P, ?_, ?_⟩
        · rw [hB0]; rfl
        · rw [show sQ6 q f a0 b0 = q from by unfold sQ6; rw [if_neg (by rw [hB0]; decide)]]; exact hS1
        · rw [show sQ6 q f a0 b0 = q from by unfold sQ6; rw [if_neg (by rw [hB0]; decide)]]; exact hPT
    · skip
      refine lv_aload_n hx hb dX7_recolours_12 rfl (lv_at hl 0 rfl) ?_
      refine lv_iload_n hx hb dX7_recolours_13 rfl (lv_at hl 3 rfl) ?_
      refine cl_X7_46 (As := [.int (nI b0)]) (rest := []) hB (c_X8_clothAt_o l g H0 sb (zOf q) P (nI b0) hS1 (by rw [isIx_nI (by omega)]; exact decide_eq_false (by omega))) hS1.o rfl hl.1 (Nat.le_of_ble_eq_true rfl) dX7_recolours_14 ⟨Nat.le_of_ble_eq_true rfl, Nat.le_of_ble_eq_true rfl⟩ ⟨Nat.le_of_ble_eq_true rfl, Nat.le_of_ble_eq_true rfl⟩ hS (by have hz9 := hS.1; rintro q (h | h) <;> first | exact Or.inr (by omega) | exact h.elim | exact Or.inl h | (simp only [ftA] at h ⊢; omega)) (fun v H1 locs hpo hfr hS => ?_)
      obtain ⟨rfl, rfl⟩ := hpo
      refine W.widen (k := 0) (n := 0) (Nat.le_of_ble_eq_true rfl) (Nat.le_of_ble_eq_true rfl) ?_
      refine lv_ifnullN (tgt := 27) hx hb dX7_recolours_17 (by decide) ?_
      have hB0 : sB6 q f a0 b0 = false := by unfold sB6; exact decide_eq_false (by omega)
      refine lv_iconst (v := nI 0) hx hb dX7_recolours_27 (by decide) ?_
      refine mh_zret hB ⟨Nat.le_of_ble_eq_true rfl, Nat.le_of_ble_eq_true rfl⟩ hS dX7_recolours_28 (by first | rfl | decide | (split <;> rfl)) ⟨?_, P, ?_, ?_⟩
      · rw [hB0]; rfl
      · rw [show sQ6 q f a0 b0 = q from by unfold sQ6; rw [if_neg (by rw [hB0]; decide)]]; exact hS1
      · rw [show sQ6 q f a0 b0 = q from by unfold sQ6; rw [if_neg (by rw [hB0]; decide)]]; exact hPT
  · skip
    refine lv_aload_n hx hb dX7_recolours_4 rfl (lv_at hl 0 rfl) ?_
    refine lv_iload_n hx hb dX7_recolours_5 rfl (lv_at hl 2 rfl) ?_
    refine cl_X7_46 (As := [.int (nI a0)]) (rest := []) hB (c_X8_clothAt_o l g H0 sb (zOf q) P (nI a0) hS1 (by rw [isIx_nI (by omega)]; exact decide_eq_false (by omega))) hS1.o rfl hl.1 (Nat.le_of_ble_eq_true rfl) dX7_recolours_6 ⟨Nat.le_of_ble_eq_true rfl, Nat.le_of_ble_eq_true rfl⟩ ⟨Nat.le_of_ble_eq_true rfl, Nat.le_of_ble_eq_true rfl⟩ hS (by have hz9 := hS.1; rintro q (h | h) <;> first | exact Or.inr (by omega) | exact h.elim | exact Or.inl h | (simp only [ftA] at h ⊢; omega)) (fun v H1 locs hpo hfr hS => ?_)
    obtain ⟨rfl, rfl⟩ := hpo
    refine W.widen (k := 0) (n := 0) (Nat.le_of_ble_eq_true rfl) (Nat.le_of_ble_eq_true rfl) ?_
    refine lv_ifnullN (tgt := 27) hx hb dX7_recolours_9 (by decide) ?_
    have hB0 : sB6 q f a0 b0 = false := by unfold sB6; exact decide_eq_false (by omega)
    refine lv_iconst (v := nI 0) hx hb dX7_recolours_27 (by decide) ?_
    refine mh_zret hB ⟨Nat.le_of_ble_eq_true rfl, Nat.le_of_ble_eq_true rfl⟩ hS dX7_recolours_28 (by first | rfl | decide | (split <;> rfl)) ⟨?_, P, ?_, ?_⟩
    · rw [hB0]; rfl
    · rw [show sQ6 q f a0 b0 = q from by unfold sQ6; rw [if_neg (by rw [hB0]; decide)]]; exact hS1
    · rw [show sQ6 q f a0 b0 = q from by unfold sQ6; rw [if_neg (by rw [hB0]; decide)]]; exact hPT

def rm_c_X7_recolours_o : Room := { frames := 0, cells := 0, slots := 0, locals := 0 }
set_option maxRecDepth 100000 in
set_option maxHeartbeats 400000 in
theorem c_X7_recolours_o (l : Launch) (g : GG) (H0 : Heap) (sb : Nat) (P : Nat → Option Nat) (D : Nat → Prop) (q : Nat → Int32) (x : Int32) (y : Int32) (hS1 : StAt g sb (zOf q) P H0) (hPT : PT g D P q H0) (hD : ∀ q9, sb ≤ q9 → q9 < sb + 26 → D q9) (hW : WF q) : Ct l yX7_recolours cX7_recolours 4 (some .boolean) rm_c_X7_recolours_o g [.ref sb, .null, .int x, .int y] H0 (ftA (fun q9 => sb ≤ q9 ∧ q9 < sb + 26) H0.size) (fun v H1 => v = some (.int (bI false)) ∧ ∃ (P2 : Nat → Option Nat), StAt g sb (zOf (q)) P2 H1 ∧ PT g D P2 q H1) := by
  refine Ct.of (by decide) (fun _ h => Or.inr h) (Nat.le_of_ble_eq_true rfl) ?_
  intro p e s m below meth c ls hB hin hS hH hl
  have hx := hB.x
  have hb := hB.b
  have hl : lv_has ls 4 [(0, .ref sb), (1, .null), (2, .int x), (3, .int y)] := hl
  refine lv_aload_nN hx hb dX7_recolours_0 rfl (lv_at hl 1 rfl) ?_
  refine lv_ifnullN (tgt := 27) hx hb dX7_recolours_1 (by decide) ?_
  refine lv_iconst (v := nI 0) hx hb dX7_recolours_27 (by decide) ?_
  refine mh_zret hB ⟨Nat.le_of_ble_eq_true rfl, Nat.le_of_ble_eq_true rfl⟩ hS dX7_recolours_28 (by first | rfl | decide | (split <;> rfl)) ⟨?_, P, ?_, ?_⟩
  · rfl
  · exact hS1
  · exact hPT

def rm_c_X7_hasSewn : Room := { frames := 0, cells := 0, slots := 0, locals := 0 }
set_option maxRecDepth 100000 in
set_option maxHeartbeats 400000 in
theorem c_X7_hasSewn (l : Launch) (g : GG) (H0 : Heap) (sb : Nat) (P : Nat → Option Nat) (q : Nat → Int32) (f : Nat) (n0 : Nat) (hS1 : StAt g sb (zOf q) P H0) (hW : WF q) (hf : f < 3) (hn0 : n0 < 100) : Ct l yX7_hasSewn cX7_hasSewn 2 (some .boolean) rm_c_X7_hasSewn g [.ref (sb + (20 + 2 * f)), .int (nI n0)] H0 (ftA (fun _ => False) H0.size) (fun v H1 => v = some (.int (bI (decide (n0 ≤ swF q f)))) ∧ H0 = H1) := by
  refine Ct.of (by decide) (fun _ h => Or.inr h) (Nat.le_of_ble_eq_true rfl) ?_
  intro p e s m below meth c ls hB hin hS hH hl
  have hx := hB.x
  have hb := hB.b
  have hl : lv_has ls 2 [(0, .ref (sb + (20 + 2 * f))), (1, .int (nI n0))] := hl
  have hsz9 := WF.sz (hW.fr hf)
  have hsw9 := WF.sw (hW.fr hf)
  refine lv_aload_n hx hb dX7_hasSewn_0 rfl (lv_at hl 0 rfl) ?_
  refine lv_ifnull hx hb dX7_hasSewn_1 ?_
  refine lv_aload_n hx hb dX7_hasSewn_4 rfl (lv_at hl 0 rfl) ?_
  refine gf_X7_97 hB (hS1.of (k := f) (by omega)) rfl dX7_hasSewn_5 ?_
  refine mh_top (y := .int (nI (swF q f))) (by rw [zOf_fS hf, (hW.fr hf).s]) ?_
  refine lv_iload_n hx hb dX7_hasSewn_8 rfl (lv_at hl 1 rfl) ?_
  refine mn_icmp_lt (tgt := 16) hB dX7_hasSewn_9 (by decide) (by omega) (by omega) (fun h_9 => ?_) (fun h_9 => ?_)
  · skip
    refine lv_iconst (v := nI 0) hx hb dX7_hasSewn_16 (by decide) ?_
    refine mh_zret hB ⟨Nat.le_of_ble_eq_true rfl, Nat.le_of_ble_eq_true rfl⟩ hS dX7_hasSewn_17 (by first | rfl | decide | (split <;> rfl)) ⟨?_, rfl⟩
    · first | (rw [show decide (n0 ≤ swF q f) = true from decide_eq_true (by omega)]; rfl) | (rw [show decide (n0 ≤ swF q f) = false from decide_eq_false (by omega)]; rfl)
  · skip
    refine lv_iconst (v := nI 1) hx hb dX7_hasSewn_12 (by decide) ?_
    refine lv_goto (tgt := 17) hx hb dX7_hasSewn_13 (by decide) ?_
    refine mh_zret hB ⟨Nat.le_of_ble_eq_true rfl, Nat.le_of_ble_eq_true rfl⟩ hS dX7_hasSewn_17 (by first | rfl | decide | (split <;> rfl)) ⟨?_, rfl⟩
    · first | (rw [show decide (n0 ≤ swF q f) = true from decide_eq_true (by omega)]; rfl) | (rw [show decide (n0 ≤ swF q f) = false from decide_eq_false (by omega)]; rfl)

def rm_c_X7_hasSewn_o : Room := { frames := 0, cells := 0, slots := 0, locals := 0 }
set_option maxRecDepth 100000 in
set_option maxHeartbeats 400000 in
theorem c_X7_hasSewn_o (l : Launch) (g : GG) (H0 : Heap) (x : Int32) : Ct l yX7_hasSewn cX7_hasSewn 2 (some .boolean) rm_c_X7_hasSewn_o g [.null, .int x] H0 (ftA (fun _ => False) H0.size) (fun v H1 => v = some (.int (bI false)) ∧ H0 = H1) := by
  refine Ct.of (by decide) (fun _ h => Or.inr h) (Nat.le_of_ble_eq_true rfl) ?_
  intro p e s m below meth c ls hB hin hS hH hl
  have hx := hB.x
  have hb := hB.b
  have hl : lv_has ls 2 [(0, .null), (1, .int x)] := hl
  refine lv_aload_nN hx hb dX7_hasSewn_0 rfl (lv_at hl 0 rfl) ?_
  refine lv_ifnullN (tgt := 16) hx hb dX7_hasSewn_1 (by decide) ?_
  refine lv_iconst (v := nI 0) hx hb dX7_hasSewn_16 (by decide) ?_
  refine mh_zret hB ⟨Nat.le_of_ble_eq_true rfl, Nat.le_of_ble_eq_true rfl⟩ hS dX7_hasSewn_17 (by first | rfl | decide | (split <;> rfl)) ⟨?_, rfl⟩
  · rfl

def rm_c_X7_hasCloth : Room := { frames := 0, cells := 0, slots := 0, locals := 0 }
set_option maxRecDepth 100000 in
set_option maxHeartbeats 400000 in
theorem c_X7_hasCloth (l : Launch) (g : GG) (H0 : Heap) (sb : Nat) (P : Nat → Option Nat) (q : Nat → Int32) (c0 : Nat) (n0 : Nat) (hS1 : StAt g sb (zOf q) P H0) (hc : c0 < 6) : Ct l yX7_hasCloth cX7_hasCloth 2 (some .boolean) rm_c_X7_hasCloth g [.ref (sb + (14 + c0)), .int (nI n0)] H0 (ftA (fun _ => False) H0.size) (fun v H1 => v = some (.int (bI (decide (¬ q (50 + c0) < nI n0)))) ∧ H0 = H1) := by
  refine Ct.of (by decide) (fun _ h => Or.inr h) (Nat.le_of_ble_eq_true rfl) ?_
  intro p e s m below meth c ls hB hin hS hH hl
  have hx := hB.x
  have hb := hB.b
  have hl : lv_has ls 2 [(0, .ref (sb + (14 + c0))), (1, .int (nI n0))] := hl
  refine lv_aload_n hx hb dX7_hasCloth_0 rfl (lv_at hl 0 rfl) ?_
  refine lv_ifnull hx hb dX7_hasCloth_1 ?_
  refine lv_aload_n hx hb dX7_hasCloth_4 rfl (lv_at hl 0 rfl) ?_
  refine gf_X7_101 hB (hS1.oc (k := c0) (by omega)) rfl dX7_hasCloth_5 ?_
  refine mh_top (y := .int (q (50 + c0))) (by rw [zOf_lo (by omega)]) ?_
  refine lv_iload_n hx hb dX7_hasCloth_8 rfl (lv_at hl 1 rfl) ?_
  refine lv_icmp_lt (tgt := 16) hx hb dX7_hasCloth_9 (by decide) (fun h_9 => ?_) (fun h_9 => ?_)
  · skip
    refine lv_iconst (v := nI 0) hx hb dX7_hasCloth_16 (by decide) ?_
    refine mh_zret hB ⟨Nat.le_of_ble_eq_true rfl, Nat.le_of_ble_eq_true rfl⟩ hS dX7_hasCloth_17 (by first | rfl | decide | (split <;> rfl)) ⟨?_, rfl⟩
    · first | (rw [decide_eq_true (by assumption)]; rfl) | (rw [decide_eq_false (fun y => y (by assumption))]; rfl)
  · skip
    refine lv_iconst (v := nI 1) hx hb dX7_hasCloth_12 (by decide) ?_
    refine lv_goto (tgt := 17) hx hb dX7_hasCloth_13 (by decide) ?_
    refine mh_zret hB ⟨Nat.le_of_ble_eq_true rfl, Nat.le_of_ble_eq_true rfl⟩ hS dX7_hasCloth_17 (by first | rfl | decide | (split <;> rfl)) ⟨?_, rfl⟩
    · first | (rw [decide_eq_true (by assumption)]; rfl) | (rw [decide_eq_false (fun y => y (by assumption))]; rfl)

def rm_c_X7_hasCloth_o : Room := { frames := 0, cells := 0, slots := 0, locals := 0 }
set_option maxRecDepth 100000 in
set_option maxHeartbeats 400000 in
theorem c_X7_hasCloth_o (l : Launch) (g : GG) (H0 : Heap) (x : Int32) : Ct l yX7_hasCloth cX7_hasCloth 2 (some .boolean) rm_c_X7_hasCloth_o g [.null, .int x] H0 (ftA (fun _ => False) H0.size) (fun v H1 => v = some (.int (bI false)) ∧ H0 = H1) := by
  refine Ct.of (by decide) (fun _ h => Or.inr h) (Nat.le_of_ble_eq_true rfl) ?_
  intro p e s m below meth c ls hB hin hS hH hl
  have hx := hB.x
  have hb := hB.b
  have hl : lv_has ls 2 [(0, .null), (1, .int x)] := hl
  refine lv_aload_nN hx hb dX7_hasCloth_0 rfl (lv_at hl 0 rfl) ?_
  refine lv_ifnullN (tgt := 16) hx hb dX7_hasCloth_1 (by decide) ?_
  refine lv_iconst (v := nI 0) hx hb dX7_hasCloth_16 (by decide) ?_
  refine mh_zret hB ⟨Nat.le_of_ble_eq_true rfl, Nat.le_of_ble_eq_true rfl⟩ hS dX7_hasCloth_17 (by first | rfl | decide | (split <;> rfl)) ⟨?_, rfl⟩
  · rfl

def rm_c_X7_hasPence : Room := { frames := 0, cells := 0, slots := 0, locals := 0 }
set_option maxRecDepth 100000 in
set_option maxHeartbeats 400000 in
theorem c_X7_hasPence (l : Launch) (g : GG) (H0 : Heap) (sb : Nat) (P : Nat → Option Nat) (q : Nat → Int32) (k : Nat) (n0 : Nat) (hS1 : StAt g sb (zOf q) P H0) (hk : k < 5) : Ct l yX7_hasPence cX7_hasPence 2 (some .boolean) rm_c_X7_hasPence g [.ref (sb + (4 + 2 * k)), .int (nI n0)] H0 (ftA (fun _ => False) H0.size) (fun v H1 => v = some (.int (bI (decide (¬ q (10 + k) < nI n0)))) ∧ H0 = H1) := by
  refine Ct.of (by decide) (fun _ h => Or.inr h) (Nat.le_of_ble_eq_true rfl) ?_
  intro p e s m below meth c ls hB hin hS hH hl
  have hx := hB.x
  have hb := hB.b
  have hl : lv_has ls 2 [(0, .ref (sb + (4 + 2 * k))), (1, .int (nI n0))] := hl
  refine lv_aload_n hx hb dX7_hasPence_0 rfl (lv_at hl 0 rfl) ?_
  refine lv_ifnull hx hb dX7_hasPence_1 ?_
  refine lv_aload_n hx hb dX7_hasPence_4 rfl (lv_at hl 0 rfl) ?_
  refine gf_X7_106 hB (hS1.om (k := k) (by omega)) rfl dX7_hasPence_5 ?_
  refine mh_top (y := .int (q (10 + k))) (by rw [zOf_lo (by omega)]) ?_
  refine lv_iload_n hx hb dX7_hasPence_8 rfl (lv_at hl 1 rfl) ?_
  refine lv_icmp_lt (tgt := 16) hx hb dX7_hasPence_9 (by decide) (fun h_9 => ?_) (fun h_9 => ?_)
  · skip
    refine lv_iconst (v := nI 0) hx hb dX7_hasPence_16 (by decide) ?_
    refine mh_zret hB ⟨Nat.le_of_ble_eq_true rfl, Nat.le_of_ble_eq_true rfl⟩ hS dX7_hasPence_17 (by first | rfl | decide | (split <;> rfl)) ⟨?_, rfl⟩
    · first | (rw [decide_eq_true (by assumption)]; rfl) | (rw [decide_eq_false (fun y => y (by assumption))]; rfl)
  · skip
    refine lv_iconst (v := nI 1) hx hb dX7_hasPence_12 (by decide) ?_
    refine lv_goto (tgt := 17) hx hb dX7_hasPence_13 (by decide) ?_
    refine mh_zret hB ⟨Nat.le_of_ble_eq_true rfl, Nat.le_of_ble_eq_true rfl⟩ hS dX7_hasPence_17 (by first | rfl | decide | (split <;> rfl)) ⟨?_, rfl⟩
    · first | (rw [decide_eq_true (by assumption)]; rfl) | (rw [decide_eq_false (fun y => y (by assumption))]; rfl)

def rm_c_X7_hasPence_o : Room := { frames := 0, cells := 0, slots := 0, locals := 0 }
set_option maxRecDepth 100000 in
set_option maxHeartbeats 400000 in
theorem c_X7_hasPence_o (l : Launch) (g : GG) (H0 : Heap) (x : Int32) : Ct l yX7_hasPence cX7_hasPence 2 (some .boolean) rm_c_X7_hasPence_o g [.null, .int x] H0 (ftA (fun _ => False) H0.size) (fun v H1 => v = some (.int (bI false)) ∧ H0 = H1) := by
  refine Ct.of (by decide) (fun _ h => Or.inr h) (Nat.le_of_ble_eq_true rfl) ?_
  intro p e s m below meth c ls hB hin hS hH hl
  have hx := hB.x
  have hb := hB.b
  have hl : lv_has ls 2 [(0, .null), (1, .int x)] := hl
  refine lv_aload_nN hx hb dX7_hasPence_0 rfl (lv_at hl 0 rfl) ?_
  refine lv_ifnullN (tgt := 16) hx hb dX7_hasPence_1 (by decide) ?_
  refine lv_iconst (v := nI 0) hx hb dX7_hasPence_16 (by decide) ?_
  refine mh_zret hB ⟨Nat.le_of_ble_eq_true rfl, Nat.le_of_ble_eq_true rfl⟩ hS dX7_hasPence_17 (by first | rfl | decide | (split <;> rfl)) ⟨?_, rfl⟩
  · rfl

def rm_c_X7_succeeds : Room := { frames := 5, cells := 2, slots := 259, locals := 116 }
set_option maxRecDepth 100000 in
set_option maxHeartbeats 400000 in
theorem c_X7_succeeds (l : Launch) (g : GG) (H0 : Heap) (sb : Nat) (P : Nat → Option Nat) (D : Nat → Prop) (q : Nat → Int32) (g0 : Nat) (n0 : Nat) (hS1 : StAt g sb (zOf q) P H0) (hPT : PT g D P q H0) (hD : ∀ q9, sb ≤ q9 → q9 < sb + 26 → D q9) (hW : WF q) (hZ : WZ q) (hg9 : g0 < 10000) (hsz : H0.size = n0) (hDs : ∀ q9, D q9 → q9 < n0) : Ct l yX7_succeeds cX7_succeeds 6 (some .boolean) rm_c_X7_succeeds g [.ref sb, .int (nI g0)] H0 (ftA (fun q9 => sb ≤ q9 ∧ q9 < sb + 26) H0.size) (fun v H1 => v = some (.int (bI (cmdB q g0))) ∧ ∃ (P2 : Nat → Option Nat), StAt g sb (zOf (cmdQ q g0)) P2 H1 ∧ PT g D P2 (cmdQ q g0) H1) := by
  refine Ct.of (by decide) (fun _ h => Or.inr h) (Nat.le_of_ble_eq_true rfl) ?_
  intro p e s m below meth c ls hB hin hS hH hl
  have hx := hB.x
  have hb := hB.b
  have hl : lv_has ls 6 [(0, .ref sb), (1, .int (nI g0))] := hl
  have hnm5 := hW.2.2.1
  have hz0 : (zOf q) 0 = nI (nmQ q) := by rw [zOf_lo (by omega), hW.1]
  refine lv_iload_n hx hb dX7_succeeds_0 rfl (lv_at hl 1 rfl) ?_
  refine lv_bipush (v := nI 100) hx hb dX7_succeeds_1 (by decide) ?_
  refine mn_idiv hB dX7_succeeds_3 (by omega) (by omega) (by omega) ?_
  refine lv_bipush (v := nI 10) hx hb dX7_succeeds_4 (by decide) ?_
  refine mn_irem hB dX7_succeeds_6 (by omega) (by omega) (by omega) ?_
  refine lv_istore_n (lv' := [(2, .int (nI ((g0 / 100) % 10))), (0, .ref sb), (1, .int (nI g0))]) hx hb dX7_succeeds_7 rfl hl (by decide) rfl (fun ls hl => ?_)
  refine lv_iload_n hx hb dX7_succeeds_8 rfl (lv_at hl 2 rfl) ?_
  refine lv_bipush (v := nI 10) hx hb dX7_succeeds_9 (by decide) ?_
  refine mn_idiv hB dX7_succeeds_11 (by omega) (by omega) (by omega) ?_
  refine lv_bipush (v := nI 10) hx hb dX7_succeeds_12 (by decide) ?_
  refine mn_irem hB dX7_succeeds_14 (by omega) (by omega) (by omega) ?_
  refine lv_istore_n (lv' := [(3, .int (nI ((g0 / 10) % 10))), (2, .int (nI ((g0 / 100) % 10))), (0, .ref sb), (1, .int (nI g0))]) hx hb dX7_succeeds_15 rfl hl (by decide) rfl (fun ls hl => ?_)
  refine lv_iload_n hx hb dX7_succeeds_16 rfl (lv_at hl 3 rfl) ?_
  refine lv_bipush (v := nI 10) hx hb dX7_succeeds_17 (by decide) ?_
  refine mn_irem hB dX7_succeeds_19 (by omega) (by omega) (by omega) ?_
  refine lv_istore (lv' := [(4, .int (nI (g0 % 10))), (3, .int (nI ((g0 / 10) % 10))), (2, .int (nI ((g0 / 100) % 10))), (0, .ref sb), (1, .int (nI g0))]) hx hb dX7_succeeds_20 hl (by decide) rfl (fun ls hl => ?_)
  refine lv_iload_n hx hb dX7_succeeds_22 rfl (lv_at hl 4 rfl) ?_
  refine lv_bipush (v := nI 100) hx hb dX7_succeeds_23 (by decide) ?_
  refine mn_irem hB dX7_succeeds_25 (by omega) (by omega) (by omega) ?_
  refine lv_istore (lv' := [(5, .int (nI (g0 % 100))), (4, .int (nI (g0 % 10))), (3, .int (nI ((g0 / 10) % 10))), (2, .int (nI ((g0 / 100) % 10))), (0, .ref sb), (1, .int (nI g0))]) hx hb dX7_succeeds_26 hl (by decide) rfl (fun ls hl => ?_)
  refine lv_iload_n hx hb dX7_succeeds_28 rfl (lv_at hl 5 rfl) ?_
  refine lv_sipush (v := nI 1000) hx hb dX7_succeeds_29 (by decide +kernel) ?_
  refine mn_idiv hB dX7_succeeds_32 (by omega) (by omega) (by omega) ?_
  rcases (show g0 / 1000 = 0 ∨ g0 / 1000 = 1 ∨ g0 / 1000 = 2 ∨ g0 / 1000 = 3 ∨ g0 / 1000 = 4 ∨ g0 / 1000 = 5 ∨ g0 / 1000 = 6 ∨ g0 / 1000 = 7 ∨ g0 / 1000 = 8 ∨ g0 / 1000 = 9 by omega) with hg | hg | hg | hg | hg | hg | hg | hg | hg | hg
  · skip
    rw [hg]
    refine lv_tableOut (tgt := 211) hx hb dX7_succeeds_33 (by decide) (by decide) ?_
    refine lv_iconst (v := nI 0) hx hb dX7_succeeds_211 (by decide) ?_
    refine mh_zret hB ⟨Nat.le_of_ble_eq_true rfl, Nat.le_of_ble_eq_true rfl⟩ hS dX7_succeeds_212 (by first | exact nar_bI _ | rfl | decide | (split <;> rfl)) ⟨?_, P, ?_, ?_⟩
    · rw [(cmd_0 hg).1]; rfl
    · rw [(cmd_0 hg).2]; exact hS1
    · rw [(cmd_0 hg).2]; exact hPT
  · skip
    rw [hg]
    refine lv_tableIn (tgt := 84) (off := 51) hx hb dX7_succeeds_33 (by decide) (by decide) (by decide) (by decide) ?_
    rcases Nat.lt_or_ge (g0 / 100 % 10) 3 with hlt | hge
    · skip
      refine lv_aload_n hx hb dX7_succeeds_84 rfl (lv_at hl 4 rfl) ?_
      refine lv_aload_n hx hb dX7_succeeds_85 rfl (lv_at hl 4 rfl) ?_
      refine lv_iload_n hx hb dX7_succeeds_86 rfl (lv_at hl 3 rfl) ?_
      refine cl_X7_7 (As := [.int (nI ((g0 / 100) % 10))]) (rest := [.ref sb]) hB (c_X8_frameAt l g H0 sb (zOf q) P ((g0 / 100) % 10) hS1 (hlt)) hS1.o rfl hl.1 (Nat.le_of_ble_eq_true rfl) dX7_succeeds_87 ⟨Nat.le_of_ble_eq_true rfl, Nat.le_of_ble_eq_true rfl⟩ ⟨Nat.le_of_ble_eq_true rfl, Nat.le_of_ble_eq_true rfl⟩ hS (by have hz9 := hS.1; rintro q (h | h) <;> first | exact Or.inr (by omega) | exact h.elim | exact Or.inl h | (simp only [ftA] at h ⊢; omega)) (fun v H1 locs hpo hfr hS => ?_)
      obtain ⟨rfl, rfl⟩ := hpo
      refine W.widen (k := 0) (n := 0) (Nat.le_of_ble_eq_true rfl) (Nat.le_of_ble_eq_true rfl) ?_
      refine lv_iload hx hb dX7_succeeds_90 (lv_at hl 0 rfl) ?_
      refine cl_X7_13 (As := [.ref sb, .ref (sb + (20 + 2 * ((g0 / 100) % 10))), .int (nI (g0 % 100))]) (rest := []) hB (c_X7_sews l g H0 sb P D q ((g0 / 100) % 10) (g0 % 100) hS1 hPT (by first | assumption | omega) (by first | assumption | omega) (hlt) (by first | assumption | omega)) rfl hl.1 (Nat.le_of_ble_eq_true rfl) dX7_succeeds_92 ⟨Nat.le_of_ble_eq_true rfl, Nat.le_of_ble_eq_true rfl⟩ ⟨Nat.le_of_ble_eq_true rfl, Nat.le_of_ble_eq_true rfl⟩ hS (by have hz9 := hS.1; rintro q (h | h) <;> first | exact Or.inr (by omega) | exact h.elim | exact Or.inl h | (simp only [ftA] at h ⊢; omega)) (fun v H1 locs hpo hfr hS => ?_)
      obtain ⟨rfl, P2_1, hS1, hPT⟩ := hpo
      generalize H1 = H at hfr hS hS1 hPT ⊢
      refine W.widen (k := 0) (n := 0) (Nat.le_of_ble_eq_true rfl) (Nat.le_of_ble_eq_true rfl) ?_
      refine mh_zret hB ⟨Nat.le_of_ble_eq_true rfl, Nat.le_of_ble_eq_true rfl⟩ hS dX7_succeeds_95 (by first | exact nar_bI _ | rfl | decide | (split <;> rfl)) ⟨?_, P2_1, ?_, ?_⟩
      · rw [(cmd_1 hg hlt).1]
      · rw [(cmd_1 hg hlt).2]; exact hS1
      · rw [(cmd_1 hg hlt).2]; exact hPT
    · skip
      refine lv_aload_n hx hb dX7_succeeds_84 rfl (lv_at hl 4 rfl) ?_
      refine lv_aload_n hx hb dX7_succeeds_85 rfl (lv_at hl 4 rfl) ?_
      refine lv_iload_n hx hb dX7_succeeds_86 rfl (lv_at hl 3 rfl) ?_
      refine cl_X7_7 (As := [.int (nI ((g0 / 100) % 10))]) (rest := [.ref sb]) hB (c_X8_frameAt_o l g H0 sb (zOf q) P (nI ((g0 / 100) % 10)) hS1 (by rw [isIx_nI (by omega)]; exact decide_eq_false (by omega))) hS1.o rfl hl.1 (Nat.le_of_ble_eq_true rfl) dX7_succeeds_87 ⟨Nat.le_of_ble_eq_true rfl, Nat.le_of_ble_eq_true rfl⟩ ⟨Nat.le_of_ble_eq_true rfl, Nat.le_of_ble_eq_true rfl⟩ hS (by have hz9 := hS.1; rintro q (h | h) <;> first | exact Or.inr (by omega) | exact h.elim | exact Or.inl h | (simp only [ftA] at h ⊢; omega)) (fun v H1 locs hpo hfr hS => ?_)
      obtain ⟨rfl, rfl⟩ := hpo
      refine W.widen (k := 0) (n := 0) (Nat.le_of_ble_eq_true rfl) (Nat.le_of_ble_eq_true rfl) ?_
      refine lv_iload hx hb dX7_succeeds_90 (lv_at hl 0 rfl) ?_
      refine cl_X7_13 (As := [.ref sb, .null, .int (nI (g0 % 100))]) (rest := []) hB (c_X7_sews_o l g H0 sb P D q (nI (g0 % 100)) hS1 hPT (by first | assumption | omega) (by first | assumption | omega)) rfl hl.1 (Nat.le_of_ble_eq_true rfl) dX7_succeeds_92 ⟨Nat.le_of_ble_eq_true rfl, Nat.le_of_ble_eq_true rfl⟩ ⟨Nat.le_of_ble_eq_true rfl, Nat.le_of_ble_eq_true rfl⟩ hS (by have hz9 := hS.1; rintro q (h | h) <;> first | exact Or.inr (by omega) | exact h.elim | exact Or.inl h | (simp only [ftA] at h ⊢; omega)) (fun v H1 locs hpo hfr hS => ?_)
      obtain ⟨rfl, P2_2, hS1, hPT⟩ := hpo
      generalize H1 = H at hfr hS hS1 hPT ⊢
      refine W.widen (k := 0) (n := 0) (Nat.le_of_ble_eq_true rfl) (Nat.le_of_ble_eq_true rfl) ?_
      refine mh_zret hB ⟨Nat.le_of_ble_eq_true rfl, Nat.le_of_ble_eq_true rfl⟩ hS dX7_succeeds_95 (by first | exact nar_bI _ | rfl | decide | (split <;> rfl)) ⟨?_, P2_2, ?_, ?_⟩
      · rw [(cmd_1o hg (by omega)).1]
      · rw [(cmd_1o hg (by omega)).2]; exact hS1
      · rw [(cmd_1o hg (by omega)).2]; exact hPT
  · skip
    rw [hg]
    refine lv_tableIn (tgt := 96) (off := 63) hx hb dX7_succeeds_33 (by decide) (by decide) (by decide) (by decide) ?_
    rcases Nat.lt_or_ge (g0 / 100 % 10) (nmQ q) with hlt | hge
    · skip
      refine lv_aload_n hx hb dX7_succeeds_96 rfl (lv_at hl 4 rfl) ?_
      refine lv_aload_n hx hb dX7_succeeds_97 rfl (lv_at hl 4 rfl) ?_
      refine lv_iload_n hx hb dX7_succeeds_98 rfl (lv_at hl 3 rfl) ?_
      refine cl_X7_19 (As := [.int (nI ((g0 / 100) % 10))]) (rest := [.ref sb]) hB (c_X8_memberAt l g H0 sb (zOf q) P ((g0 / 100) % 10) (nmQ q) hS1 (hlt) (hz0) (hnm5)) hS1.o rfl hl.1 (Nat.le_of_ble_eq_true rfl) dX7_succeeds_99 ⟨Nat.le_of_ble_eq_true rfl, Nat.le_of_ble_eq_true rfl⟩ ⟨Nat.le_of_ble_eq_true rfl, Nat.le_of_ble_eq_true rfl⟩ hS (by have hz9 := hS.1; rintro q (h | h) <;> first | exact Or.inr (by omega) | exact h.elim | exact Or.inl h | (simp only [ftA] at h ⊢; omega)) (fun v H1 locs hpo hfr hS => ?_)
      obtain ⟨rfl, rfl⟩ := hpo
      refine W.widen (k := 0) (n := 0) (Nat.le_of_ble_eq_true rfl) (Nat.le_of_ble_eq_true rfl) ?_
      refine lv_iload_n hx hb dX7_succeeds_102 rfl (lv_at hl 2 rfl) ?_
      refine lv_iload hx hb dX7_succeeds_103 (lv_at hl 1 rfl) ?_
      refine cl_X7_23 (As := [.ref sb, .ref (sb + (4 + 2 * ((g0 / 100) % 10))), .int (nI ((g0 / 10) % 10)), .int (nI (g0 % 10))]) (rest := []) hB (c_X7_gives l g H0 sb P D q ((g0 / 100) % 10) ((g0 / 10) % 10) (g0 % 10) hS1 hPT (by first | assumption | omega) (by first | assumption | omega) (by omega) (by first | assumption | omega) (by first | assumption | omega)) rfl hl.1 (Nat.le_of_ble_eq_true rfl) dX7_succeeds_105 ⟨Nat.le_of_ble_eq_true rfl, Nat.le_of_ble_eq_true rfl⟩ ⟨Nat.le_of_ble_eq_true rfl, Nat.le_of_ble_eq_true rfl⟩ hS (by have hz9 := hS.1; rintro q (h | h) <;> first | exact Or.inr (by omega) | exact h.elim | exact Or.inl h | (simp only [ftA] at h ⊢; omega)) (fun v H1 locs hpo hfr hS => ?_)
      obtain ⟨rfl, P2_3, hS1, hPT⟩ := hpo
      generalize H1 = H at hfr hS hS1 hPT ⊢
      refine W.widen (k := 0) (n := 0) (Nat.le_of_ble_eq_true rfl) (Nat.le_of_ble_eq_true rfl) ?_
      refine mh_zret hB ⟨Nat.le_of_ble_eq_true rfl, Nat.le_of_ble_eq_true rfl⟩ hS dX7_succeeds_108 (by first | exact nar_bI _ | rfl | decide | (split <;> rfl)) ⟨?_, P2_3, ?_, ?_⟩
      · rw [(cmd_2 hg hlt).1]
      · rw [(cmd_2 hg hlt).2]; exact hS1
      · rw [(cmd_2 hg hlt).2]; exact hPT
    · skip
      refine lv_aload_n hx hb dX7_succeeds_96 rfl (lv_at hl 4 rfl) ?_
      refine lv_aload_n hx hb dX7_succeeds_97 rfl (lv_at hl 4 rfl) ?_
      refine lv_iload_n hx hb dX7_succeeds_98 rfl (lv_at hl 3 rfl) ?_
      refine cl_X7_19 (As := [.int (nI ((g0 / 100) % 10))]) (rest := [.ref sb]) hB (c_X8_memberAt_o l g H0 sb (zOf q) P (nI ((g0 / 100) % 10)) (nmQ q) hS1 (by rw [isIx_nI (by omega)]; exact decide_eq_false (by omega)) (hz0) (hnm5)) hS1.o rfl hl.1 (Nat.le_of_ble_eq_true rfl) dX7_succeeds_99 ⟨Nat.le_of_ble_eq_true rfl, Nat.le_of_ble_eq_true rfl⟩ ⟨Nat.le_of_ble_eq_true rfl, Nat.le_of_ble_eq_true rfl⟩ hS (by have hz9 := hS.1; rintro q (h | h) <;> first | exact Or.inr (by omega) | exact h.elim | exact Or.inl h | (simp only [ftA] at h ⊢; omega)) (fun v H1 locs hpo hfr hS => ?_)
      obtain ⟨rfl, rfl⟩ := hpo
      refine W.widen (k := 0) (n := 0) (Nat.le_of_ble_eq_true rfl) (Nat.le_of_ble_eq_true rfl) ?_
      refine lv_iload_n hx hb dX7_succeeds_102 rfl (lv_at hl 2 rfl) ?_
      refine lv_iload hx hb dX7_succeeds_103 (lv_at hl 1 rfl) ?_
      refine cl_X7_23 (As := [.ref sb, .null, .int (nI ((g0 / 10) % 10)), .int (nI (g0 % 10))]) (rest := []) hB (c_X7_gives_o l g H0 sb P D q (nI ((g0 / 10) % 10)) (nI (g0 % 10)) hS1 hPT (by first | assumption | omega) (by first | assumption | omega)) rfl hl.1 (Nat.le_of_ble_eq_true rfl) dX7_succeeds_105 ⟨Nat.le_of_ble_eq_true rfl, Nat.le_of_ble_eq_true rfl⟩ ⟨Nat.le_of_ble_eq_true rfl, Nat.le_of_ble_eq_true rfl⟩ hS (by have hz9 := hS.1; rintro q (h | h) <;> first | exact Or.inr (by omega) | exact h.elim | exact Or.inl h | (simp only [ftA] at h ⊢; omega)) (fun v H1 locs hpo hfr hS => ?_)
      obtain ⟨rfl, P2_4, hS1, hPT⟩ := hpo
      generalize H1 = H at hfr hS hS1 hPT ⊢
      refine W.widen (k := 0) (n := 0) (Nat.le_of_ble_eq_true rfl) (Nat.le_of_ble_eq_true rfl) ?_
      refine mh_zret hB ⟨Nat.le_of_ble_eq_true rfl, Nat.le_of_ble_eq_true rfl⟩ hS dX7_succeeds_108 (by first | exact nar_bI _ | rfl | decide | (split <;> rfl)) ⟨?_, P2_4, ?_, ?_⟩
      · rw [(cmd_2o hg (by omega)).1]
      · rw [(cmd_2o hg (by omega)).2]; exact hS1
      · rw [(cmd_2o hg (by omega)).2]; exact hPT
  · skip
    rw [hg]
    refine lv_tableIn (tgt := 109) (off := 76) hx hb dX7_succeeds_33 (by decide) (by decide) (by decide) (by decide) ?_
    refine lv_iload hx hb dX7_succeeds_109 (lv_at hl 0 rfl) ?_
    refine mn_if_ne (tgt := 130) hB dX7_succeeds_111 (by decide) (by omega) (fun h_111 => ?_) (fun h_111 => ?_)
    · skip
      refine lv_iconst (v := nI 0) hx hb dX7_succeeds_130 (by decide) ?_
      refine mh_zret hB ⟨Nat.le_of_ble_eq_true rfl, Nat.le_of_ble_eq_true rfl⟩ hS dX7_succeeds_131 (by first | exact nar_bI _ | rfl | decide | (split <;> rfl)) ⟨?_, P, ?_, ?_⟩
      · rw [(cmd_3o hg (by omega)).1]; rfl
      · rw [(cmd_3o hg (by omega)).2]; exact hS1
      · rw [(cmd_3o hg (by omega)).2]; exact hPT
    · skip
      rcases Nat.lt_or_ge (g0 / 100 % 10) 3 with hlt | hge
      · skip
        refine lv_aload_n hx hb dX7_succeeds_114 rfl (lv_at hl 4 rfl) ?_
        refine lv_aload_n hx hb dX7_succeeds_115 rfl (lv_at hl 4 rfl) ?_
        refine lv_iload_n hx hb dX7_succeeds_116 rfl (lv_at hl 3 rfl) ?_
        refine cl_X7_7 (As := [.int (nI ((g0 / 100) % 10))]) (rest := [.ref sb]) hB (c_X8_frameAt l g H0 sb (zOf q) P ((g0 / 100) % 10) hS1 (hlt)) hS1.o rfl hl.1 (Nat.le_of_ble_eq_true rfl) dX7_succeeds_117 ⟨Nat.le_of_ble_eq_true rfl, Nat.le_of_ble_eq_true rfl⟩ ⟨Nat.le_of_ble_eq_true rfl, Nat.le_of_ble_eq_true rfl⟩ hS (by have hz9 := hS.1; rintro q (h | h) <;> first | exact Or.inr (by omega) | exact h.elim | exact Or.inl h | (simp only [ftA] at h ⊢; omega)) (fun v H1 locs hpo hfr hS => ?_)
        obtain ⟨rfl, rfl⟩ := hpo
        refine W.widen (k := 0) (n := 0) (Nat.le_of_ble_eq_true rfl) (Nat.le_of_ble_eq_true rfl) ?_
        refine cl_X7_27 (As := [.ref sb, .ref (sb + (20 + 2 * ((g0 / 100) % 10)))]) (rest := []) hB (c_X7_takesApart l g H0 sb P D q ((g0 / 100) % 10) hS1 hPT (by first | assumption | omega) (by first | assumption | omega) (hlt)) rfl hl.1 (Nat.le_of_ble_eq_true rfl) dX7_succeeds_120 ⟨Nat.le_of_ble_eq_true rfl, Nat.le_of_ble_eq_true rfl⟩ ⟨Nat.le_of_ble_eq_true rfl, Nat.le_of_ble_eq_true rfl⟩ hS (by have hz9 := hS.1; rintro q (h | h) <;> first | exact Or.inr (by omega) | exact h.elim | exact Or.inl h | (simp only [ftA] at h ⊢; omega)) (fun v H1 locs hpo hfr hS => ?_)
        obtain ⟨rfl, P2_5, hS1, hPT⟩ := hpo
        generalize H1 = H at hfr hS hS1 hPT ⊢
        refine W.widen (k := 0) (n := 0) (Nat.le_of_ble_eq_true rfl) (Nat.le_of_ble_eq_true rfl) ?_
        refine mb_if_eq (tgt := 130) hB dX7_succeeds_123 (by decide) (fun h_123 => ?_) (fun h_123 => ?_)
        · skip
          refine lv_iconst (v := nI 0) hx hb dX7_succeeds_130 (by decide) ?_
          refine mh_zret hB ⟨Nat.le_of_ble_eq_true rfl, Nat.le_of_ble_eq_true rfl⟩ hS dX7_succeeds_131 (by first | exact nar_bI _ | rfl | decide | (split <;> rfl)) ⟨?_, P2_5, ?_, ?_⟩
          · rw [(cmd_3 hg hlt h_111).1, h_123]; rfl
          · rw [(cmd_3 hg hlt h_111).2]; exact hS1
          · rw [(cmd_3 hg hlt h_111).2]; exact hPT
        · skip
          refine lv_iconst (v := nI 1) hx hb dX7_succeeds_126 (by decide) ?_
          refine lv_goto (tgt := 131) hx hb dX7_succeeds_127 (by decide) ?_
          refine mh_zret hB ⟨Nat.le_of_ble_eq_true rfl, Nat.le_of_ble_eq_true rfl⟩ hS dX7_succeeds_131 (by first | exact nar_bI _ | rfl | decide | (split <;> rfl)) ⟨?_, P2_5, ?_, ?_⟩
          · rw [(cmd_3 hg hlt h_111).1, h_123]; rfl
          · rw [(cmd_3 hg hlt h_111).2]; exact hS1
          · rw [(cmd_3 hg hlt h_111).2]; exact hPT
      · skip
        refine lv_aload_n hx hb dX7_succeeds_114 rfl (lv_at hl 4 rfl) ?_
        refine lv_aload_n hx hb dX7_succeeds_115 rfl (lv_at hl 4 rfl) ?_
        refine lv_iload_n hx hb dX7_succeeds_116 rfl (lv_at hl 3 rfl) ?_
        refine cl_X7_7 (As := [.int (nI ((g0 / 100) % 10))]) (rest := [.ref sb]) hB (c_X8_frameAt_o l g H0 sb (zOf q) P (nI ((g0 / 100) % 10)) hS1 (by rw [isIx_nI (by omega)]; exact decide_eq_false (by omega))) hS1.o rfl hl.1 (Nat.le_of_ble_eq_true rfl) dX7_succeeds_117 ⟨Nat.le_of_ble_eq_true rfl, Nat.le_of_ble_eq_true rfl⟩ ⟨Nat.le_of_ble_eq_true rfl, Nat.le_of_ble_eq_true rfl⟩ hS (by have hz9 := hS.1; rintro q (h | h) <;> first | exact Or.inr (by omega) | exact h.elim | exact Or.inl h | (simp only [ftA] at h ⊢; omega)) (fun v H1 locs hpo hfr hS => ?_)
        obtain ⟨rfl, rfl⟩ := hpo
        refine W.widen (k := 0) (n := 0) (Nat.le_of_ble_eq_true rfl) (Nat.le_of_ble_eq_true rfl) ?_
        refine cl_X7_27 (As := [.ref sb, .null]) (rest := []) hB (c_X7_takesApart_o l g H0 sb P D q hS1 hPT (by first | assumption | omega) (by first | assumption | omega)) rfl hl.1 (Nat.le_of_ble_eq_true rfl) dX7_succeeds_120 ⟨Nat.le_of_ble_eq_true rfl, Nat.le_of_ble_eq_true rfl⟩ ⟨Nat.le_of_ble_eq_true rfl, Nat.le_of_ble_eq_true rfl⟩ hS (by have hz9 := hS.1; rintro q (h | h) <;> first | exact Or.inr (by omega) | exact h.elim | exact Or.inl h | (simp only [ftA] at h ⊢; omega)) (fun v H1 locs hpo hfr hS => ?_)
        obtain ⟨rfl, P2_6, hS1, hPT⟩ := hpo
        generalize H1 = H at hfr hS hS1 hPT ⊢
        refine W.widen (k := 0) (n := 0) (Nat.le_of_ble_eq_true rfl) (Nat.le_of_ble_eq_true rfl) ?_
        refine mb_if_eq (tgt := 130) hB dX7_succeeds_123 (by decide) (fun h_123 => ?_) (fun h => by cases h)
        refine lv_iconst (v := nI 0) hx hb dX7_succeeds_130 (by decide) ?_
        refine mh_zret hB ⟨Nat.le_of_ble_eq_true rfl, Nat.le_of_ble_eq_true rfl⟩ hS dX7_succeeds_131 (by first | exact nar_bI _ | rfl | decide | (split <;> rfl)) ⟨?_, P2_6, ?_, ?_⟩
        · rw [(cmd_3o hg (by omega)).1]; rfl
        · rw [(cmd_3o hg (by omega)).2]; exact hS1
        · rw [(cmd_3o hg (by omega)).2]; exact hPT
  · skip
    rw [hg]
    refine lv_tableIn (tgt := 132) (off := 99) hx hb dX7_succeeds_33 (by decide) (by decide) (by decide) (by decide) ?_
    rcases Nat.lt_or_ge (g0 / 100 % 10) 3 with hlt | hge
    · skip
      refine lv_aload_n hx hb dX7_succeeds_132 rfl (lv_at hl 4 rfl) ?_
      refine lv_aload_n hx hb dX7_succeeds_133 rfl (lv_at hl 4 rfl) ?_
      refine lv_iload_n hx hb dX7_succeeds_134 rfl (lv_at hl 3 rfl) ?_
      refine cl_X7_7 (As := [.int (nI ((g0 / 100) % 10))]) (rest := [.ref sb]) hB (c_X8_frameAt l g H0 sb (zOf q) P ((g0 / 100) % 10) hS1 (hlt)) hS1.o rfl hl.1 (Nat.le_of_ble_eq_true rfl) dX7_succeeds_135 ⟨Nat.le_of_ble_eq_true rfl, Nat.le_of_ble_eq_true rfl⟩ ⟨Nat.le_of_ble_eq_true rfl, Nat.le_of_ble_eq_true rfl⟩ hS (by have hz9 := hS.1; rintro q (h | h) <;> first | exact Or.inr (by omega) | exact h.elim | exact Or.inl h | (simp only [ftA] at h ⊢; omega)) (fun v H1 locs hpo hfr hS => ?_)
      obtain ⟨rfl, rfl⟩ := hpo
      refine W.widen (k := 0) (n := 0) (Nat.le_of_ble_eq_true rfl) (Nat.le_of_ble_eq_true rfl) ?_
      refine lv_iload hx hb dX7_succeeds_138 (lv_at hl 0 rfl) ?_
      refine cl_X7_31 (As := [.ref sb, .ref (sb + (20 + 2 * ((g0 / 100) % 10))), .int (nI (g0 % 100))]) (rest := []) hB (c_X7_raffles l g H0 sb P D q ((g0 / 100) % 10) (g0 % 100) hS1 hPT (by first | assumption | omega) (by first | assumption | omega) (hlt) (hZ) (by omega)) rfl hl.1 (Nat.le_of_ble_eq_true rfl) dX7_succeeds_140 ⟨Nat.le_of_ble_eq_true rfl, Nat.le_of_ble_eq_true rfl⟩ ⟨Nat.le_of_ble_eq_true rfl, Nat.le_of_ble_eq_true rfl⟩ hS (by have hz9 := hS.1; rintro q (h | h) <;> first | exact Or.inr (by omega) | exact h.elim | exact Or.inl h | (simp only [ftA] at h ⊢; omega)) (fun v H1 locs hpo hfr hS => ?_)
      obtain ⟨rfl, P2_7, hS1, hPT⟩ := hpo
      generalize H1 = H at hfr hS hS1 hPT ⊢
      refine W.widen (k := 0) (n := 0) (Nat.le_of_ble_eq_true rfl) (Nat.le_of_ble_eq_true rfl) ?_
      refine mh_zret hB ⟨Nat.le_of_ble_eq_true rfl, Nat.le_of_ble_eq_true rfl⟩ hS dX7_succeeds_143 (by first | exact nar_bI _ | rfl | decide | (split <;> rfl)) ⟨?_, P2_7, ?_, ?_⟩
      · rw [(cmd_4 hg hlt).1]
      · rw [(cmd_4 hg hlt).2]; exact hS1
      · rw [(cmd_4 hg hlt).2]; exact hPT
    · skip
      refine lv_aload_n hx hb dX7_succeeds_132 rfl (lv_at hl 4 rfl) ?_
      refine lv_aload_n hx hb dX7_succeeds_133 rfl (lv_at hl 4 rfl) ?_
      refine lv_iload_n hx hb dX7_succeeds_134 rfl (lv_at hl 3 rfl) ?_
      refine cl_X7_7 (As := [.int (nI ((g0 / 100) % 10))]) (rest := [.ref sb]) hB (c_X8_frameAt_o l g H0 sb (zOf q) P (nI ((g0 / 100) % 10)) hS1 (by rw [isIx_nI (by omega)]; exact decide_eq_false (by omega))) hS1.o rfl hl.1 (Nat.le_of_ble_eq_true rfl) dX7_succeeds_135 ⟨Nat.le_of_ble_eq_true rfl, Nat.le_of_ble_eq_true rfl⟩ ⟨Nat.le_of_ble_eq_true rfl, Nat.le_of_ble_eq_true rfl⟩ hS (by have hz9 := hS.1; rintro q (h | h) <;> first | exact Or.inr (by omega) | exact h.elim | exact Or.inl h | (simp only [ftA] at h ⊢; omega)) (fun v H1 locs hpo hfr hS => ?_)
      obtain ⟨rfl, rfl⟩ := hpo
      refine W.widen (k := 0) (n := 0) (Nat.le_of_ble_eq_true rfl) (Nat.le_of_ble_eq_true rfl) ?_
      refine lv_iload hx hb dX7_succeeds_138 (lv_at hl 0 rfl) ?_
      refine cl_X7_31 (As := [.ref sb, .null, .int (nI (g0 % 100))]) (rest := []) hB (c_X7_raffles_o l g H0 sb P D q (nI (g0 % 100)) hS1 hPT (by first | assumption | omega) (by first | assumption | omega)) rfl hl.1 (Nat.le_of_ble_eq_true rfl) dX7_succeeds_140 ⟨Nat.le_of_ble_eq_true rfl, Nat.le_of_ble_eq_true rfl⟩ ⟨Nat.le_of_ble_eq_true rfl, Nat.le_of_ble_eq_true rfl⟩ hS (by have hz9 := hS.1; rintro q (h | h) <;> first | exact Or.inr (by omega) | exact h.elim | exact Or.inl h | (simp only [ftA] at h ⊢; omega)) (fun v H1 locs hpo hfr hS => ?_)
      obtain ⟨rfl, P2_8, hS1, hPT⟩ := hpo
      generalize H1 = H at hfr hS hS1 hPT ⊢
      refine W.widen (k := 0) (n := 0) (Nat.le_of_ble_eq_true rfl) (Nat.le_of_ble_eq_true rfl) ?_
      refine mh_zret hB ⟨Nat.le_of_ble_eq_true rfl, Nat.le_of_ble_eq_true rfl⟩ hS dX7_succeeds_143 (by first | exact nar_bI _ | rfl | decide | (split <;> rfl)) ⟨?_, P2_8, ?_, ?_⟩
      · rw [(cmd_4o hg (by omega)).1]
      · rw [(cmd_4o hg (by omega)).2]; exact hS1
      · rw [(cmd_4o hg (by omega)).2]; exact hPT
  · skip
    rw [hg]
    refine lv_tableIn (tgt := 144) (off := 111) hx hb dX7_succeeds_33 (by decide) (by decide) (by decide) (by decide) ?_
    refine lv_iload_n hx hb dX7_succeeds_144 rfl (lv_at hl 5 rfl) ?_
    refine lv_sipush (v := nI 1000) hx hb dX7_succeeds_145 (by decide +kernel) ?_
    refine mn_irem hB dX7_succeeds_148 (by omega) (by omega) (by omega) ?_
    refine mn_if_ne (tgt := 163) hB dX7_succeeds_149 (by decide) (by omega) (fun h_149 => ?_) (fun h_149 => ?_)
    · skip
      refine lv_iconst (v := nI 0) hx hb dX7_succeeds_163 (by decide) ?_
      refine mh_zret hB ⟨Nat.le_of_ble_eq_true rfl, Nat.le_of_ble_eq_true rfl⟩ hS dX7_succeeds_164 (by first | exact nar_bI _ | rfl | decide | (split <;> rfl)) ⟨?_, P, ?_, ?_⟩
      · first | (rw [(cmd_5 hg h_149).1]; rfl) | (rw [(cmd_5o hg (by omega)).1]; rfl)
      · first | (rw [(cmd_5 hg h_149).2]; exact hS1) | (rw [(cmd_5o hg (by omega)).2]; exact hS1)
      · first | (rw [(cmd_5 hg h_149).2]; exact hPT) | (rw [(cmd_5o hg (by omega)).2]; exact hPT)
    · skip
      refine lv_aload_n hx hb dX7_succeeds_152 rfl (lv_at hl 4 rfl) ?_
      refine cl_X7_34 (As := [.ref sb]) (rest := []) hB (c_X7_returnsCloth l g H0 sb P D q hS1 hPT (by first | assumption | omega) (by first | assumption | omega) (hZ)) rfl hl.1 (Nat.le_of_ble_eq_true rfl) dX7_succeeds_153 ⟨Nat.le_of_ble_eq_true rfl, Nat.le_of_ble_eq_true rfl⟩ ⟨Nat.le_of_ble_eq_true rfl, Nat.le_of_ble_eq_true rfl⟩ hS (by have hz9 := hS.1; rintro q (h | h) <;> first | exact Or.inr (by omega) | exact h.elim | exact Or.inl h | (simp only [ftA] at h ⊢; omega)) (fun v H1 locs hpo hfr hS => ?_)
      obtain ⟨rfl, P2_9, hS1, hPT⟩ := hpo
      generalize H1 = H at hfr hS hS1 hPT ⊢
      refine W.widen (k := 0) (n := 0) (Nat.le_of_ble_eq_true rfl) (Nat.le_of_ble_eq_true rfl) ?_
      refine mb_if_eq (tgt := 163) hB dX7_succeeds_156 (by decide) (fun h => by cases h) (fun h_156 => ?_)
      refine lv_iconst (v := nI 1) hx hb dX7_succeeds_159 (by decide) ?_
      refine lv_goto (tgt := 164) hx hb dX7_succeeds_160 (by decide) ?_
      refine mh_zret hB ⟨Nat.le_of_ble_eq_true rfl, Nat.le_of_ble_eq_true rfl⟩ hS dX7_succeeds_164 (by first | exact nar_bI _ | rfl | decide | (split <;> rfl)) ⟨?_, P2_9, ?_, ?_⟩
      · first | (rw [(cmd_5 hg h_149).1]; rfl) | (rw [(cmd_5o hg (by omega)).1]; rfl)
      · first | (rw [(cmd_5 hg h_149).2]; exact hS1) | (rw [(cmd_5o hg (by omega)).2]; exact hS1)
      · first | (rw [(cmd_5 hg h_149).2]; exact hPT) | (rw [(cmd_5o hg (by omega)).2]; exact hPT)
  · skip
    rw [hg]
    refine lv_tableIn (tgt := 165) (off := 132) hx hb dX7_succeeds_33 (by decide) (by decide) (by decide) (by decide) ?_
    rcases Nat.lt_or_ge (g0 / 100 % 10) 3 with hlt | hge
    · skip
      refine lv_aload_n hx hb dX7_succeeds_165 rfl (lv_at hl 4 rfl) ?_
      refine lv_aload_n hx hb dX7_succeeds_166 rfl (lv_at hl 4 rfl) ?_
      refine lv_iload_n hx hb dX7_succeeds_167 rfl (lv_at hl 3 rfl) ?_
      refine cl_X7_7 (As := [.int (nI ((g0 / 100) % 10))]) (rest := [.ref sb]) hB (c_X8_frameAt l g H0 sb (zOf q) P ((g0 / 100) % 10) hS1 (hlt)) hS1.o rfl hl.1 (Nat.le_of_ble_eq_true rfl) dX7_succeeds_168 ⟨Nat.le_of_ble_eq_true rfl, Nat.le_of_ble_eq_true rfl⟩ ⟨Nat.le_of_ble_eq_true rfl, Nat.le_of_ble_eq_true rfl⟩ hS (by have hz9 := hS.1; rintro q (h | h) <;> first | exact Or.inr (by omega) | exact h.elim | exact Or.inl h | (simp only [ftA] at h ⊢; omega)) (fun v H1 locs hpo hfr hS => ?_)
      obtain ⟨rfl, rfl⟩ := hpo
      refine W.widen (k := 0) (n := 0) (Nat.le_of_ble_eq_true rfl) (Nat.le_of_ble_eq_true rfl) ?_
      refine lv_iload_n hx hb dX7_succeeds_171 rfl (lv_at hl 2 rfl) ?_
      refine lv_iload hx hb dX7_succeeds_172 (lv_at hl 1 rfl) ?_
      refine cl_X7_38 (As := [.ref sb, .ref (sb + (20 + 2 * ((g0 / 100) % 10))), .int (nI ((g0 / 10) % 10)), .int (nI (g0 % 10))]) (rest := []) hB (c_X7_recolours l g H0 sb P D q ((g0 / 100) % 10) ((g0 / 10) % 10) (g0 % 10) n0 hS1 hPT (by first | assumption | omega) (by first | assumption | omega) (hlt) (by omega) (by omega) (by assumption) (by first | assumption | omega)) rfl hl.1 (Nat.le_of_ble_eq_true rfl) dX7_succeeds_174 ⟨Nat.le_of_ble_eq_true rfl, Nat.le_of_ble_eq_true rfl⟩ ⟨Nat.le_of_ble_eq_true rfl, Nat.le_of_ble_eq_true rfl⟩ hS (by have hz9 := hS.1; rintro q (h | h) <;> first | exact Or.inr (by omega) | exact h.elim | exact Or.inl h | (simp only [ftA] at h ⊢; omega)) (fun v H1 locs hpo hfr hS => ?_)
      obtain ⟨rfl, P2_10, hS1, hPT⟩ := hpo
      generalize H1 = H at hfr hS hS1 hPT ⊢
      refine W.widen (k := 2) (n := 259) (Nat.le_of_ble_eq_true rfl) (Nat.le_of_ble_eq_true rfl) ?_
      refine mh_zret hB ⟨Nat.le_of_ble_eq_true rfl, Nat.le_of_ble_eq_true rfl⟩ hS dX7_succeeds_177 (by first | exact nar_bI _ | rfl | decide | (split <;> rfl)) ⟨?_, P2_10, ?_, ?_⟩
      · rw [(cmd_6 hg hlt).1]
      · rw [(cmd_6 hg hlt).2]; exact hS1
      · rw [(cmd_6 hg hlt).2]; exact hPT
    · skip
      refine lv_aload_n hx hb dX7_succeeds_165 rfl (lv_at hl 4 rfl) ?_
      refine lv_aload_n hx hb dX7_succeeds_166 rfl (lv_at hl 4 rfl) ?_
      refine lv_iload_n hx hb dX7_succeeds_167 rfl (lv_at hl 3 rfl) ?_
      refine cl_X7_7 (As := [.int (nI ((g0 / 100) % 10))]) (rest := [.ref sb]) hB (c_X8_frameAt_o l g H0 sb (zOf q) P (nI ((g0 / 100) % 10)) hS1 (by rw [isIx_nI (by omega)]; exact decide_eq_false (by omega))) hS1.o rfl hl.1 (Nat.le_of_ble_eq_true rfl) dX7_succeeds_168 ⟨Nat.le_of_ble_eq_true rfl, Nat.le_of_ble_eq_true rfl⟩ ⟨Nat.le_of_ble_eq_true rfl, Nat.le_of_ble_eq_true rfl⟩ hS (by have hz9 := hS.1; rintro q (h | h) <;> first | exact Or.inr (by omega) | exact h.elim | exact Or.inl h | (simp only [ftA] at h ⊢; omega)) (fun v H1 locs hpo hfr hS => ?_)
      obtain ⟨rfl, rfl⟩ := hpo
      refine W.widen (k := 0) (n := 0) (Nat.le_of_ble_eq_true rfl) (Nat.le_of_ble_eq_true rfl) ?_
      refine lv_iload_n hx hb dX7_succeeds_171 rfl (lv_at hl 2 rfl) ?_
      refine lv_iload hx hb dX7_succeeds_172 (lv_at hl 1 rfl) ?_
      refine cl_X7_38 (As := [.ref sb, .null, .int (nI ((g0 / 10) % 10)), .int (nI (g0 % 10))]) (rest := []) hB (c_X7_recolours_o l g H0 sb P D q (nI ((g0 / 10) % 10)) (nI (g0 % 10)) hS1 hPT (by first | assumption | omega) (by first | assumption | omega)) rfl hl.1 (Nat.le_of_ble_eq_true rfl) dX7_succeeds_174 ⟨Nat.le_of_ble_eq_true rfl, Nat.le_of_ble_eq_true rfl⟩ ⟨Nat.le_of_ble_eq_true rfl, Nat.le_of_ble_eq_true rfl⟩ hS (by have hz9 := hS.1; rintro q (h | h) <;> first | exact Or.inr (by omega) | exact h.elim | exact Or.inl h | (simp only [ftA] at h ⊢; omega)) (fun v H1 locs hpo hfr hS => ?_)
      obtain ⟨rfl, P2_11, hS1, hPT⟩ := hpo
      generalize H1 = H at hfr hS hS1 hPT ⊢
      refine W.widen (k := 0) (n := 0) (Nat.le_of_ble_eq_true rfl) (Nat.le_of_ble_eq_true rfl) ?_
      refine mh_zret hB ⟨Nat.le_of_ble_eq_true rfl, Nat.le_of_ble_eq_true rfl⟩ hS dX7_succeeds_177 (by first | exact nar_bI _ | rfl | decide | (split <;> rfl)) ⟨?_, P2_11, ?_, ?_⟩
      · rw [(cmd_6o hg (by omega)).1]
      · rw [(cmd_6o hg (by omega)).2]; exact hS1
      · rw [(cmd_6o hg (by omega)).2]; exact hPT
  · skip
    rw [hg]
    refine lv_tableIn (tgt := 178) (off := 145) hx hb dX7_succeeds_33 (by decide) (by decide) (by decide) (by decide) ?_
    rcases Nat.lt_or_ge (g0 / 100 % 10) 3 with hlt | hge
    · skip
      refine lv_aload_n hx hb dX7_succeeds_178 rfl (lv_at hl 4 rfl) ?_
      refine lv_iload_n hx hb dX7_succeeds_179 rfl (lv_at hl 3 rfl) ?_
      refine cl_X7_7 (As := [.int (nI ((g0 / 100) % 10))]) (rest := []) hB (c_X8_frameAt l g H0 sb (zOf q) P ((g0 / 100) % 10) hS1 (hlt)) hS1.o rfl hl.1 (Nat.le_of_ble_eq_true rfl) dX7_succeeds_180 ⟨Nat.le_of_ble_eq_true rfl, Nat.le_of_ble_eq_true rfl⟩ ⟨Nat.le_of_ble_eq_true rfl, Nat.le_of_ble_eq_true rfl⟩ hS (by have hz9 := hS.1; rintro q (h | h) <;> first | exact Or.inr (by omega) | exact h.elim | exact Or.inl h | (simp only [ftA] at h ⊢; omega)) (fun v H1 locs hpo hfr hS => ?_)
      obtain ⟨rfl, rfl⟩ := hpo
      refine W.widen (k := 0) (n := 0) (Nat.le_of_ble_eq_true rfl) (Nat.le_of_ble_eq_true rfl) ?_
      refine lv_iload hx hb dX7_succeeds_183 (lv_at hl 0 rfl) ?_
      refine cl_X7_42 (As := [.ref (sb + (20 + 2 * ((g0 / 100) % 10))), .int (nI (g0 % 100))]) (rest := []) hB (c_X7_hasSewn l g H0 sb P q ((g0 / 100) % 10) (g0 % 100) hS1 (by first | assumption | omega) (hlt) (by first | assumption | omega)) rfl hl.1 (Nat.le_of_ble_eq_true rfl) dX7_succeeds_185 ⟨Nat.le_of_ble_eq_true rfl, Nat.le_of_ble_eq_true rfl⟩ ⟨Nat.le_of_ble_eq_true rfl, Nat.le_of_ble_eq_true rfl⟩ hS (by have hz9 := hS.1; rintro q (h | h) <;> first | exact Or.inr (by omega) | exact h.elim | exact Or.inl h | (simp only [ftA] at h ⊢; omega)) (fun v H1 locs hpo hfr hS => ?_)
      obtain ⟨rfl, rfl⟩ := hpo
      refine W.widen (k := 0) (n := 0) (Nat.le_of_ble_eq_true rfl) (Nat.le_of_ble_eq_true rfl) ?_
      refine mh_zret hB ⟨Nat.le_of_ble_eq_true rfl, Nat.le_of_ble_eq_true rfl⟩ hS dX7_succeeds_188 (by first | exact nar_bI _ | rfl | decide | (split <;> rfl)) ⟨?_, P, ?_, ?_⟩
      · rw [cmd7 (cmdA_f (g := g0) (by omega)) hg]; rw [show decide (g0 / 100 % 10 < 3 ∧ g0 % 100 ≤ swF q (g0 / 100 % 10)) = decide (g0 % 100 ≤ swF q (g0 / 100 % 10)) from decide_eq_decide.mpr ⟨fun y => y.2, fun y => ⟨hlt, y⟩⟩]
      · rw [cmdQ_f (cmdA_f (g := g0) (by omega))]; exact hS1
      · rw [cmdQ_f (cmdA_f (g := g0) (by omega))]; exact hPT
    · skip
      refine lv_aload_n hx hb dX7_succeeds_178 rfl (lv_at hl 4 rfl) ?_
      refine lv_iload_n hx hb dX7_succeeds_179 rfl (lv_at hl 3 rfl) ?_
      refine cl_X7_7 (As := [.int (nI ((g0 / 100) % 10))]) (rest := []) hB (c_X8_frameAt_o l g H0 sb (zOf q) P (nI ((g0 / 100) % 10)) hS1 (by rw [isIx_nI (by omega)]; exact decide_eq_false (by omega))) hS1.o rfl hl.1 (Nat.le_of_ble_eq_true rfl) dX7_succeeds_180 ⟨Nat.le_of_ble_eq_true rfl, Nat.le_of_ble_eq_true rfl⟩ ⟨Nat.le_of_ble_eq_true rfl, Nat.le_of_ble_eq_true rfl⟩ hS (by have hz9 := hS.1; rintro q (h | h) <;> first | exact Or.inr (by omega) | exact h.elim | exact Or.inl h | (simp only [ftA] at h ⊢; omega)) (fun v H1 locs hpo hfr hS => ?_)
      obtain ⟨rfl, rfl⟩ := hpo
      refine W.widen (k := 0) (n := 0) (Nat.le_of_ble_eq_true rfl) (Nat.le_of_ble_eq_true rfl) ?_
      refine lv_iload hx hb dX7_succeeds_183 (lv_at hl 0 rfl) ?_
      refine cl_X7_42 (As := [.null, .int (nI (g0 % 100))]) (rest := []) hB (c_X7_hasSewn_o l g H0 (nI (g0 % 100))) rfl hl.1 (Nat.le_of_ble_eq_true rfl) dX7_succeeds_185 ⟨Nat.le_of_ble_eq_true rfl, Nat.le_of_ble_eq_true rfl⟩ ⟨Nat.le_of_ble_eq_true rfl, Nat.le_of_ble_eq_true rfl⟩ hS (by have hz9 := hS.1; rintro q (h | h) <;> first | exact Or.inr (by omega) | exact h.elim | exact Or.inl h | (simp only [ftA] at h ⊢; omega)) (fun v H1 locs hpo hfr hS => ?_)
      obtain ⟨rfl, rfl⟩ := hpo
      refine W.widen (k := 0) (n := 0) (Nat.le_of_ble_eq_true rfl) (Nat.le_of_ble_eq_true rfl) ?_
      refine mh_zret hB ⟨Nat.le_of_ble_eq_true rfl, Nat.le_of_ble_eq_true rfl⟩ hS dX7_succeeds_188 (by first | exact nar_bI _ | rfl | decide | (split <;> rfl)) ⟨?_, P, ?_, ?_⟩
      · rw [cmd7 (cmdA_f (g := g0) (by omega)) hg]; rw [decide_eq_false (fun y => by omega)]
      · rw [cmdQ_f (cmdA_f (g := g0) (by omega))]; exact hS1
      · rw [cmdQ_f (cmdA_f (g := g0) (by omega))]; exact hPT
  · skip
    rw [hg]
    refine lv_tableIn (tgt := 189) (off := 156) hx hb dX7_succeeds_33 (by decide) (by decide) (by decide) (by decide) ?_
    rcases Nat.lt_or_ge (g0 / 100 % 10) 6 with hlt | hge
    · skip
      refine lv_aload_n hx hb dX7_succeeds_189 rfl (lv_at hl 4 rfl) ?_
      refine lv_iload_n hx hb dX7_succeeds_190 rfl (lv_at hl 3 rfl) ?_
      refine cl_X7_46 (As := [.int (nI ((g0 / 100) % 10))]) (rest := []) hB (c_X8_clothAt l g H0 sb (zOf q) P ((g0 / 100) % 10) hS1 (hlt)) hS1.o rfl hl.1 (Nat.le_of_ble_eq_true rfl) dX7_succeeds_191 ⟨Nat.le_of_ble_eq_true rfl, Nat.le_of_ble_eq_true rfl⟩ ⟨Nat.le_of_ble_eq_true rfl, Nat.le_of_ble_eq_true rfl⟩ hS (by have hz9 := hS.1; rintro q (h | h) <;> first | exact Or.inr (by omega) | exact h.elim | exact Or.inl h | (simp only [ftA] at h ⊢; omega)) (fun v H1 locs hpo hfr hS => ?_)
      obtain ⟨rfl, rfl⟩ := hpo
      refine W.widen (k := 0) (n := 0) (Nat.le_of_ble_eq_true rfl) (Nat.le_of_ble_eq_true rfl) ?_
      refine lv_iload hx hb dX7_succeeds_194 (lv_at hl 0 rfl) ?_
      refine cl_X7_50 (As := [.ref (sb + (14 + ((g0 / 100) % 10))), .int (nI (g0 % 100))]) (rest := []) hB (c_X7_hasCloth l g H0 sb P q ((g0 / 100) % 10) (g0 % 100) hS1 (hlt)) rfl hl.1 (Nat.le_of_ble_eq_true rfl) dX7_succeeds_196 ⟨Nat.le_of_ble_eq_true rfl, Nat.le_of_ble_eq_true rfl⟩ ⟨Nat.le_of_ble_eq_true rfl, Nat.le_of_ble_eq_true rfl⟩ hS (by have hz9 := hS.1; rintro q (h | h) <;> first | exact Or.inr (by omega) | exact h.elim | exact Or.inl h | (simp only [ftA] at h ⊢; omega)) (fun v H1 locs hpo hfr hS => ?_)
      obtain ⟨rfl, rfl⟩ := hpo
      refine W.widen (k := 0) (n := 0) (Nat.le_of_ble_eq_true rfl) (Nat.le_of_ble_eq_true rfl) ?_
      refine mh_zret hB ⟨Nat.le_of_ble_eq_true rfl, Nat.le_of_ble_eq_true rfl⟩ hS dX7_succeeds_199 (by first | exact nar_bI _ | rfl | decide | (split <;> rfl)) ⟨?_, P, ?_, ?_⟩
      · rw [cmd8 (cmdA_f (g := g0) (by omega)) (by omega) hg]; rw [show decide (g0 / 100 % 10 < 6 ∧ ¬ q (50 + g0 / 100 % 10) < nI (g0 % 100)) = decide (¬ q (50 + g0 / 100 % 10) < nI (g0 % 100)) from decide_eq_decide.mpr ⟨fun y => y.2, fun y => ⟨hlt, y⟩⟩]
      · rw [cmdQ_f (cmdA_f (g := g0) (by omega))]; exact hS1
      · rw [cmdQ_f (cmdA_f (g := g0) (by omega))]; exact hPT
    · skip
      refine lv_aload_n hx hb dX7_succeeds_189 rfl (lv_at hl 4 rfl) ?_
      refine lv_iload_n hx hb dX7_succeeds_190 rfl (lv_at hl 3 rfl) ?_
      refine cl_X7_46 (As := [.int (nI ((g0 / 100) % 10))]) (rest := []) hB (c_X8_clothAt_o l g H0 sb (zOf q) P (nI ((g0 / 100) % 10)) hS1 (by rw [isIx_nI (by omega)]; exact decide_eq_false (by omega))) hS1.o rfl hl.1 (Nat.le_of_ble_eq_true rfl) dX7_succeeds_191 ⟨Nat.le_of_ble_eq_true rfl, Nat.le_of_ble_eq_true rfl⟩ ⟨Nat.le_of_ble_eq_true rfl, Nat.le_of_ble_eq_true rfl⟩ hS (by have hz9 := hS.1; rintro q (h | h) <;> first | exact Or.inr (by omega) | exact h.elim | exact Or.inl h | (simp only [ftA] at h ⊢; omega)) (fun v H1 locs hpo hfr hS => ?_)
      obtain ⟨rfl, rfl⟩ := hpo
      refine W.widen (k := 0) (n := 0) (Nat.le_of_ble_eq_true rfl) (Nat.le_of_ble_eq_true rfl) ?_
      refine lv_iload hx hb dX7_succeeds_194 (lv_at hl 0 rfl) ?_
      refine cl_X7_50 (As := [.null, .int (nI (g0 % 100))]) (rest := []) hB (c_X7_hasCloth_o l g H0 (nI (g0 % 100))) rfl hl.1 (Nat.le_of_ble_eq_true rfl) dX7_succeeds_196 ⟨Nat.le_of_ble_eq_true rfl, Nat.le_of_ble_eq_true rfl⟩ ⟨Nat.le_of_ble_eq_true rfl, Nat.le_of_ble_eq_true rfl⟩ hS (by have hz9 := hS.1; rintro q (h | h) <;> first | exact Or.inr (by omega) | exact h.elim | exact Or.inl h | (simp only [ftA] at h ⊢; omega)) (fun v H1 locs hpo hfr hS => ?_)
      obtain ⟨rfl, rfl⟩ := hpo
      refine W.widen (k := 0) (n := 0) (Nat.le_of_ble_eq_true rfl) (Nat.le_of_ble_eq_true rfl) ?_
      refine mh_zret hB ⟨Nat.le_of_ble_eq_true rfl, Nat.le_of_ble_eq_true rfl⟩ hS dX7_succeeds_199 (by first | exact nar_bI _ | rfl | decide | (split <;> rfl)) ⟨?_, P, ?_, ?_⟩
      · rw [cmd8 (cmdA_f (g := g0) (by omega)) (by omega) hg]; rw [decide_eq_false (fun y => by omega)]
      · rw [cmdQ_f (cmdA_f (g := g0) (by omega))]; exact hS1
      · rw [cmdQ_f (cmdA_f (g := g0) (by omega))]; exact hPT
  · skip
    rw [hg]
    refine lv_tableIn (tgt := 200) (off := 167) hx hb dX7_succeeds_33 (by decide) (by decide) (by decide) (by decide) ?_
    rcases Nat.lt_or_ge (g0 / 100 % 10) (nmQ q) with hlt | hge
    · skip
      refine lv_aload_n hx hb dX7_succeeds_200 rfl (lv_at hl 4 rfl) ?_
      refine lv_iload_n hx hb dX7_succeeds_201 rfl (lv_at hl 3 rfl) ?_
      refine cl_X7_19 (As := [.int (nI ((g0 / 100) % 10))]) (rest := []) hB (c_X8_memberAt l g H0 sb (zOf q) P ((g0 / 100) % 10) (nmQ q) hS1 (hlt) (hz0) (hnm5)) hS1.o rfl hl.1 (Nat.le_of_ble_eq_true rfl) dX7_succeeds_202 ⟨Nat.le_of_ble_eq_true rfl, Nat.le_of_ble_eq_true rfl⟩ ⟨Nat.le_of_ble_eq_true rfl, Nat.le_of_ble_eq_true rfl⟩ hS (by have hz9 := hS.1; rintro q (h | h) <;> first | exact Or.inr (by omega) | exact h.elim | exact Or.inl h | (simp only [ftA] at h ⊢; omega)) (fun v H1 locs hpo hfr hS => ?_)
      obtain ⟨rfl, rfl⟩ := hpo
      refine W.widen (k := 0) (n := 0) (Nat.le_of_ble_eq_true rfl) (Nat.le_of_ble_eq_true rfl) ?_
      refine lv_iload hx hb dX7_succeeds_205 (lv_at hl 0 rfl) ?_
      refine cl_X7_54 (As := [.ref (sb + (4 + 2 * ((g0 / 100) % 10))), .int (nI (g0 % 100))]) (rest := []) hB (c_X7_hasPence l g H0 sb P q ((g0 / 100) % 10) (g0 % 100) hS1 (by omega)) rfl hl.1 (Nat.le_of_ble_eq_true rfl) dX7_succeeds_207 ⟨Nat.le_of_ble_eq_true rfl, Nat.le_of_ble_eq_true rfl⟩ ⟨Nat.le_of_ble_eq_true rfl, Nat.le_of_ble_eq_true rfl⟩ hS (by have hz9 := hS.1; rintro q (h | h) <;> first | exact Or.inr (by omega) | exact h.elim | exact Or.inl h | (simp only [ftA] at h ⊢; omega)) (fun v H1 locs hpo hfr hS => ?_)
      obtain ⟨rfl, rfl⟩ := hpo
      refine W.widen (k := 0) (n := 0) (Nat.le_of_ble_eq_true rfl) (Nat.le_of_ble_eq_true rfl) ?_
      refine mh_zret hB ⟨Nat.le_of_ble_eq_true rfl, Nat.le_of_ble_eq_true rfl⟩ hS dX7_succeeds_210 (by first | exact nar_bI _ | rfl | decide | (split <;> rfl)) ⟨?_, P, ?_, ?_⟩
      · rw [cmd9 (cmdA_f (g := g0) (by omega)) (by omega) (by omega)]; rw [show decide (g0 / 1000 = 9 ∧ g0 / 100 % 10 < nmQ q ∧ ¬ q (10 + g0 / 100 % 10) < nI (g0 % 100)) = decide (¬ q (10 + g0 / 100 % 10) < nI (g0 % 100)) from decide_eq_decide.mpr ⟨fun y => y.2.2, fun y => ⟨hg, hlt, y⟩⟩]
      · rw [cmdQ_f (cmdA_f (g := g0) (by omega))]; exact hS1
      · rw [cmdQ_f (cmdA_f (g := g0) (by omega))]; exact hPT
    · skip
      refine lv_aload_n hx hb dX7_succeeds_200 rfl (lv_at hl 4 rfl) ?_
      refine lv_iload_n hx hb dX7_succeeds_201 rfl (lv_at hl 3 rfl) ?_
      refine cl_X7_19 (As := [.int (nI ((g0 / 100) % 10))]) (rest := []) hB (c_X8_memberAt_o l g H0 sb (zOf q) P (nI ((g0 / 100) % 10)) (nmQ q) hS1 (by rw [isIx_nI (by omega)]; exact decide_eq_false (by omega)) (hz0) (hnm5)) hS1.o rfl hl.1 (Nat.le_of_ble_eq_true rfl) dX7_succeeds_202 ⟨Nat.le_of_ble_eq_true rfl, Nat.le_of_ble_eq_true rfl⟩ ⟨Nat.le_of_ble_eq_true rfl, Nat.le_of_ble_eq_true rfl⟩ hS (by have hz9 := hS.1; rintro q (h | h) <;> first | exact Or.inr (by omega) | exact h.elim | exact Or.inl h | (simp only [ftA] at h ⊢; omega)) (fun v H1 locs hpo hfr hS => ?_)
      obtain ⟨rfl, rfl⟩ := hpo
      refine W.widen (k := 0) (n := 0) (Nat.le_of_ble_eq_true rfl) (Nat.le_of_ble_eq_true rfl) ?_
      refine lv_iload hx hb dX7_succeeds_205 (lv_at hl 0 rfl) ?_
      refine cl_X7_54 (As := [.null, .int (nI (g0 % 100))]) (rest := []) hB (c_X7_hasPence_o l g H0 (nI (g0 % 100))) rfl hl.1 (Nat.le_of_ble_eq_true rfl) dX7_succeeds_207 ⟨Nat.le_of_ble_eq_true rfl, Nat.le_of_ble_eq_true rfl⟩ ⟨Nat.le_of_ble_eq_true rfl, Nat.le_of_ble_eq_true rfl⟩ hS (by have hz9 := hS.1; rintro q (h | h) <;> first | exact Or.inr (by omega) | exact h.elim | exact Or.inl h | (simp only [ftA] at h ⊢; omega)) (fun v H1 locs hpo hfr hS => ?_)
      obtain ⟨rfl, rfl⟩ := hpo
      refine W.widen (k := 0) (n := 0) (Nat.le_of_ble_eq_true rfl) (Nat.le_of_ble_eq_true rfl) ?_
      refine mh_zret hB ⟨Nat.le_of_ble_eq_true rfl, Nat.le_of_ble_eq_true rfl⟩ hS dX7_succeeds_210 (by first | exact nar_bI _ | rfl | decide | (split <;> rfl)) ⟨?_, P, ?_, ?_⟩
      · rw [cmd9 (cmdA_f (g := g0) (by omega)) (by omega) (by omega)]; rw [decide_eq_false (fun y => by omega)]
      · rw [cmdQ_f (cmdA_f (g := g0) (by omega))]; exact hS1
      · rw [cmdQ_f (cmdA_f (g := g0) (by omega))]; exact hPT

def rm_c_X8_spendEvening : Room := { frames := 4, cells := 0, slots := 0, locals := 94 }
set_option maxRecDepth 100000 in
set_option maxHeartbeats 400000 in
theorem c_X8_spendEvening (l : Launch) (g : GG) (H0 : Heap) (sb : Nat) (P : Nat → Option Nat) (D : Nat → Prop) (q : Nat → Int32) (r0 : Nat) (hS1 : StAt g sb (zOf q) P H0) (hPT : PT g D P q H0) (hD : ∀ q9, sb ≤ q9 → q9 < sb + 26 → D q9) (hW : WF q) (hZ : WZ q) (hr : r0 < 2147483648) : Ct l yX8_spendEvening cX8_spendEvening 4 (some .int) rm_c_X8_spendEvening g [.ref sb, .int (nI r0)] H0 (ftA (fun q9 => sb ≤ q9 ∧ q9 < sb + 26) H0.size) (fun v H1 => v = some (.int (nI (evS q r0))) ∧ ∃ (P2 : Nat → Option Nat), StAt g sb (zOf (evQ q r0)) P2 H1 ∧ PT g D P2 (evQ q r0) H1) := by
  refine Ct.of (by decide) (fun _ h => Or.inr h) (Nat.le_of_ble_eq_true rfl) ?_
  intro p e s m below meth c ls hB hin hS hH hl
  have hx := hB.x
  have hb := hB.b
  have hl : lv_has ls 4 [(0, .ref sb), (1, .int (nI r0))] := hl
  have hnm5 := hW.2.2.1
  have hz0 : (zOf q) 0 = nI (nmQ q) := by rw [zOf_lo (by omega), hW.1]
  have hf : evF r0 < 3 := Nat.mod_lt _ (by omega)
  have hef : r0 / 64 % 3 = evF r0 := rfl
  refine lv_aload_n hx hb dX8_spendEvening_0 rfl (lv_at hl 0 rfl) ?_
  refine gf_X8_32 hB hS1.o rfl dX8_spendEvening_1 ?_
  refine mh_top (y := .int (nI (nmQ q))) (by rw [hz0]) ?_
  refine mn_if_gt (tgt := 9) hB dX8_spendEvening_4 (by decide) (by omega) (fun h_4 => ?_) (fun h_4 => ?_)
  · skip
    refine lv_iload_n hx hb dX8_spendEvening_9 rfl (lv_at hl 1 rfl) ?_
    refine lv_iconst (v := nI 4) hx hb dX8_spendEvening_10 (by decide) ?_
    refine mn_irem hB dX8_spendEvening_11 (by omega) (by omega) (by omega) ?_
    refine mn_if_ne (tgt := 50) hB dX8_spendEvening_12 (by decide) (by omega) (fun h_12 => ?_) (fun h_12 => ?_)
    · skip
      refine lv_aload_n hx hb dX8_spendEvening_50 rfl (lv_at hl 0 rfl) ?_
      refine lv_iload_n hx hb dX8_spendEvening_51 rfl (lv_at hl 1 rfl) ?_
      refine lv_bipush (v := nI 64) hx hb dX8_spendEvening_52 (by decide) ?_
      refine mn_idiv hB dX8_spendEvening_54 (by omega) (by omega) (by omega) ?_
      refine lv_iconst (v := nI 3) hx hb dX8_spendEvening_55 (by decide) ?_
      refine mn_irem hB dX8_spendEvening_56 (by omega) (by omega) (by omega) ?_
      refine mh_top (y := .int (nI (evF r0))) (rfl) ?_
      refine cl_X8_36 (As := [.int (nI (evF r0))]) (rest := []) hB (c_X8_frameAt l g H0 sb (zOf q) P (evF r0) hS1 (hf)) hS1.o rfl hl.1 (Nat.le_of_ble_eq_true rfl) dX8_spendEvening_57 ⟨Nat.le_of_ble_eq_true rfl, Nat.le_of_ble_eq_true rfl⟩ ⟨Nat.le_of_ble_eq_true rfl, Nat.le_of_ble_eq_true rfl⟩ hS (by have hz9 := hS.1; rintro q (h | h) <;> first | exact Or.inr (by omega) | exact h.elim | exact Or.inl h | (simp only [ftA] at h ⊢; omega)) (fun v H1 locs hpo hfr hS => ?_)
      obtain ⟨rfl, rfl⟩ := hpo
      refine W.widen (k := 0) (n := 0) (Nat.le_of_ble_eq_true rfl) (Nat.le_of_ble_eq_true rfl) ?_
      refine lv_astore_n (lv' := [(2, .ref (sb + (20 + 2 * (evF r0)))), (0, .ref sb), (1, .int (nI r0))]) hx hb dX8_spendEvening_60 rfl hl (by decide) rfl (fun ls hl => ?_)
      refine lv_aload_n hx hb dX8_spendEvening_61 rfl (lv_at hl 0 rfl) ?_
      refine lv_ifnull hx hb dX8_spendEvening_62 ?_
      refine lv_aload_n hx hb dX8_spendEvening_65 rfl (lv_at hl 0 rfl) ?_
      refine cl_X8_40 (As := []) (rest := []) hB (c_X1_isEmpty l g H0 sb (zOf q) P D q (evF r0) hS1 hPT (hf)) (hS1.of (k := (evF r0)) (by omega)) rfl hl.1 (Nat.le_of_ble_eq_true rfl) dX8_spendEvening_66 ⟨Nat.le_of_ble_eq_true rfl, Nat.le_of_ble_eq_true rfl⟩ ⟨Nat.le_of_ble_eq_true rfl, Nat.le_of_ble_eq_true rfl⟩ hS (by have hz9 := hS.1; rintro q (h | h) <;> first | exact Or.inr (by omega) | exact h.elim | exact Or.inl h | (simp only [ftA] at h ⊢; omega)) (fun v H1 locs hpo hfr hS => ?_)
      obtain ⟨rfl, rfl⟩ := hpo
      refine W.widen (k := 0) (n := 0) (Nat.le_of_ble_eq_true rfl) (Nat.le_of_ble_eq_true rfl) ?_
      refine mb_if_eq (tgt := 74) hB dX8_spendEvening_69 (by decide) (fun h_69 => ?_) (fun h_69 => ?_)
      · skip
        have h69 := of_decide_eq_false h_69
        refine lv_aload_n hx hb dX8_spendEvening_74 rfl (lv_at hl 1 rfl) ?_
        refine lv_aload_n hx hb dX8_spendEvening_75 rfl (lv_at hl 0 rfl) ?_
        refine lv_iconst (v := nI 1) hx hb dX8_spendEvening_76 (by decide) ?_
        refine lv_iload_n hx hb dX8_spendEvening_77 rfl (lv_at hl 2 rfl) ?_
        refine lv_iconst (v := nI 4) hx hb dX8_spendEvening_78 (by decide) ?_
        refine mn_idiv hB dX8_spendEvening_79 (by omega) (by omega) (by omega) ?_
        refine lv_bipush (v := nI 9) hx hb dX8_spendEvening_80 (by decide) ?_
        refine mn_irem hB dX8_spendEvening_82 (by omega) (by omega) (by omega) ?_
        refine mn_iadd hB dX8_spendEvening_83 ?_
        refine cl_X8_149 (As := [.ref (sb + (20 + 2 * (evF r0))), .int (nI (1 + ((r0 / 4) % 9)))]) (rest := []) hB (c_X8_sewPatches l g H0 sb P D q (evF r0) (1 + ((r0 / 4) % 9)) hS1 hPT (by first | assumption | omega) (by first | assumption | omega) (hf) (by omega) (by omega)) hS1.o rfl hl.1 (Nat.le_of_ble_eq_true rfl) dX8_spendEvening_84 ⟨Nat.le_of_ble_eq_true rfl, Nat.le_of_ble_eq_true rfl⟩ ⟨Nat.le_of_ble_eq_true rfl, Nat.le_of_ble_eq_true rfl⟩ hS (by have hz9 := hS.1; rintro q (h | h) <;> first | exact Or.inr (by omega) | exact h.elim | exact Or.inl h | (simp only [ftA] at h ⊢; omega)) (fun v H1 locs hpo hfr hS => ?_)
        obtain ⟨rfl, hS1, hPT⟩ := hpo
        generalize H1 = H at hfr hS hS1 hPT ⊢
        refine W.widen (k := 0) (n := 0) (Nat.le_of_ble_eq_true rfl) (Nat.le_of_ble_eq_true rfl) ?_
        have hW1 := sewE_WF (n := 1 + ((r0 / 4) % 9)) hf hW (show 0 < nmQ q by omega)
        have hZ1 := sewE_WZ (n := 1 + ((r0 / 4) % 9)) hf hW hZ (show 0 < nmQ q by omega)
        have hsw1 := WF.sw (hW1.fr hf)
        have hsz1 := WF.sz (hW1.fr hf)
        refine lv_istore_n (lv' := [(3, .int (nI (sewN (evF r0) (tnQ q) (1 + ((r0 / 4) % 9)) q))), (2, .ref (sb + (20 + 2 * (evF r0)))), (0, .ref sb), (1, .int (nI r0))]) hx hb dX8_spendEvening_87 rfl hl (by decide) rfl (fun ls hl => ?_)
        refine lv_aload_n hx hb dX8_spendEvening_88 rfl (lv_at hl 1 rfl) ?_
        refine cl_X8_153 (As := []) (rest := []) hB (c_X1_isFinished l g H sb (zOf (sewE (evF r0) (1 + ((r0 / 4) % 9)) q)) P D (sewE (evF r0) (1 + ((r0 / 4) % 9)) q) (evF r0) (swF (sewE (evF r0) (1 + ((r0 / 4) % 9)) q) (evF r0)) hS1 hPT (hf) (by rw [zOf_fS hf, (hW1.fr hf).s]) (hsw1) (hsz1)) (hS1.of (k := (evF r0)) (by omega)) rfl hl.1 (Nat.le_of_ble_eq_true rfl) dX8_spendEvening_89 ⟨Nat.le_of_ble_eq_true rfl, Nat.le_of_ble_eq_true rfl⟩ ⟨Nat.le_of_ble_eq_true rfl, Nat.le_of_ble_eq_true rfl⟩ hS (by have hz9 := hS.1; rintro q (h | h) <;> first | exact Or.inr (by omega) | exact h.elim | exact Or.inl h | (simp only [ftA] at h ⊢; omega)) (fun v H1 locs hpo hfr hS => ?_)
        obtain ⟨rfl, rfl⟩ := hpo
        refine W.widen (k := 0) (n := 0) (Nat.le_of_ble_eq_true rfl) (Nat.le_of_ble_eq_true rfl) ?_
        refine mb_if_eq (tgt := 103) hB dX8_spendEvening_92 (by decide) (fun h_92 => ?_) (fun h_92 => ?_)
        · skip
          have h92 := of_decide_eq_false h_92
          refine lv_iload_n hx hb dX8_spendEvening_103 rfl (lv_at hl 0 rfl) ?_
          refine mh_iret hB ⟨Nat.le_of_ble_eq_true rfl, Nat.le_of_ble_eq_true rfl⟩ hS dX8_spendEvening_104 ⟨?_, P, ?_, ?_⟩
          · unfold evS; rw [if_neg (by omega), if_neg (by omega), if_neg h69]
          · unfold evQ; rw [if_neg (by omega), if_neg (by omega), if_neg h69]; first | (rw [if_pos (by omega)]; exact hS1) | (rw [if_neg (by omega)]; exact hS1)
          · unfold evQ; rw [if_neg (by omega), if_neg (by omega), if_neg h69]; first | (rw [if_pos (by omega)]; exact hPT) | (rw [if_neg (by omega)]; exact hPT)
        · skip
          have h92 := of_decide_eq_true h_92
          refine lv_aload_n hx hb dX8_spendEvening_95 rfl (lv_at hl 2 rfl) ?_
          refine lv_aload_n hx hb dX8_spendEvening_96 rfl (lv_at hl 1 rfl) ?_
          refine lv_bipush (v := nI 100) hx hb dX8_spendEvening_97 (by decide) ?_
          refine cl_X8_156 (As := [.ref (sb + (20 + 2 * (evF r0))), .int (nI 100)]) (rest := []) hB (c_X8_raffleOff l g H sb P D (sewE (evF r0) (1 + ((r0 / 4) % 9)) q) (evF r0) 100 hS1 hPT (by first | assumption | omega) (hW1) (hf) (hZ1) (by omega) (h92.1) (by omega)) hS1.o rfl hl.1 (Nat.le_of_ble_eq_true rfl) dX8_spendEvening_99 ⟨Nat.le_of_ble_eq_true rfl, Nat.le_of_ble_eq_true rfl⟩ ⟨Nat.le_of_ble_eq_true rfl, Nat.le_of_ble_eq_true rfl⟩ hS (by have hz9 := hS.1; rintro q (h | h) <;> first | exact Or.inr (by omega) | exact h.elim | exact Or.inl h | (simp only [ftA] at h ⊢; omega)) (fun v H1 locs hpo hfr hS => ?_)
          obtain ⟨rfl, hS1, hPT⟩ := hpo
          generalize H1 = H at hfr hS hS1 hPT ⊢
          refine W.widen (k := 0) (n := 0) (Nat.le_of_ble_eq_true rfl) (Nat.le_of_ble_eq_true rfl) ?_
          refine lv_pop hx hb dX8_spendEvening_102 rfl ?_
          refine lv_iload_n hx hb dX8_spendEvening_103 rfl (lv_at hl 0 rfl) ?_
          refine mh_iret hB ⟨Nat.le_of_ble_eq_true rfl, Nat.le_of_ble_eq_true rfl⟩ hS dX8_spendEvening_104 ⟨?_, va_up P (evF r0) none, ?_, ?_⟩
          · unfold evS; rw [if_neg (by omega), if_neg (by omega), if_neg h69]
          · unfold evQ; rw [if_neg (by omega), if_neg (by omega), if_neg h69]; first | (rw [if_pos (by omega)]; exact hS1) | (rw [if_neg (by omega)]; exact hS1)
          · unfold evQ; rw [if_neg (by omega), if_neg (by omega), if_neg h69]; first | (rw [if_pos (by omega)]; exact hPT) | (rw [if_neg (by omega)]; exact hPT)
      · skip
        have h69 := of_decide_eq_true h_69
        refine lv_iconst (v := nI 0) hx hb dX8_spendEvening_72 (by decide) ?_
        refine mh_iret hB ⟨Nat.le_of_ble_eq_true rfl, Nat.le_of_ble_eq_true rfl⟩ hS dX8_spendEvening_73 ⟨?_, P, ?_, ?_⟩
        · unfold evS; rw [if_neg (by omega), if_neg (by omega), if_pos h69]
        · unfold evQ; rw [if_neg (by omega), if_neg (by omega), if_pos h69]; exact hS1
        · unfold evQ; rw [if_neg (by omega), if_neg (by omega), if_pos h69]; exact hPT
    · skip
      refine lv_aload_n hx hb dX8_spendEvening_15 rfl (lv_at hl 0 rfl) ?_
      refine lv_aload_n hx hb dX8_spendEvening_16 rfl (lv_at hl 0 rfl) ?_
      refine lv_iload_n hx hb dX8_spendEvening_17 rfl (lv_at hl 1 rfl) ?_
      refine lv_iconst (v := nI 4) hx hb dX8_spendEvening_18 (by decide) ?_
      refine mn_idiv hB dX8_spendEvening_19 (by omega) (by omega) (by omega) ?_
      refine lv_aload_n hx hb dX8_spendEvening_20 rfl (lv_at hl 0 rfl) ?_
      refine gf_X8_32 hB hS1.o rfl dX8_spendEvening_21 ?_
      refine mh_top (y := .int (nI (nmQ q))) (by rw [hz0]) ?_
      refine mn_irem hB dX8_spendEvening_24 (by omega) (by omega) (by omega) ?_
      have hmd := Nat.mod_lt (r0 / 4) (show 0 < nmQ q by omega)
      have hm6 := Nat.mod_lt (r0 / 512) (show 0 < 6 by omega)
      refine cl_X8_74 (As := [.int (nI ((r0 / 4) % (nmQ q)))]) (rest := [.ref sb]) hB (c_X8_memberAt l g H0 sb (zOf q) P ((r0 / 4) % (nmQ q)) (nmQ q) hS1 (hmd) (hz0) (hnm5)) hS1.o rfl hl.1 (Nat.le_of_ble_eq_true rfl) dX8_spendEvening_25 ⟨Nat.le_of_ble_eq_true rfl, Nat.le_of_ble_eq_true rfl⟩ ⟨Nat.le_of_ble_eq_true rfl, Nat.le_of_ble_eq_true rfl⟩ hS (by have hz9 := hS.1; rintro q (h | h) <;> first | exact Or.inr (by omega) | exact h.elim | exact Or.inl h | (simp only [ftA] at h ⊢; omega)) (fun v H1 locs hpo hfr hS => ?_)
      obtain ⟨rfl, rfl⟩ := hpo
      refine W.widen (k := 0) (n := 0) (Nat.le_of_ble_eq_true rfl) (Nat.le_of_ble_eq_true rfl) ?_
      refine lv_iload_n hx hb dX8_spendEvening_28 rfl (lv_at hl 1 rfl) ?_
      refine lv_sipush (v := nI 512) hx hb dX8_spendEvening_29 (by decide +kernel) ?_
      refine mn_idiv hB dX8_spendEvening_32 (by omega) (by omega) (by omega) ?_
      refine lv_bipush (v := nI 6) hx hb dX8_spendEvening_33 (by decide) ?_
      refine mn_irem hB dX8_spendEvening_35 (by omega) (by omega) (by omega) ?_
      refine lv_iconst (v := nI 1) hx hb dX8_spendEvening_36 (by decide) ?_
      refine lv_iload_n hx hb dX8_spendEvening_37 rfl (lv_at hl 1 rfl) ?_
      refine lv_bipush (v := nI 32) hx hb dX8_spendEvening_38 (by decide) ?_
      refine mn_idiv hB dX8_spendEvening_40 (by omega) (by omega) (by omega) ?_
      refine lv_bipush (v := nI 9) hx hb dX8_spendEvening_41 (by decide) ?_
      refine mn_irem hB dX8_spendEvening_43 (by omega) (by omega) (by omega) ?_
      refine mn_iadd hB dX8_spendEvening_44 ?_
      refine cl_X8_145 (As := [.ref (sb + (4 + 2 * ((r0 / 4) % (nmQ q)))), .int (nI ((r0 / 512) % 6)), .int (nI (1 + ((r0 / 32) % 9)))]) (rest := []) hB (c_X8_takeGift l g H0 sb (zOf q) P ((r0 / 4) % (nmQ q)) ((r0 / 512) % 6) (nI (1 + ((r0 / 32) % 9))) hS1 (by omega) (by omega)) hS1.o rfl hl.1 (Nat.le_of_ble_eq_true rfl) dX8_spendEvening_45 ⟨Nat.le_of_ble_eq_true rfl, Nat.le_of_ble_eq_true rfl⟩ ⟨Nat.le_of_ble_eq_true rfl, Nat.le_of_ble_eq_true rfl⟩ hS (by have hz9 := hS.1; rintro q (h | h) <;> first | exact Or.inr (by omega) | exact h.elim | exact Or.inl h | (simp only [ftA] at h ⊢; omega)) (fun v H1 locs hpo hfr hS => ?_)
      obtain ⟨rfl, hS1⟩ := hpo
      have hPT := hPT.keptF hfr (fun q9 hq9 => by first | exact hq9.elim | exact hD q9 (by have := hq9; omega) (by have := hq9; omega))
      generalize H1 = H at hfr hS hPT hS1 ⊢
      refine W.widen (k := 0) (n := 0) (Nat.le_of_ble_eq_true rfl) (Nat.le_of_ble_eq_true rfl) ?_
      have hS1 := hS1.congr (giv_z hW (by omega) (by omega)) (fun _ _ => rfl)
      refine lv_iconst (v := nI 0) hx hb dX8_spendEvening_48 (by decide) ?_
      refine mh_iret hB ⟨Nat.le_of_ble_eq_true rfl, Nat.le_of_ble_eq_true rfl⟩ hS dX8_spendEvening_49 ⟨?_, P, ?_, ?_⟩
      · unfold evS; rw [if_neg (by omega), if_pos (by omega)]
      · unfold evQ; rw [if_neg (by omega), if_pos (by omega)]; exact hS1
      · unfold evQ; rw [if_neg (by omega), if_pos (by omega)]; exact hPT.giv hW (by omega) (by omega)
  · skip
    refine lv_iconst (v := nI 0) hx hb dX8_spendEvening_7 (by decide) ?_
    refine mh_iret hB ⟨Nat.le_of_ble_eq_true rfl, Nat.le_of_ble_eq_true rfl⟩ hS dX8_spendEvening_8 ⟨?_, P, ?_, ?_⟩
    · unfold evS; rw [if_pos (by omega)]
    · unfold evQ; rw [if_pos (by omega)]; exact hS1
    · unfold evQ; rw [if_pos (by omega)]; exact hPT
