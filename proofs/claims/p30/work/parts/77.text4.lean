def rm_c_X9_endBlock : Room := { frames := 2, cells := 0, slots := 0, locals := 52 }
set_option maxRecDepth 100000 in
set_option maxHeartbeats 400000 in
theorem c_X9_endBlock (l : Launch) (g : GG) (H0 : Heap) (tb : Nat) (tx : Nat → Int32) (ln : Nat) (wd : Nat → Int32) (ht : Nat → Int32) (fi : Nat → Int32) (la : Nat → Int32) (nx : Nat → Int32) (di : Nat → Int32) (op : Nat → Int32) (oc : Int32) (wh : Int32) (tc : Nat → Nat) (L0 : List PIt) (j0 : Nat) (i2 : Nat) (w0 : Nat) (h0 : Nat) (c0 : Nat → Nat) (hT : TxAt g tb tx ln wd ht fi la nx di op oc wh H0) (htc : ∀ j, j < i2 → tx j = nI (tc j) ∧ tc j < 256) (hoc : oc = nI L0.length) (hl60 : L0.length < 60) (hO : OpS tc fi la nx di wd ht op L0 j0) (hN : NxS nx L0) (hI : ItsOk L0) (hDn : Den tc fi nx di wd ht (60 - j0) j0 i2 (w0, h0, c0)) (hnx : nx j0 = -9) (hwh : wh = -9) : Ct l yX9_endBlock cX9_endBlock 5 (some .int) rm_c_X9_endBlock g [.ref tb, .int (nI j0)] H0 (ftA (fun q9 => tb ≤ q9 ∧ q9 < tb + 9) H0.size) (fun v H1 => v = some (.int (edV (endS L0 (w0, h0, c0) j0))) ∧ ∃ (fi2 : Nat → Int32), ∃ (la2 : Nat → Int32), ∃ (nx2 : Nat → Int32), ∃ (di2 : Nat → Int32), ∃ (wd2 : Nat → Int32), ∃ (ht2 : Nat → Int32), ∃ (oc2 : Int32), ∃ (wh2 : Int32), TxAt g tb tx ln wd2 ht2 fi2 la2 nx2 di2 op oc2 wh2 H1 ∧ EndC tc fi2 la2 nx2 di2 wd2 ht2 op i2 oc2 wh2 (endS L0 (w0, h0, c0) j0)) := by
  refine Ct.of (by decide) (fun _ h => Or.inr h) (Nat.le_of_ble_eq_true rfl) ?_
  intro p e s m below meth c ls hB hin hS hH hl
  have hx := hB.x
  have hb := hB.b
  have hl : lv_has ls 5 [(0, .ref tb), (1, .int (nI j0))] := hl
  have hT : TxAt g tb tx ln wd ht fi la nx di op (nI L0.length) wh H0 := by rw [← hoc]; exact hT
  refine lv_iload_n hx hb dX9_endBlock_0 rfl (lv_at hl 1 rfl) ?_
  refine lv_istore_n (lv' := [(2, .int (nI j0)), (0, .ref tb), (1, .int (nI j0))]) hx hb dX9_endBlock_1 rfl hl (by decide) rfl (fun ls hl => ?_)
  refine lv_iconst (v := nI 0) hx hb dX9_endBlock_2 (by decide) ?_
  refine lv_istore_n (lv' := [(3, .int (nI 0)), (2, .int (nI j0)), (0, .ref tb), (1, .int (nI j0))]) hx hb dX9_endBlock_3 rfl hl (by decide) rfl (fun ls hl => ?_)
  refine mh_loop (σ := List PIt × Nat × Nat × Nat × (Nat → Nat) × Nat × (Nat → Int32) × (Nat → Int32) × (Nat → Int32)) (fun xx9 H locs ls => match xx9 with | (Li, ji, wi, hi, ci, k9, fii, wdi, hti) => OpS tc fii la nx di wdi hti op Li ji ∧ NxS nx Li ∧ ItsOk Li ∧ Den tc fii nx di wdi hti (60 - ji) ji i2 (wi, hi, ci) ∧ nx ji = -9 ∧ k9 + Li.length = L0.length ∧ endS Li (wi, hi, ci) ji = endS L0 (w0, h0, c0) j0 ∧ TxAt g tb tx ln wdi hti fii la nx di op (nI Li.length) wh H ∧ va_S (ftA (fun q9 => tb ≤ q9 ∧ q9 < tb + 9) H0.size) H0 H locs ∧ lv_has ls 5 [(0, .ref tb), (2, .int (nI ji)), (3, .int (nI k9))]) (fun xx9 => match xx9 with | (Li, ji, wi, hi, ci, k9, fii, wdi, hti) => Li.length) ?_ (L0, j0, w0, h0, c0, 0, fi, wd, ht) ⟨(hO), (hN), (hI), (hDn), (hnx), (by omega), (rfl), hT, hS, lv_sub hl [2, 1, 0] rfl⟩
  rintro ⟨Li, ji, wi, hi, ci, k9, fii, wdi, hti⟩ H locs ls ⟨hOi, hNi, hIi, hDi, hni, hki, hEi, hT, hS, hl⟩ ih
  have ih4 := ih
  obtain ⟨d1, d2, d3, d4, d5⟩ := hDi.lt
  rcases Li with _ | ⟨⟨s1, p1, w1, h1, c1⟩, rest⟩
  · skip
    have hT : TxAt g tb tx ln wdi hti fii la nx di op (nI 0) wh H := hT
    have hk9 : k9 + 0 = L0.length := hki
    refine lv_iload_n hx hb dX9_endBlock_4 rfl (lv_at hl 2 rfl) ?_
    refine lv_bipush (v := nI 60) hx hb dX9_endBlock_5 (by decide) ?_
    refine mn_icmp_ge (tgt := 86) hB dX9_endBlock_7 (by decide) (by omega) (by omega) (fun h => by exfalso; omega) (fun h_7 => ?_)
    refine lv_aload_n hx hb dX9_endBlock_10 rfl (lv_at hl 0 rfl) ?_
    refine cl_X9_95 (As := []) (rest := []) hB (c_X9_innermost_n l g H tb tx ln wdi hti fii la nx di op (nI 0) wh hT (rfl)) hT.1 rfl hl.1 (Nat.le_of_ble_eq_true rfl) dX9_endBlock_11 ⟨Nat.le_of_ble_eq_true rfl, Nat.le_of_ble_eq_true rfl⟩ ⟨Nat.le_of_ble_eq_true rfl, Nat.le_of_ble_eq_true rfl⟩ hS (by have hz9 := hS.1; rintro q (h | h) <;> first | exact Or.inr (by omega) | exact h.elim | exact Or.inl h | (simp only [ftA] at h ⊢; omega)) (fun v H1 locs hpo hfr hS => ?_)
    obtain ⟨rfl, rfl⟩ := hpo
    refine W.widen (k := 0) (n := 0) (Nat.le_of_ble_eq_true rfl) (Nat.le_of_ble_eq_true rfl) ?_
    refine lv_istore (lv' := [(4, .int (-9)), (0, .ref tb), (2, .int (nI ji)), (3, .int (nI k9))]) hx hb dX9_endBlock_14 hl (by decide) rfl (fun ls hl => ?_)
    refine lv_iload hx hb dX9_endBlock_16 (lv_at hl 0 rfl) ?_
    refine lv_bipush (v := (-9)) hx hb dX9_endBlock_18 (by decide) ?_
    refine lv_icmp_ne (tgt := 31) hx hb dX9_endBlock_20 (by decide) (fun h => absurd rfl h) (fun h_20 => ?_)
    refine lv_aload_n hx hb dX9_endBlock_23 rfl (lv_at hl 1 rfl) ?_
    refine lv_iload_n hx hb dX9_endBlock_24 rfl (lv_at hl 2 rfl) ?_
    refine pf_X9_36 hB hT.1 (by first | exact Or.inl rfl | (simp only [ftA]; omega) | (simp [ftA]; omega)) hS rfl rfl (Nat.le_of_ble_eq_true rfl) dX9_endBlock_25 (fun H locs hwr => ?_)
    obtain ⟨hT, hS⟩ := hT.w_wh hwr
    refine lv_bipush (v := (-9)) hx hb dX9_endBlock_28 (by decide) ?_
    refine mh_iret hB ⟨Nat.le_of_ble_eq_true rfl, Nat.le_of_ble_eq_true rfl⟩ hS dX9_endBlock_30 ⟨?_, fii, la, nx, di, wdi, hti, (nI 0), (nI ji), ?_, ?_⟩
    · rw [← hEi]; rfl
    · exact hT
    · rw [← hEi]
      exact ⟨ji, by omega, rfl, hDi⟩
  · skip
    have hT : TxAt g tb tx ln wdi hti fii la nx di op (nI (rest.length + 1)) wh H := hT
    have hk9 : k9 + (rest.length + 1) = L0.length := hki
    obtain ⟨a1, a2, a3⟩ := hOi
    have a4 := a2
    obtain ⟨o1, o2, o3, o4, o5, o6⟩ := a4
    dsimp only at a1 o1 o2 o3 o4 o5 o6
    have hIt := hIi.1
    have hq1 := hIt.1
    dsimp only at hq1
    have hp60 : p1 < 60 := hIt.2.1
    have htp := htc p1 (by omega)
    rw [o1] at htp
    refine lv_iload_n hx hb dX9_endBlock_4 rfl (lv_at hl 2 rfl) ?_
    refine lv_bipush (v := nI 60) hx hb dX9_endBlock_5 (by decide) ?_
    refine mn_icmp_ge (tgt := 86) hB dX9_endBlock_7 (by decide) (by omega) (by omega) (fun h => by exfalso; omega) (fun h_7 => ?_)
    refine lv_aload_n hx hb dX9_endBlock_10 rfl (lv_at hl 0 rfl) ?_
    refine cl_X9_95 (As := []) (rest := []) hB (c_X9_innermost l g H tb tx ln wdi hti fii la nx di op (nI (rest.length + 1)) wh rest.length p1 hT (rfl) (by omega) (a1)) hT.1 rfl hl.1 (Nat.le_of_ble_eq_true rfl) dX9_endBlock_11 ⟨Nat.le_of_ble_eq_true rfl, Nat.le_of_ble_eq_true rfl⟩ ⟨Nat.le_of_ble_eq_true rfl, Nat.le_of_ble_eq_true rfl⟩ hS (by have hz9 := hS.1; rintro q (h | h) <;> first | exact Or.inr (by omega) | exact h.elim | exact Or.inl h | (simp only [ftA] at h ⊢; omega)) (fun v H1 locs hpo hfr hS => ?_)
    obtain ⟨rfl, rfl⟩ := hpo
    refine W.widen (k := 0) (n := 0) (Nat.le_of_ble_eq_true rfl) (Nat.le_of_ble_eq_true rfl) ?_
    refine lv_istore (lv' := [(4, .int (nI p1)), (0, .ref tb), (2, .int (nI ji)), (3, .int (nI k9))]) hx hb dX9_endBlock_14 hl (by decide) rfl (fun ls hl => ?_)
    refine lv_iload hx hb dX9_endBlock_16 (lv_at hl 0 rfl) ?_
    refine lv_bipush (v := (-9)) hx hb dX9_endBlock_18 (by decide) ?_
    refine lv_icmp_ne (tgt := 31) hx hb dX9_endBlock_20 (by decide) (fun h_20 => ?_) (fun h => absurd h (nI_ne9 hp60))
    refine lv_aload_n hx hb dX9_endBlock_31 rfl (lv_at hl 1 rfl) ?_
    refine gf_X9_9 hB hT.1 rfl dX9_endBlock_32 ?_
    refine lv_iload hx hb dX9_endBlock_35 (lv_at hl 0 rfl) ?_
    refine cl_X9_56 (As := [.ref (tb + 1), .int (nI p1)]) (rest := []) hB (c_X6_at l g H (tb + 1) 60 tx p1 hT.a_tx (hp60) (by first | assumption | omega)) rfl hl.1 (Nat.le_of_ble_eq_true rfl) dX9_endBlock_37 ⟨Nat.le_of_ble_eq_true rfl, Nat.le_of_ble_eq_true rfl⟩ ⟨Nat.le_of_ble_eq_true rfl, Nat.le_of_ble_eq_true rfl⟩ hS (by have hz9 := hS.1; rintro q (h | h) <;> first | exact Or.inr (by omega) | exact h.elim | exact Or.inl h | (simp only [ftA] at h ⊢; omega)) (fun v H1 locs hpo hfr hS => ?_)
    obtain ⟨rfl, rfl⟩ := hpo
    refine W.widen (k := 0) (n := 0) (Nat.le_of_ble_eq_true rfl) (Nat.le_of_ble_eq_true rfl) ?_
    refine mh_top (y := .int (nI s1)) (by rw [htp.1]) ?_
    refine cl_X9_76 (As := [.int (nI s1)]) (rest := []) hB (c_X9_isOpening l g H s1 (by omega)) rfl hl.1 (Nat.le_of_ble_eq_true rfl) dX9_endBlock_40 ⟨Nat.le_of_ble_eq_true rfl, Nat.le_of_ble_eq_true rfl⟩ ⟨Nat.le_of_ble_eq_true rfl, Nat.le_of_ble_eq_true rfl⟩ hS (by have hz9 := hS.1; rintro q (h | h) <;> first | exact Or.inr (by omega) | exact h.elim | exact Or.inl h | (simp only [ftA] at h ⊢; omega)) (fun v H1 locs hpo hfr hS => ?_)
    obtain ⟨rfl, rfl⟩ := hpo
    refine W.widen (k := 0) (n := 0) (Nat.le_of_ble_eq_true rfl) (Nat.le_of_ble_eq_true rfl) ?_
    refine mb_if_eq (tgt := 54) hB dX9_endBlock_43 (by decide) (fun h_43 => ?_) (fun h_43 => ?_)
    · skip
      have h43 := of_decide_eq_false h_43
      have hbf : befS s1 = true := decide_eq_true (by omega)
      rcases hb2 : applS s1 (wi, hi, ci) with _ | b2
      · skip
        refine lv_aload_n hx hb dX9_endBlock_54 rfl (lv_at hl 1 rfl) ?_
        refine lv_iload hx hb dX9_endBlock_55 (lv_at hl 0 rfl) ?_
        refine lv_iload_n hx hb dX9_endBlock_57 rfl (lv_at hl 2 rfl) ?_
        refine cl_X9_102 (As := [.int (nI p1), .int (nI ji)]) (rest := []) hB (c_X9_applyPrefix_n l g H tb tx ln wdi hti fii la nx di op (nI (rest.length + 1)) wh p1 ji s1 wi hi ci hT (hp60) (by omega) (htp.1) (d3) (d4) (d5.2.1) (d5.2.2.2.1) (by omega) (hb2)) hT.1 rfl hl.1 (Nat.le_of_ble_eq_true rfl) dX9_endBlock_58 ⟨Nat.le_of_ble_eq_true rfl, Nat.le_of_ble_eq_true rfl⟩ ⟨Nat.le_of_ble_eq_true rfl, Nat.le_of_ble_eq_true rfl⟩ hS (by have hz9 := hS.1; rintro q (h | h) <;> first | exact Or.inr (by omega) | exact h.elim | exact Or.inl h | (simp only [ftA] at h ⊢; omega)) (fun v H1 locs hpo hfr hS => ?_)
        obtain ⟨rfl, hT⟩ := hpo
        generalize H1 = H at hfr hS hT ⊢
        refine W.widen (k := 0) (n := 0) (Nat.le_of_ble_eq_true rfl) (Nat.le_of_ble_eq_true rfl) ?_
        refine mn_if_ne (tgt := 67) hB dX9_endBlock_61 (by decide) (by omega) (fun h => by exfalso; omega) (fun h_61 => ?_)
        refine lv_iload hx hb dX9_endBlock_64 (lv_at hl 0 rfl) ?_
        refine mh_iret hB ⟨Nat.le_of_ble_eq_true rfl, Nat.le_of_ble_eq_true rfl⟩ hS dX9_endBlock_66 ⟨?_, (upd fii p1 (nI ji)), la, nx, di, wdi, hti, (nI (rest.length + 1)), wh, ?_, ?_⟩
        · rw [← hEi, endS_bad (it := (s1, p1, w1, h1, c1)) hbf hb2]; rfl
        · exact hT
        · rw [← hEi, endS_bad (it := (s1, p1, w1, h1, c1)) hbf hb2]
          exact trivial
      · skip
        refine lv_aload_n hx hb dX9_endBlock_54 rfl (lv_at hl 1 rfl) ?_
        refine lv_iload hx hb dX9_endBlock_55 (lv_at hl 0 rfl) ?_
        refine lv_iload_n hx hb dX9_endBlock_57 rfl (lv_at hl 2 rfl) ?_
        refine cl_X9_102 (As := [.int (nI p1), .int (nI ji)]) (rest := []) hB (c_X9_applyPrefix l g H tb tx ln wdi hti fii la nx di op (nI (rest.length + 1)) wh p1 ji s1 wi hi ci b2 hT (hp60) (by omega) (htp.1) (d3) (d4) (d5.2.1) (d5.2.2.2.1) (by omega) (hb2)) hT.1 rfl hl.1 (Nat.le_of_ble_eq_true rfl) dX9_endBlock_58 ⟨Nat.le_of_ble_eq_true rfl, Nat.le_of_ble_eq_true rfl⟩ ⟨Nat.le_of_ble_eq_true rfl, Nat.le_of_ble_eq_true rfl⟩ hS (by have hz9 := hS.1; rintro q (h | h) <;> first | exact Or.inr (by omega) | exact h.elim | exact Or.inl h | (simp only [ftA] at h ⊢; omega)) (fun v H1 locs hpo hfr hS => ?_)
        obtain ⟨rfl, hT⟩ := hpo
        generalize H1 = H at hfr hS hT ⊢
        refine W.widen (k := 0) (n := 0) (Nat.le_of_ble_eq_true rfl) (Nat.le_of_ble_eq_true rfl) ?_
        refine mn_if_ne (tgt := 67) hB dX9_endBlock_61 (by decide) (by omega) (fun h_61 => ?_) (fun h => by exfalso; omega)
        refine lv_aload_n hx hb dX9_endBlock_67 rfl (lv_at hl 1 rfl) ?_
        refine lv_dup hx hb dX9_endBlock_68 rfl ?_
        refine gf_X9_49 hB hT.1 rfl dX9_endBlock_69 ?_
        refine lv_iconst (v := nI 1) hx hb dX9_endBlock_72 (by decide) ?_
        refine mn_isub hB dX9_endBlock_73 (by omega) ?_
        refine mh_top (y := .int (nI rest.length)) (by rw [Nat.add_sub_cancel]) ?_
        refine pf_X9_49 hB hT.1 (by first | exact Or.inl rfl | (simp only [ftA]; omega) | (simp [ftA]; omega)) hS rfl rfl (Nat.le_of_ble_eq_true rfl) dX9_endBlock_74 (fun H locs hwr => ?_)
        obtain ⟨hT, hS⟩ := hT.w_oc hwr
        have hOn : OpS tc (upd fii p1 (nI ji)) la nx di (upd wdi p1 (nI b2.1)) (upd hti p1 (nI b2.2.1)) op rest p1 := a3.congr (Nat.le_refl _) (by omega) (fun j (x1 : j < p1) => ⟨upd_n (by omega), upd_n (by omega), upd_n (by omega), rfl, rfl, rfl⟩) (fun _ _ => rfl)
        have hDn1 : Den tc (upd fii p1 (nI ji)) nx di (upd wdi p1 (nI b2.1)) (upd hti p1 (nI b2.2.1)) (60 - ji) ji i2 (wi, hi, ci) := hDi.congr (fun j x1 x2 => ⟨upd_n (by omega), upd_n (by omega), upd_n (by omega)⟩) (fun j x1 x2 => ⟨rfl, rfl⟩)
        have hDn2 : Den tc (upd fii p1 (nI ji)) nx di (upd wdi p1 (nI b2.1)) (upd hti p1 (nI b2.2.1)) (60 - p1) p1 i2 b2 := Den.pre (by rw [o1]; omega) (upd_s (α := Nat)) (by omega) hDn1 (by rw [o1]; exact hb2) (upd_s (α := Nat)) (upd_s (α := Nat))
        refine lv_iload hx hb dX9_endBlock_77 (lv_at hl 0 rfl) ?_
        refine lv_istore_n (lv' := [(2, .int (nI p1)), (4, .int (nI p1)), (0, .ref tb), (3, .int (nI k9))]) hx hb dX9_endBlock_79 rfl hl (by decide) rfl (fun ls hl => ?_)
        refine lv_iinc (v := nI (k9 + 1)) (lv' := [(3, .int (nI (k9 + 1))), (2, .int (nI p1)), (4, .int (nI p1)), (0, .ref tb)]) hx hb dX9_endBlock_80 hl (k := 3) rfl (nI_1 _) (by decide) rfl (fun ls hl => ?_)
        refine lv_goto (tgt := 4) hx hb dX9_endBlock_83 (by decide) ?_
        refine ih4 (rest, p1, b2.1, b2.2.1, b2.2.2, k9 + 1, (upd fii p1 (nI ji)), (upd wdi p1 (nI b2.1)), (upd hti p1 (nI b2.2.1))) _ _ _ ⟨(hOn), (hNi.2), (hIi.2), (hDn2), (hNi.1), (by have h9 : k9 + (rest.length + 1) = L0.length := hki; omega), ((endS_app (rest := rest) (it := (s1, p1, w1, h1, c1)) hbf hb2).symm.trans hEi), hT, hS, lv_sub hl [3, 1, 0] rfl⟩ (by dsimp only [List.length_cons]; omega)
    · skip
      have h43 := of_decide_eq_true h_43
      have hbf : befS s1 = false := decide_eq_false (by omega)
      by_cases hfi : fii p1 = -9
      · skip
        have hz1 : w1 = 0 ∧ h1 = 0 := by
          rcases o6 with y | y
          · exact y.2
          · obtain ⟨_, _, f0, l0, y1, _, y2, y3, y4, _⟩ := y
            exact absurd (y1.symm.trans hfi) (nI_ne9 (by omega))
        refine lv_aload_n hx hb dX9_endBlock_46 rfl (lv_at hl 1 rfl) ?_
        rcases hj2 : joinS (s1, p1, w1, h1, c1) (wi, hi, ci) with _ | it2
        · skip
          refine lv_iload_n hx hb dX9_endBlock_47 rfl (lv_at hl 2 rfl) ?_
          refine lv_iload hx hb dX9_endBlock_48 (lv_at hl 0 rfl) ?_
          refine cl_X9_99 (As := [.int (nI ji), .int (nI p1)]) (rest := []) hB (c_X9_putInside_nf l g H tb tx ln wdi hti fii la nx di op (nI (rest.length + 1)) wh ji p1 s1 p1 w1 h1 c1 wi hi ci hT (hp60) (by omega) (htp.1) (by omega) (o4) (o5) (d3) (d4) (hIt.2.2.1) (hIt.2.2.2.1) (d5.2.1) (d5.2.2.2.1) (hfi) (hz1) (hj2)) hT.1 rfl hl.1 (Nat.le_of_ble_eq_true rfl) dX9_endBlock_50 ⟨Nat.le_of_ble_eq_true rfl, Nat.le_of_ble_eq_true rfl⟩ ⟨Nat.le_of_ble_eq_true rfl, Nat.le_of_ble_eq_true rfl⟩ hS (by have hz9 := hS.1; rintro q (h | h) <;> first | exact Or.inr (by omega) | exact h.elim | exact Or.inl h | (simp only [ftA] at h ⊢; omega)) (fun v H1 locs hpo hfr hS => ?_)
          obtain ⟨rfl, rfl⟩ := hpo
          refine W.widen (k := 0) (n := 0) (Nat.le_of_ble_eq_true rfl) (Nat.le_of_ble_eq_true rfl) ?_
          refine mh_iret hB ⟨Nat.le_of_ble_eq_true rfl, Nat.le_of_ble_eq_true rfl⟩ hS dX9_endBlock_53 ⟨?_, fii, la, nx, di, wdi, hti, (nI (rest.length + 1)), wh, ?_, ?_⟩
          · rw [← hEi, endS_joN (it := (s1, p1, w1, h1, c1)) hbf hj2]; rfl
          · exact hT
          · rw [← hEi, endS_joN (it := (s1, p1, w1, h1, c1)) hbf hj2]
            exact trivial
        · skip
          refine lv_iload_n hx hb dX9_endBlock_47 rfl (lv_at hl 2 rfl) ?_
          refine lv_iload hx hb dX9_endBlock_48 (lv_at hl 0 rfl) ?_
          refine cl_X9_99 (As := [.int (nI ji), .int (nI p1)]) (rest := []) hB (c_X9_putInside_sf l g H tb tx ln wdi hti fii la nx di op (nI (rest.length + 1)) wh ji p1 s1 p1 w1 h1 c1 wi hi ci it2 hT (hp60) (by omega) (htp.1) (by omega) (o4) (o5) (d3) (d4) (hIt.2.2.1) (hIt.2.2.2.1) (d5.2.1) (d5.2.2.2.1) (hfi) (hz1) (hj2)) hT.1 rfl hl.1 (Nat.le_of_ble_eq_true rfl) dX9_endBlock_50 ⟨Nat.le_of_ble_eq_true rfl, Nat.le_of_ble_eq_true rfl⟩ ⟨Nat.le_of_ble_eq_true rfl, Nat.le_of_ble_eq_true rfl⟩ hS (by have hz9 := hS.1; rintro q (h | h) <;> first | exact Or.inr (by omega) | exact h.elim | exact Or.inl h | (simp only [ftA] at h ⊢; omega)) (fun v H1 locs hpo hfr hS => ?_)
          obtain ⟨rfl, hT⟩ := hpo
          generalize H1 = H at hfr hS hT ⊢
          refine W.widen (k := 0) (n := 0) (Nat.le_of_ble_eq_true rfl) (Nat.le_of_ble_eq_true rfl) ?_
          refine mh_iret hB ⟨Nat.le_of_ble_eq_true rfl, Nat.le_of_ble_eq_true rfl⟩ hS dX9_endBlock_53 ⟨?_, (upd fii p1 (nI ji)), (upd la p1 (nI ji)), nx, (upd di ji (nI (if s1 = 40 then w1 else h1))), (upd wdi p1 (nI it2.2.2.1)), (upd hti p1 (nI it2.2.2.2.1)), (nI (rest.length + 1)), wh, ?_, ?_⟩
          · rw [← hEi, endS_joS (it := (s1, p1, w1, h1, c1)) hbf hj2]; rfl
          · exact hT
          · rw [← hEi, endS_joS (it := (s1, p1, w1, h1, c1)) hbf hj2]
            obtain ⟨k1, k2, k3, k4⟩ := joinS_ok hIt d5 hj2
            dsimp only at k2 k3
            refine ⟨hwh, rfl, ⟨by rw [k3]; exact a1, ?_, ?_⟩, ?_⟩
            · have hF := a2.first hfi (by dsimp only; omega) (Nat.le_refl ji) hDi hni hj2
              dsimp only at hF
              rw [hz1.1, hz1.2, show (if s1 = 40 then 0 else 0) = 0 from by split <;> rfl]
              exact hF
            · rw [k3]; exact a3.congr (Nat.le_refl _) (by omega) (fun j (x1 : j < p1) => ⟨upd_n (by omega), upd_n (by omega), upd_n (by omega), upd_n (by omega), rfl, upd_n (by omega)⟩) (fun _ _ => rfl)
            · exact ⟨by rw [k3]; exact hNi.1, hNi.2⟩
      · skip
        obtain ⟨hsg, hwp, f0, l0, y1, y2, y3, y4, y5, y6, y7, y8⟩ := o6.resolve_left (fun y => hfi y.1)
        refine lv_aload_n hx hb dX9_endBlock_46 rfl (lv_at hl 1 rfl) ?_
        rcases hj2 : joinS (s1, p1, w1, h1, c1) (wi, hi, ci) with _ | it2
        · skip
          refine lv_iload_n hx hb dX9_endBlock_47 rfl (lv_at hl 2 rfl) ?_
          refine lv_iload hx hb dX9_endBlock_48 (lv_at hl 0 rfl) ?_
          refine cl_X9_99 (As := [.int (nI ji), .int (nI p1)]) (rest := []) hB (c_X9_putInside_nx l g H tb tx ln wdi hti fii la nx di op (nI (rest.length + 1)) wh ji p1 s1 p1 w1 h1 c1 wi hi ci f0 hT (hp60) (by omega) (htp.1) (by omega) (o4) (o5) (d3) (d4) (hIt.2.2.1) (hIt.2.2.2.1) (d5.2.1) (d5.2.2.2.1) (y1) (by omega) (hj2)) hT.1 rfl hl.1 (Nat.le_of_ble_eq_true rfl) dX9_endBlock_50 ⟨Nat.le_of_ble_eq_true rfl, Nat.le_of_ble_eq_true rfl⟩ ⟨Nat.le_of_ble_eq_true rfl, Nat.le_of_ble_eq_true rfl⟩ hS (by have hz9 := hS.1; rintro q (h | h) <;> first | exact Or.inr (by omega) | exact h.elim | exact Or.inl h | (simp only [ftA] at h ⊢; omega)) (fun v H1 locs hpo hfr hS => ?_)
          obtain ⟨rfl, rfl⟩ := hpo
          refine W.widen (k := 0) (n := 0) (Nat.le_of_ble_eq_true rfl) (Nat.le_of_ble_eq_true rfl) ?_
          refine mh_iret hB ⟨Nat.le_of_ble_eq_true rfl, Nat.le_of_ble_eq_true rfl⟩ hS dX9_endBlock_53 ⟨?_, fii, la, nx, di, wdi, hti, (nI (rest.length + 1)), wh, ?_, ?_⟩
          · rw [← hEi, endS_joN (it := (s1, p1, w1, h1, c1)) hbf hj2]; rfl
          · exact hT
          · rw [← hEi, endS_joN (it := (s1, p1, w1, h1, c1)) hbf hj2]
            exact trivial
        · skip
          refine lv_iload_n hx hb dX9_endBlock_47 rfl (lv_at hl 2 rfl) ?_
          refine lv_iload hx hb dX9_endBlock_48 (lv_at hl 0 rfl) ?_
          refine cl_X9_99 (As := [.int (nI ji), .int (nI p1)]) (rest := []) hB (c_X9_putInside_sx l g H tb tx ln wdi hti fii la nx di op (nI (rest.length + 1)) wh ji p1 s1 p1 w1 h1 c1 wi hi ci f0 l0 it2 hT (hp60) (by omega) (htp.1) (by omega) (o4) (o5) (d3) (d4) (hIt.2.2.1) (hIt.2.2.2.1) (d5.2.1) (d5.2.2.2.1) (y1) (by omega) (hwp) (y2) (by omega) (hj2)) hT.1 rfl hl.1 (Nat.le_of_ble_eq_true rfl) dX9_endBlock_50 ⟨Nat.le_of_ble_eq_true rfl, Nat.le_of_ble_eq_true rfl⟩ ⟨Nat.le_of_ble_eq_true rfl, Nat.le_of_ble_eq_true rfl⟩ hS (by have hz9 := hS.1; rintro q (h | h) <;> first | exact Or.inr (by omega) | exact h.elim | exact Or.inl h | (simp only [ftA] at h ⊢; omega)) (fun v H1 locs hpo hfr hS => ?_)
          obtain ⟨rfl, hT⟩ := hpo
          generalize H1 = H at hfr hS hT ⊢
          refine W.widen (k := 0) (n := 0) (Nat.le_of_ble_eq_true rfl) (Nat.le_of_ble_eq_true rfl) ?_
          refine mh_iret hB ⟨Nat.le_of_ble_eq_true rfl, Nat.le_of_ble_eq_true rfl⟩ hS dX9_endBlock_53 ⟨?_, fii, (upd la p1 (nI ji)), (upd nx l0 (nI ji)), (upd di ji (nI (if s1 = 40 then w1 else h1))), (upd wdi p1 (nI it2.2.2.1)), (upd hti p1 (nI it2.2.2.2.1)), (nI (rest.length + 1)), wh, ?_, ?_⟩
          · rw [← hEi, endS_joS (it := (s1, p1, w1, h1, c1)) hbf hj2]; rfl
          · exact hT
          · rw [← hEi, endS_joS (it := (s1, p1, w1, h1, c1)) hbf hj2]
            obtain ⟨k1, k2, k3, k4⟩ := joinS_ok hIt d5 hj2
            dsimp only at k2 k3
            refine ⟨hwh, rfl, ⟨by rw [k3]; exact a1, ?_, ?_⟩, ?_⟩
            · exact a2.next hfi y2 (by omega) (Nat.le_refl ji) hDi hni hj2
            · rw [k3]; exact a3.congr (Nat.le_refl _) (by omega) (fun j (x1 : j < p1) => ⟨upd_n (by omega), upd_n (by omega), rfl, upd_n (by omega), upd_n (by omega), upd_n (by omega)⟩) (fun _ _ => rfl)
            · exact ⟨by rw [k3]; exact (upd_n (by omega)).trans hNi.1, hNi.2.congr a3 (fun j (x1 : j < p1) => upd_n (by omega))⟩
