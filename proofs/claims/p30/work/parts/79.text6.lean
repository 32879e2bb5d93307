def rm_c_X9_read : Room := { frames := 4, cells := 0, slots := 0, locals := 99 }
set_option maxRecDepth 100000 in
set_option maxHeartbeats 400000 in
theorem c_X9_read (l : Launch) (g : GG) (H0 : Heap) (tb : Nat) (tx : Nat → Int32) (ln : Nat) (wd : Nat → Int32) (ht : Nat → Int32) (fi : Nat → Int32) (la : Nat → Int32) (nx : Nat → Int32) (di : Nat → Int32) (op : Nat → Int32) (oc : Int32) (wh : Int32) (tc : Nat → Nat) (L0 : List PIt) (i0 : Nat) (hT : TxAt g tb tx ln wd ht fi la nx di op oc wh H0) (htc : ∀ j, j < i0 + 1 → tx j = nI (tc j) ∧ tc j < 256) (hi : i0 < 60) (hoc : oc = nI L0.length) (hl60 : L0.length ≤ i0) (hO : OpS tc fi la nx di wd ht op L0 i0) (hN : NxS nx L0) (hI : ItsOk L0) (hwh : wh = -9) : Ct l yX9_read cX9_read 3 (some .int) rm_c_X9_read g [.ref tb, .int (nI i0)] H0 (ftA (fun q9 => tb ≤ q9 ∧ q9 < tb + 9) H0.size) (fun v H1 => v = some (.int (edV (stepS (tc i0) i0 L0))) ∧ ∃ (fi2 : Nat → Int32), ∃ (la2 : Nat → Int32), ∃ (nx2 : Nat → Int32), ∃ (di2 : Nat → Int32), ∃ (wd2 : Nat → Int32), ∃ (ht2 : Nat → Int32), ∃ (oc2 : Int32), ∃ (wh2 : Int32), ∃ (op2 : Nat → Int32), TxAt g tb tx ln wd2 ht2 fi2 la2 nx2 di2 op2 oc2 wh2 H1 ∧ EndC tc fi2 la2 nx2 di2 wd2 ht2 op2 (i0 + 1) oc2 wh2 (stepS (tc i0) i0 L0)) := by
  refine Ct.of (by decide) (fun _ h => Or.inr h) (Nat.le_of_ble_eq_true rfl) ?_
  intro p e s m below meth c ls hB hin hS hH hl
  have hx := hB.x
  have hb := hB.b
  have hl : lv_has ls 3 [(0, .ref tb), (1, .int (nI i0))] := hl
  have hc256 := (htc i0 (by omega)).2
  refine lv_aload_n hx hb dX9_read_0 rfl (lv_at hl 0 rfl) ?_
  refine gf_X9_9 hB hT.1 rfl dX9_read_1 ?_
  refine lv_iload_n hx hb dX9_read_4 rfl (lv_at hl 1 rfl) ?_
  refine cl_X9_56 (As := [.ref (tb + 1), .int (nI i0)]) (rest := []) hB (c_X6_at l g H0 (tb + 1) 60 tx i0 hT.a_tx (hi) (by first | assumption | omega)) rfl hl.1 (Nat.le_of_ble_eq_true rfl) dX9_read_5 ⟨Nat.le_of_ble_eq_true rfl, Nat.le_of_ble_eq_true rfl⟩ ⟨Nat.le_of_ble_eq_true rfl, Nat.le_of_ble_eq_true rfl⟩ hS (by have hz9 := hS.1; rintro q (h | h) <;> first | exact Or.inr (by omega) | exact h.elim | exact Or.inl h | (simp only [ftA] at h ⊢; omega)) (fun v H1 locs hpo hfr hS => ?_)
  obtain ⟨rfl, rfl⟩ := hpo
  refine W.widen (k := 0) (n := 0) (Nat.le_of_ble_eq_true rfl) (Nat.le_of_ble_eq_true rfl) ?_
  refine mh_top (y := .int (nI (tc i0))) (by rw [(htc i0 (by omega)).1]) ?_
  refine lv_istore_n (lv' := [(2, .int (nI (tc i0))), (0, .ref tb), (1, .int (nI i0))]) hx hb dX9_read_8 rfl hl (by decide) rfl (fun ls hl => ?_)
  refine lv_aload_n hx hb dX9_read_9 rfl (lv_at hl 1 rfl) ?_
  refine gf_X9_36 hB hT.1 rfl dX9_read_10 ?_
  refine mh_top (y := .int (-9)) (by rw [hwh]) ?_
  refine lv_bipush (v := (-9)) hx hb dX9_read_13 (by decide) ?_
  refine lv_icmp_eq (tgt := 20) hx hb dX9_read_15 (by decide) (fun h_15 => ?_) (fun h => absurd rfl h)
  refine lv_iload_n hx hb dX9_read_20 rfl (lv_at hl 0 rfl) ?_
  refine cl_X9_69 (As := [.int (nI (tc i0))]) (rest := []) hB (c_X9_isColour l g H0 (tc i0) (hc256)) rfl hl.1 (Nat.le_of_ble_eq_true rfl) dX9_read_21 ⟨Nat.le_of_ble_eq_true rfl, Nat.le_of_ble_eq_true rfl⟩ ⟨Nat.le_of_ble_eq_true rfl, Nat.le_of_ble_eq_true rfl⟩ hS (by have hz9 := hS.1; rintro q (h | h) <;> first | exact Or.inr (by omega) | exact h.elim | exact Or.inl h | (simp only [ftA] at h ⊢; omega)) (fun v H1 locs hpo hfr hS => ?_)
  obtain ⟨rfl, rfl⟩ := hpo
  refine W.widen (k := 0) (n := 0) (Nat.le_of_ble_eq_true rfl) (Nat.le_of_ble_eq_true rfl) ?_
  refine mb_if_eq (tgt := 33) hB dX9_read_24 (by decide) (fun h_24 => ?_) (fun h_24 => ?_)
  · skip
    have h24 : ¬ (97 ≤ tc i0 ∧ tc i0 ≤ 102) := of_decide_eq_false h_24
    refine lv_iload_n hx hb dX9_read_33 rfl (lv_at hl 0 rfl) ?_
    refine cl_X9_76 (As := [.int (nI (tc i0))]) (rest := []) hB (c_X9_isOpening l g H0 (tc i0) (hc256)) rfl hl.1 (Nat.le_of_ble_eq_true rfl) dX9_read_34 ⟨Nat.le_of_ble_eq_true rfl, Nat.le_of_ble_eq_true rfl⟩ ⟨Nat.le_of_ble_eq_true rfl, Nat.le_of_ble_eq_true rfl⟩ hS (by have hz9 := hS.1; rintro q (h | h) <;> first | exact Or.inr (by omega) | exact h.elim | exact Or.inl h | (simp only [ftA] at h ⊢; omega)) (fun v H1 locs hpo hfr hS => ?_)
    obtain ⟨rfl, rfl⟩ := hpo
    refine W.widen (k := 0) (n := 0) (Nat.le_of_ble_eq_true rfl) (Nat.le_of_ble_eq_true rfl) ?_
    refine mb_if_ne (tgt := 47) hB dX9_read_37 (by decide) (fun h_37 => ?_) (fun h_37 => ?_)
    · skip
      have h37 := of_decide_eq_true h_37
      have hop : opnS (tc i0) = true := decide_eq_true (by omega)
      refine lv_aload_n hx hb dX9_read_47 rfl (lv_at hl 1 rfl) ?_
      refine lv_iload_n hx hb dX9_read_48 rfl (lv_at hl 2 rfl) ?_
      refine cl_X9_82 (As := [.int (nI i0)]) (rest := []) hB (c_X9_openBlock l g H0 tb tx ln wd ht fi la nx di op oc wh L0.length i0 hT (hoc) (by omega) (hi)) hT.1 rfl hl.1 (Nat.le_of_ble_eq_true rfl) dX9_read_49 ⟨Nat.le_of_ble_eq_true rfl, Nat.le_of_ble_eq_true rfl⟩ ⟨Nat.le_of_ble_eq_true rfl, Nat.le_of_ble_eq_true rfl⟩ hS (by have hz9 := hS.1; rintro q (h | h) <;> first | exact Or.inr (by omega) | exact h.elim | exact Or.inl h | (simp only [ftA] at h ⊢; omega)) (fun v H1 locs hpo hfr hS => ?_)
      obtain ⟨rfl, hT⟩ := hpo
      generalize H1 = H at hfr hS hT ⊢
      refine W.widen (k := 0) (n := 0) (Nat.le_of_ble_eq_true rfl) (Nat.le_of_ble_eq_true rfl) ?_
      refine mh_iret hB ⟨Nat.le_of_ble_eq_true rfl, Nat.le_of_ble_eq_true rfl⟩ hS dX9_read_52 ⟨?_, (upd fi i0 (-9)), (upd la i0 (-9)), (upd nx i0 (-9)), di, (upd wd i0 (nI 0)), (upd ht i0 (nI 0)), (nI (L0.length + 1)), wh, (upd op L0.length (nI i0)), ?_, ?_⟩
      · rw [stepS_opn h24 hop]; rfl
      · exact hT
      · rw [stepS_opn h24 hop]
        exact ⟨hwh, rfl, ⟨upd_s (α := Nat), OpI.push hi rfl (upd_s (α := Nat)) (upd_s (α := Nat)) (upd_s (α := Nat)), hO.congr (Nat.le_refl _) (by dsimp only; omega) (fun j (x1 : j < i0) => ⟨upd_n (by omega), upd_n (by omega), upd_n (by omega), upd_n (by omega), upd_n (by omega), rfl⟩) (fun k hk => upd_n (by omega))⟩, upd_s (α := Nat), hN.congr hO (fun j x1 => upd_n (by omega))⟩
    · skip
      have h37 := of_decide_eq_false h_37
      refine lv_iload_n hx hb dX9_read_40 rfl (lv_at hl 0 rfl) ?_
      refine cl_X9_79 (As := [.int (nI (tc i0))]) (rest := []) hB (c_X9_isPrefix l g H0 (tc i0) (hc256)) rfl hl.1 (Nat.le_of_ble_eq_true rfl) dX9_read_41 ⟨Nat.le_of_ble_eq_true rfl, Nat.le_of_ble_eq_true rfl⟩ ⟨Nat.le_of_ble_eq_true rfl, Nat.le_of_ble_eq_true rfl⟩ hS (by have hz9 := hS.1; rintro q (h | h) <;> first | exact Or.inr (by omega) | exact h.elim | exact Or.inl h | (simp only [ftA] at h ⊢; omega)) (fun v H1 locs hpo hfr hS => ?_)
      obtain ⟨rfl, rfl⟩ := hpo
      refine W.widen (k := 0) (n := 0) (Nat.le_of_ble_eq_true rfl) (Nat.le_of_ble_eq_true rfl) ?_
      refine mb_if_eq (tgt := 53) hB dX9_read_44 (by decide) (fun h_44 => ?_) (fun h_44 => ?_)
      · skip
        have h44 := of_decide_eq_false h_44
        refine lv_iload_n hx hb dX9_read_53 rfl (lv_at hl 0 rfl) ?_
        refine lv_bipush (v := nI 41) hx hb dX9_read_54 (by decide) ?_
        refine mn_icmp_eq (tgt := 65) hB dX9_read_56 (by decide) (by omega) (by omega) (fun h_56 => ?_) (fun h_56 => ?_)
        · skip
          refine lv_aload_n hx hb dX9_read_65 rfl (lv_at hl 1 rfl) ?_
          refine lv_iload_n hx hb dX9_read_66 rfl (lv_at hl 2 rfl) ?_
          refine lv_iload_n hx hb dX9_read_67 rfl (lv_at hl 0 rfl) ?_
          refine lv_bipush (v := nI 41) hx hb dX9_read_68 (by decide) ?_
          refine mn_icmp_ne (tgt := 78) hB dX9_read_70 (by decide) (by omega) (by omega) (fun h_70 => ?_) (fun h_70 => ?_)
          · skip
            refine lv_bipush (v := nI 91) hx hb dX9_read_78 (by decide) ?_
            have hop9 : opnS (tc i0) = false := decide_eq_false (by omega)
            rcases L0 with _ | ⟨⟨s1, p1, w1, h1, c1⟩, rest⟩
            · skip
              refine cl_X9_85 (As := [.int (nI i0), .int (nI 91)]) (rest := []) hB (c_X9_closeBlock_n0 l g H0 tb tx ln wd ht fi la nx di op oc wh i0 91 hT (hoc)) hT.1 rfl hl.1 (Nat.le_of_ble_eq_true rfl) dX9_read_80 ⟨Nat.le_of_ble_eq_true rfl, Nat.le_of_ble_eq_true rfl⟩ ⟨Nat.le_of_ble_eq_true rfl, Nat.le_of_ble_eq_true rfl⟩ hS (by have hz9 := hS.1; rintro q (h | h) <;> first | exact Or.inr (by omega) | exact h.elim | exact Or.inl h | (simp only [ftA] at h ⊢; omega)) (fun v H1 locs hpo hfr hS => ?_)
              obtain ⟨rfl, rfl⟩ := hpo
              refine W.widen (k := 0) (n := 0) (Nat.le_of_ble_eq_true rfl) (Nat.le_of_ble_eq_true rfl) ?_
              refine lv_goto (tgt := 87) hx hb dX9_read_83 (by decide) ?_
              refine mh_iret hB ⟨Nat.le_of_ble_eq_true rfl, Nat.le_of_ble_eq_true rfl⟩ hS dX9_read_87 ⟨?_, fi, la, nx, di, wd, ht, oc, wh, op, ?_, ?_⟩
              · rw [stepS_nil h24 hop9]; rfl
              · exact hT
              · rw [stepS_nil h24 hop9]
                exact trivial
            · skip
              by_cases hfit : 0 < w1 ∧ s1 = 91
              · skip
                obtain ⟨f0, hf0, hf6⟩ : ∃ f0, fi p1 = nI f0 ∧ f0 < 60 := by
                  obtain ⟨o1, o2, o3, o4, o5, o6⟩ := hO.2.1
                  dsimp only at o1 o2 o3 o4 o5 o6
                  rcases o6 with y | ⟨y1, y2, f0, l0, y3, y4, y5, y6, y7, y8⟩
                  · omega
                  · exact ⟨f0, y3, by omega⟩
                refine cl_X9_85 (As := [.int (nI i0), .int (nI 91)]) (rest := []) hB (c_X9_closeBlock l g H0 tb tx ln wd ht fi la nx di op oc wh tc rest i0 91 s1 p1 w1 h1 c1 f0 hT (htc) (hi) (hoc) (hl60) (hO) (hI) (by omega) (hN) (hwh) (hfit.1) (hfit.2) (hf0) (hf6)) hT.1 rfl hl.1 (Nat.le_of_ble_eq_true rfl) dX9_read_80 ⟨Nat.le_of_ble_eq_true rfl, Nat.le_of_ble_eq_true rfl⟩ ⟨Nat.le_of_ble_eq_true rfl, Nat.le_of_ble_eq_true rfl⟩ hS (by have hz9 := hS.1; rintro q (h | h) <;> first | exact Or.inr (by omega) | exact h.elim | exact Or.inl h | (simp only [ftA] at h ⊢; omega)) (fun v H1 locs hpo hfr hS => ?_)
                obtain ⟨rfl, fi2_1, la2_2, nx2_3, di2_4, wd2_5, ht2_6, oc2_7, wh2_8, hT, hEn⟩ := hpo
                generalize H1 = H at hfr hS hT hEn ⊢
                refine W.widen (k := 0) (n := 0) (Nat.le_of_ble_eq_true rfl) (Nat.le_of_ble_eq_true rfl) ?_
                refine lv_goto (tgt := 87) hx hb dX9_read_83 (by decide) ?_
                refine mh_iret hB ⟨Nat.le_of_ble_eq_true rfl, Nat.le_of_ble_eq_true rfl⟩ hS dX9_read_87 ⟨?_, fi2_1, la2_2, nx2_3, di2_4, wd2_5, ht2_6, oc2_7, wh2_8, op, ?_, ?_⟩
                · rw [stepS_cls (it := (s1, p1, w1, h1, c1)) h24 hop9 (decide_eq_true (by dsimp only; omega))]
                · exact hT
                · rw [stepS_cls (it := (s1, p1, w1, h1, c1)) h24 hop9 (decide_eq_true (by dsimp only; omega))]
                  exact hEn
              · skip
                refine cl_X9_85 (As := [.int (nI i0), .int (nI 91)]) (rest := []) hB (c_X9_closeBlock_n l g H0 tb tx ln wd ht fi la nx di op oc wh tc rest i0 91 s1 p1 w1 h1 c1 hT (htc) (hi) (hoc) (hl60) (hO) (hI) (by omega) (hfit)) hT.1 rfl hl.1 (Nat.le_of_ble_eq_true rfl) dX9_read_80 ⟨Nat.le_of_ble_eq_true rfl, Nat.le_of_ble_eq_true rfl⟩ ⟨Nat.le_of_ble_eq_true rfl, Nat.le_of_ble_eq_true rfl⟩ hS (by have hz9 := hS.1; rintro q (h | h) <;> first | exact Or.inr (by omega) | exact h.elim | exact Or.inl h | (simp only [ftA] at h ⊢; omega)) (fun v H1 locs hpo hfr hS => ?_)
                obtain ⟨rfl, rfl⟩ := hpo
                refine W.widen (k := 0) (n := 0) (Nat.le_of_ble_eq_true rfl) (Nat.le_of_ble_eq_true rfl) ?_
                refine lv_goto (tgt := 87) hx hb dX9_read_83 (by decide) ?_
                refine mh_iret hB ⟨Nat.le_of_ble_eq_true rfl, Nat.le_of_ble_eq_true rfl⟩ hS dX9_read_87 ⟨?_, fi, la, nx, di, wd, ht, oc, wh, op, ?_, ?_⟩
                · rw [stepS_non (it := (s1, p1, w1, h1, c1)) h24 hop9 (decide_eq_false (by dsimp only; omega))]; rfl
                · exact hT
                · rw [stepS_non (it := (s1, p1, w1, h1, c1)) h24 hop9 (decide_eq_false (by dsimp only; omega))]
                  exact trivial
          · skip
            refine lv_bipush (v := nI 40) hx hb dX9_read_73 (by decide) ?_
            refine lv_goto (tgt := 80) hx hb dX9_read_75 (by decide) ?_
            have hop9 : opnS (tc i0) = false := decide_eq_false (by omega)
            rcases L0 with _ | ⟨⟨s1, p1, w1, h1, c1⟩, rest⟩
            · skip
              refine cl_X9_85 (As := [.int (nI i0), .int (nI 40)]) (rest := []) hB (c_X9_closeBlock_n0 l g H0 tb tx ln wd ht fi la nx di op oc wh i0 40 hT (hoc)) hT.1 rfl hl.1 (Nat.le_of_ble_eq_true rfl) dX9_read_80 ⟨Nat.le_of_ble_eq_true rfl, Nat.le_of_ble_eq_true rfl⟩ ⟨Nat.le_of_ble_eq_true rfl, Nat.le_of_ble_eq_true rfl⟩ hS (by have hz9 := hS.1; rintro q (h | h) <;> first | exact Or.inr (by omega) | exact h.elim | exact Or.inl h | (simp only [ftA] at h ⊢; omega)) (fun v H1 locs hpo hfr hS => ?_)
              obtain ⟨rfl, rfl⟩ := hpo
              refine W.widen (k := 0) (n := 0) (Nat.le_of_ble_eq_true rfl) (Nat.le_of_ble_eq_true rfl) ?_
              refine lv_goto (tgt := 87) hx hb dX9_read_83 (by decide) ?_
              refine mh_iret hB ⟨Nat.le_of_ble_eq_true rfl, Nat.le_of_ble_eq_true rfl⟩ hS dX9_read_87 ⟨?_, fi, la, nx, di, wd, ht, oc, wh, op, ?_, ?_⟩
              · rw [stepS_nil h24 hop9]; rfl
              · exact hT
              · rw [stepS_nil h24 hop9]
                exact trivial
            · skip
              by_cases hfit : 0 < w1 ∧ s1 = 40
              · skip
                obtain ⟨f0, hf0, hf6⟩ : ∃ f0, fi p1 = nI f0 ∧ f0 < 60 := by
                  obtain ⟨o1, o2, o3, o4, o5, o6⟩ := hO.2.1
                  dsimp only at o1 o2 o3 o4 o5 o6
                  rcases o6 with y | ⟨y1, y2, f0, l0, y3, y4, y5, y6, y7, y8⟩
                  · omega
                  · exact ⟨f0, y3, by omega⟩
                refine cl_X9_85 (As := [.int (nI i0), .int (nI 40)]) (rest := []) hB (c_X9_closeBlock l g H0 tb tx ln wd ht fi la nx di op oc wh tc rest i0 40 s1 p1 w1 h1 c1 f0 hT (htc) (hi) (hoc) (hl60) (hO) (hI) (by omega) (hN) (hwh) (hfit.1) (hfit.2) (hf0) (hf6)) hT.1 rfl hl.1 (Nat.le_of_ble_eq_true rfl) dX9_read_80 ⟨Nat.le_of_ble_eq_true rfl, Nat.le_of_ble_eq_true rfl⟩ ⟨Nat.le_of_ble_eq_true rfl, Nat.le_of_ble_eq_true rfl⟩ hS (by have hz9 := hS.1; rintro q (h | h) <;> first | exact Or.inr (by omega) | exact h.elim | exact Or.inl h | (simp only [ftA] at h ⊢; omega)) (fun v H1 locs hpo hfr hS => ?_)
                obtain ⟨rfl, fi2_9, la2_10, nx2_11, di2_12, wd2_13, ht2_14, oc2_15, wh2_16, hT, hEn⟩ := hpo
                generalize H1 = H at hfr hS hT hEn ⊢
                refine W.widen (k := 0) (n := 0) (Nat.le_of_ble_eq_true rfl) (Nat.le_of_ble_eq_true rfl) ?_
                refine lv_goto (tgt := 87) hx hb dX9_read_83 (by decide) ?_
                refine mh_iret hB ⟨Nat.le_of_ble_eq_true rfl, Nat.le_of_ble_eq_true rfl⟩ hS dX9_read_87 ⟨?_, fi2_9, la2_10, nx2_11, di2_12, wd2_13, ht2_14, oc2_15, wh2_16, op, ?_, ?_⟩
                · rw [stepS_cls (it := (s1, p1, w1, h1, c1)) h24 hop9 (decide_eq_true (by dsimp only; omega))]
                · exact hT
                · rw [stepS_cls (it := (s1, p1, w1, h1, c1)) h24 hop9 (decide_eq_true (by dsimp only; omega))]
                  exact hEn
              · skip
                refine cl_X9_85 (As := [.int (nI i0), .int (nI 40)]) (rest := []) hB (c_X9_closeBlock_n l g H0 tb tx ln wd ht fi la nx di op oc wh tc rest i0 40 s1 p1 w1 h1 c1 hT (htc) (hi) (hoc) (hl60) (hO) (hI) (by omega) (hfit)) hT.1 rfl hl.1 (Nat.le_of_ble_eq_true rfl) dX9_read_80 ⟨Nat.le_of_ble_eq_true rfl, Nat.le_of_ble_eq_true rfl⟩ ⟨Nat.le_of_ble_eq_true rfl, Nat.le_of_ble_eq_true rfl⟩ hS (by have hz9 := hS.1; rintro q (h | h) <;> first | exact Or.inr (by omega) | exact h.elim | exact Or.inl h | (simp only [ftA] at h ⊢; omega)) (fun v H1 locs hpo hfr hS => ?_)
                obtain ⟨rfl, rfl⟩ := hpo
                refine W.widen (k := 0) (n := 0) (Nat.le_of_ble_eq_true rfl) (Nat.le_of_ble_eq_true rfl) ?_
                refine lv_goto (tgt := 87) hx hb dX9_read_83 (by decide) ?_
                refine mh_iret hB ⟨Nat.le_of_ble_eq_true rfl, Nat.le_of_ble_eq_true rfl⟩ hS dX9_read_87 ⟨?_, fi, la, nx, di, wd, ht, oc, wh, op, ?_, ?_⟩
                · rw [stepS_non (it := (s1, p1, w1, h1, c1)) h24 hop9 (decide_eq_false (by dsimp only; omega))]; rfl
                · exact hT
                · rw [stepS_non (it := (s1, p1, w1, h1, c1)) h24 hop9 (decide_eq_false (by dsimp only; omega))]
                  exact trivial
        · skip
          refine lv_iload_n hx hb dX9_read_59 rfl (lv_at hl 0 rfl) ?_
          refine lv_bipush (v := nI 93) hx hb dX9_read_60 (by decide) ?_
          refine mn_icmp_ne (tgt := 86) hB dX9_read_62 (by decide) (by omega) (by omega) (fun h_62 => ?_) (fun h_62 => ?_)
          · skip
            refine lv_iload_n hx hb dX9_read_86 rfl (lv_at hl 2 rfl) ?_
            have hno9 : stepS (tc i0) i0 L0 = .inl i0 := by
              have hop9 : opnS (tc i0) = false := decide_eq_false (by omega)
              rcases L0 with _ | ⟨it, rest⟩
              · exact stepS_nil h24 hop9
              · exact stepS_non h24 hop9 (decide_eq_false (by omega))
            refine mh_iret hB ⟨Nat.le_of_ble_eq_true rfl, Nat.le_of_ble_eq_true rfl⟩ hS dX9_read_87 ⟨?_, fi, la, nx, di, wd, ht, oc, wh, op, ?_, ?_⟩
            · rw [hno9]; rfl
            · exact hT
            · rw [hno9]
              exact trivial
          · skip
            refine lv_aload_n hx hb dX9_read_65 rfl (lv_at hl 1 rfl) ?_
            refine lv_iload_n hx hb dX9_read_66 rfl (lv_at hl 2 rfl) ?_
            refine lv_iload_n hx hb dX9_read_67 rfl (lv_at hl 0 rfl) ?_
            refine lv_bipush (v := nI 41) hx hb dX9_read_68 (by decide) ?_
            refine mn_icmp_ne (tgt := 78) hB dX9_read_70 (by decide) (by omega) (by omega) (fun h_70 => ?_) (fun h_70 => ?_)
            · skip
              refine lv_bipush (v := nI 91) hx hb dX9_read_78 (by decide) ?_
              have hop9 : opnS (tc i0) = false := decide_eq_false (by omega)
              rcases L0 with _ | ⟨⟨s1, p1, w1, h1, c1⟩, rest⟩
              · skip
                refine cl_X9_85 (As := [.int (nI i0), .int (nI 91)]) (rest := []) hB (c_X9_closeBlock_n0 l g H0 tb tx ln wd ht fi la nx di op oc wh i0 91 hT (hoc)) hT.1 rfl hl.1 (Nat.le_of_ble_eq_true rfl) dX9_read_80 ⟨Nat.le_of_ble_eq_true rfl, Nat.le_of_ble_eq_true rfl⟩ ⟨Nat.le_of_ble_eq_true rfl, Nat.le_of_ble_eq_true rfl⟩ hS (by have hz9 := hS.1; rintro q (h | h) <;> first | exact Or.inr (by omega) | exact h.elim | exact Or.inl h | (simp only [ftA] at h ⊢; omega)) (fun v H1 locs hpo hfr hS => ?_)
                obtain ⟨rfl, rfl⟩ := hpo
                refine W.widen (k := 0) (n := 0) (Nat.le_of_ble_eq_true rfl) (Nat.le_of_ble_eq_true rfl) ?_
                refine lv_goto (tgt := 87) hx hb dX9_read_83 (by decide) ?_
                refine mh_iret hB ⟨Nat.le_of_ble_eq_true rfl, Nat.le_of_ble_eq_true rfl⟩ hS dX9_read_87 ⟨?_, fi, la, nx, di, wd, ht, oc, wh, op, ?_, ?_⟩
                · rw [stepS_nil h24 hop9]; rfl
                · exact hT
                · rw [stepS_nil h24 hop9]
                  exact trivial
              · skip
                by_cases hfit : 0 < w1 ∧ s1 = 91
                · skip
                  obtain ⟨f0, hf0, hf6⟩ : ∃ f0, fi p1 = nI f0 ∧ f0 < 60 := by
                    obtain ⟨o1, o2, o3, o4, o5, o6⟩ := hO.2.1
                    dsimp only at o1 o2 o3 o4 o5 o6
                    rcases o6 with y | ⟨y1, y2, f0, l0, y3, y4, y5, y6, y7, y8⟩
                    · omega
                    · exact ⟨f0, y3, by omega⟩
                  refine cl_X9_85 (As := [.int (nI i0), .int (nI 91)]) (rest := []) hB (c_X9_closeBlock l g H0 tb tx ln wd ht fi la nx di op oc wh tc rest i0 91 s1 p1 w1 h1 c1 f0 hT (htc) (hi) (hoc) (hl60) (hO) (hI) (by omega) (hN) (hwh) (hfit.1) (hfit.2) (hf0) (hf6)) hT.1 rfl hl.1 (Nat.le_of_ble_eq_true rfl) dX9_read_80 ⟨Nat.le_of_ble_eq_true rfl, Nat.le_of_ble_eq_true rfl⟩ ⟨Nat.le_of_ble_eq_true rfl, Nat.le_of_ble_eq_true rfl⟩ hS (by have hz9 := hS.1; rintro q (h | h) <;> first | exact Or.inr (by omega) | exact h.elim | exact Or.inl h | (simp only [ftA] at h ⊢; omega)) (fun v H1 locs hpo hfr hS => ?_)
                  obtain ⟨rfl, fi2_17, la2_18, nx2_19, di2_20, wd2_21, ht2_22, oc2_23, wh2_24, hT, hEn⟩ := hpo
                  generalize H1 = H at hfr hS hT hEn ⊢
                  refine W.widen (k := 0) (n := 0) (Nat.le_of_ble_eq_true rfl) (Nat.le_of_ble_eq_true rfl) ?_
                  refine lv_goto (tgt := 87) hx hb dX9_read_83 (by decide) ?_
                  refine mh_iret hB ⟨Nat.le_of_ble_eq_true rfl, Nat.le_of_ble_eq_true rfl⟩ hS dX9_read_87 ⟨?_, fi2_17, la2_18, nx2_19, di2_20, wd2_21, ht2_22, oc2_23, wh2_24, op, ?_, ?_⟩
                  · rw [stepS_cls (it := (s1, p1, w1, h1, c1)) h24 hop9 (decide_eq_true (by dsimp only; omega))]
                  · exact hT
                  · rw [stepS_cls (it := (s1, p1, w1, h1, c1)) h24 hop9 (decide_eq_true (by dsimp only; omega))]
                    exact hEn
                · skip
                  refine cl_X9_85 (As := [.int (nI i0), .int (nI 91)]) (rest := []) hB (c_X9_closeBlock_n l g H0 tb tx ln wd ht fi la nx di op oc wh tc rest i0 91 s1 p1 w1 h1 c1 hT (htc) (hi) (hoc) (hl60) (hO) (hI) (by omega) (hfit)) hT.1 rfl hl.1 (Nat.le_of_ble_eq_true rfl) dX9_read_80 ⟨Nat.le_of_ble_eq_true rfl, Nat.le_of_ble_eq_true rfl⟩ ⟨Nat.le_of_ble_eq_true rfl, Nat.le_of_ble_eq_true rfl⟩ hS (by have hz9 := hS.1; rintro q (h | h) <;> first | exact Or.inr (by omega) | exact h.elim | exact Or.inl h | (simp only [ftA] at h ⊢; omega)) (fun v H1 locs hpo hfr hS => ?_)
                  obtain ⟨rfl, rfl⟩ := hpo
                  refine W.widen (k := 0) (n := 0) (Nat.le_of_ble_eq_true rfl) (Nat.le_of_ble_eq_true rfl) ?_
                  refine lv_goto (tgt := 87) hx hb dX9_read_83 (by decide) ?_
                  refine mh_iret hB ⟨Nat.le_of_ble_eq_true rfl, Nat.le_of_ble_eq_true rfl⟩ hS dX9_read_87 ⟨?_, fi, la, nx, di, wd, ht, oc, wh, op, ?_, ?_⟩
                  · rw [stepS_non (it := (s1, p1, w1, h1, c1)) h24 hop9 (decide_eq_false (by dsimp only; omega))]; rfl
                  · exact hT
                  · rw [stepS_non (it := (s1, p1, w1, h1, c1)) h24 hop9 (decide_eq_false (by dsimp only; omega))]
                    exact trivial
            · skip
              refine lv_bipush (v := nI 40) hx hb dX9_read_73 (by decide) ?_
              refine lv_goto (tgt := 80) hx hb dX9_read_75 (by decide) ?_
              have hop9 : opnS (tc i0) = false := decide_eq_false (by omega)
              rcases L0 with _ | ⟨⟨s1, p1, w1, h1, c1⟩, rest⟩
              · skip
                refine cl_X9_85 (As := [.int (nI i0), .int (nI 40)]) (rest := []) hB (c_X9_closeBlock_n0 l g H0 tb tx ln wd ht fi la nx di op oc wh i0 40 hT (hoc)) hT.1 rfl hl.1 (Nat.le_of_ble_eq_true rfl) dX9_read_80 ⟨Nat.le_of_ble_eq_true rfl, Nat.le_of_ble_eq_true rfl⟩ ⟨Nat.le_of_ble_eq_true rfl, Nat.le_of_ble_eq_true rfl⟩ hS (by have hz9 := hS.1; rintro q (h | h) <;> first | exact Or.inr (by omega) | exact h.elim | exact Or.inl h | (simp only [ftA] at h ⊢; omega)) (fun v H1 locs hpo hfr hS => ?_)
                obtain ⟨rfl, rfl⟩ := hpo
                refine W.widen (k := 0) (n := 0) (Nat.le_of_ble_eq_true rfl) (Nat.le_of_ble_eq_true rfl) ?_
                refine lv_goto (tgt := 87) hx hb dX9_read_83 (by decide) ?_
                refine mh_iret hB ⟨Nat.le_of_ble_eq_true rfl, Nat.le_of_ble_eq_true rfl⟩ hS dX9_read_87 ⟨?_, fi, la, nx, di, wd, ht, oc, wh, op, ?_, ?_⟩
                · rw [stepS_nil h24 hop9]; rfl
                · exact hT
                · rw [stepS_nil h24 hop9]
                  exact trivial
              · skip
                by_cases hfit : 0 < w1 ∧ s1 = 40
                · skip
                  obtain ⟨f0, hf0, hf6⟩ : ∃ f0, fi p1 = nI f0 ∧ f0 < 60 := by
                    obtain ⟨o1, o2, o3, o4, o5, o6⟩ := hO.2.1
                    dsimp only at o1 o2 o3 o4 o5 o6
                    rcases o6 with y | ⟨y1, y2, f0, l0, y3, y4, y5, y6, y7, y8⟩
                    · omega
                    · exact ⟨f0, y3, by omega⟩
                  refine cl_X9_85 (As := [.int (nI i0), .int (nI 40)]) (rest := []) hB (c_X9_closeBlock l g H0 tb tx ln wd ht fi la nx di op oc wh tc rest i0 40 s1 p1 w1 h1 c1 f0 hT (htc) (hi) (hoc) (hl60) (hO) (hI) (by omega) (hN) (hwh) (hfit.1) (hfit.2) (hf0) (hf6)) hT.1 rfl hl.1 (Nat.le_of_ble_eq_true rfl) dX9_read_80 ⟨Nat.le_of_ble_eq_true rfl, Nat.le_of_ble_eq_true rfl⟩ ⟨Nat.le_of_ble_eq_true rfl, Nat.le_of_ble_eq_true rfl⟩ hS (by have hz9 := hS.1; rintro q (h | h) <;> first | exact Or.inr (by omega) | exact h.elim | exact Or.inl h | (simp only [ftA] at h ⊢; omega)) (fun v H1 locs hpo hfr hS => ?_)
                  obtain ⟨rfl, fi2_25, la2_26, nx2_27, di2_28, wd2_29, ht2_30, oc2_31, wh2_32, hT, hEn⟩ := hpo
                  generalize H1 = H at hfr hS hT hEn ⊢
                  refine W.widen (k := 0) (n := 0) (Nat.le_of_ble_eq_true rfl) (Nat.le_of_ble_eq_true rfl) ?_
                  refine lv_goto (tgt := 87) hx hb dX9_read_83 (by decide) ?_
                  refine mh_iret hB ⟨Nat.le_of_ble_eq_true rfl, Nat.le_of_ble_eq_true rfl⟩ hS dX9_read_87 ⟨?_, fi2_25, la2_26, nx2_27, di2_28, wd2_29, ht2_30, oc2_31, wh2_32, op, ?_, ?_⟩
                  · rw [stepS_cls (it := (s1, p1, w1, h1, c1)) h24 hop9 (decide_eq_true (by dsimp only; omega))]
                  · exact hT
                  · rw [stepS_cls (it := (s1, p1, w1, h1, c1)) h24 hop9 (decide_eq_true (by dsimp only; omega))]
                    exact hEn
                · skip
                  refine cl_X9_85 (As := [.int (nI i0), .int (nI 40)]) (rest := []) hB (c_X9_closeBlock_n l g H0 tb tx ln wd ht fi la nx di op oc wh tc rest i0 40 s1 p1 w1 h1 c1 hT (htc) (hi) (hoc) (hl60) (hO) (hI) (by omega) (hfit)) hT.1 rfl hl.1 (Nat.le_of_ble_eq_true rfl) dX9_read_80 ⟨Nat.le_of_ble_eq_true rfl, Nat.le_of_ble_eq_true rfl⟩ ⟨Nat.le_of_ble_eq_true rfl, Nat.le_of_ble_eq_true rfl⟩ hS (by have hz9 := hS.1; rintro q (h | h) <;> first | exact Or.inr (by omega) | exact h.elim | exact Or.inl h | (simp only [ftA] at h ⊢; omega)) (fun v H1 locs hpo hfr hS => ?_)
                  obtain ⟨rfl, rfl⟩ := hpo
                  refine W.widen (k := 0) (n := 0) (Nat.le_of_ble_eq_true rfl) (Nat.le_of_ble_eq_true rfl) ?_
                  refine lv_goto (tgt := 87) hx hb dX9_read_83 (by decide) ?_
                  refine mh_iret hB ⟨Nat.le_of_ble_eq_true rfl, Nat.le_of_ble_eq_true rfl⟩ hS dX9_read_87 ⟨?_, fi, la, nx, di, wd, ht, oc, wh, op, ?_, ?_⟩
                  · rw [stepS_non (it := (s1, p1, w1, h1, c1)) h24 hop9 (decide_eq_false (by dsimp only; omega))]; rfl
                  · exact hT
                  · rw [stepS_non (it := (s1, p1, w1, h1, c1)) h24 hop9 (decide_eq_false (by dsimp only; omega))]
                    exact trivial
      · skip
        have h44 := of_decide_eq_true h_44
        have hop : opnS (tc i0) = true := decide_eq_true (by omega)
        refine lv_aload_n hx hb dX9_read_47 rfl (lv_at hl 1 rfl) ?_
        refine lv_iload_n hx hb dX9_read_48 rfl (lv_at hl 2 rfl) ?_
        refine cl_X9_82 (As := [.int (nI i0)]) (rest := []) hB (c_X9_openBlock l g H0 tb tx ln wd ht fi la nx di op oc wh L0.length i0 hT (hoc) (by omega) (hi)) hT.1 rfl hl.1 (Nat.le_of_ble_eq_true rfl) dX9_read_49 ⟨Nat.le_of_ble_eq_true rfl, Nat.le_of_ble_eq_true rfl⟩ ⟨Nat.le_of_ble_eq_true rfl, Nat.le_of_ble_eq_true rfl⟩ hS (by have hz9 := hS.1; rintro q (h | h) <;> first | exact Or.inr (by omega) | exact h.elim | exact Or.inl h | (simp only [ftA] at h ⊢; omega)) (fun v H1 locs hpo hfr hS => ?_)
        obtain ⟨rfl, hT⟩ := hpo
        generalize H1 = H at hfr hS hT ⊢
        refine W.widen (k := 0) (n := 0) (Nat.le_of_ble_eq_true rfl) (Nat.le_of_ble_eq_true rfl) ?_
        refine mh_iret hB ⟨Nat.le_of_ble_eq_true rfl, Nat.le_of_ble_eq_true rfl⟩ hS dX9_read_52 ⟨?_, (upd fi i0 (-9)), (upd la i0 (-9)), (upd nx i0 (-9)), di, (upd wd i0 (nI 0)), (upd ht i0 (nI 0)), (nI (L0.length + 1)), wh, (upd op L0.length (nI i0)), ?_, ?_⟩
        · rw [stepS_opn h24 hop]; rfl
        · exact hT
        · rw [stepS_opn h24 hop]
          exact ⟨hwh, rfl, ⟨upd_s (α := Nat), OpI.push hi rfl (upd_s (α := Nat)) (upd_s (α := Nat)) (upd_s (α := Nat)), hO.congr (Nat.le_refl _) (by dsimp only; omega) (fun j (x1 : j < i0) => ⟨upd_n (by omega), upd_n (by omega), upd_n (by omega), upd_n (by omega), upd_n (by omega), rfl⟩) (fun k hk => upd_n (by omega))⟩, upd_s (α := Nat), hN.congr hO (fun j x1 => upd_n (by omega))⟩
  · skip
    have h24 : 97 ≤ tc i0 ∧ tc i0 ≤ 102 := of_decide_eq_true h_24
    refine lv_aload_n hx hb dX9_read_27 rfl (lv_at hl 1 rfl) ?_
    refine lv_iload_n hx hb dX9_read_28 rfl (lv_at hl 2 rfl) ?_
    refine cl_X9_73 (As := [.int (nI i0)]) (rest := []) hB (c_X9_readColour l g H0 tb tx ln wd ht fi la nx di op oc wh tc L0 i0 hT (htc) (hi) (hoc) (hl60) (hO) (hN) (hI) (hwh) (h24)) hT.1 rfl hl.1 (Nat.le_of_ble_eq_true rfl) dX9_read_29 ⟨Nat.le_of_ble_eq_true rfl, Nat.le_of_ble_eq_true rfl⟩ ⟨Nat.le_of_ble_eq_true rfl, Nat.le_of_ble_eq_true rfl⟩ hS (by have hz9 := hS.1; rintro q (h | h) <;> first | exact Or.inr (by omega) | exact h.elim | exact Or.inl h | (simp only [ftA] at h ⊢; omega)) (fun v H1 locs hpo hfr hS => ?_)
    obtain ⟨rfl, fi2_33, la2_34, nx2_35, di2_36, wd2_37, ht2_38, oc2_39, wh2_40, hT, hEn⟩ := hpo
    generalize H1 = H at hfr hS hT hEn ⊢
    refine W.widen (k := 0) (n := 0) (Nat.le_of_ble_eq_true rfl) (Nat.le_of_ble_eq_true rfl) ?_
    refine mh_iret hB ⟨Nat.le_of_ble_eq_true rfl, Nat.le_of_ble_eq_true rfl⟩ hS dX9_read_32 ⟨?_, fi2_33, la2_34, nx2_35, di2_36, wd2_37, ht2_38, oc2_39, wh2_40, op, ?_, ?_⟩
    · rw [stepS_let h24]
    · exact hT
    · rw [stepS_let h24]
      exact hEn

def rm_c_X9_read_w : Room := { frames := 1, cells := 0, slots := 0, locals := 21 }
set_option maxRecDepth 100000 in
set_option maxHeartbeats 400000 in
theorem c_X9_read_w (l : Launch) (g : GG) (H0 : Heap) (tb : Nat) (tx : Nat → Int32) (ln : Nat) (wd : Nat → Int32) (ht : Nat → Int32) (fi : Nat → Int32) (la : Nat → Int32) (nx : Nat → Int32) (di : Nat → Int32) (op : Nat → Int32) (oc : Int32) (wh : Int32) (i0 : Nat) (j8 : Nat) (hT : TxAt g tb tx ln wd ht fi la nx di op oc wh H0) (hi : i0 < 60) (hwh : wh = nI j8) (hj8 : j8 < 60) : Ct l yX9_read cX9_read 3 (some .int) rm_c_X9_read_w g [.ref tb, .int (nI i0)] H0 (ftA (fun _ => False) H0.size) (fun v H1 => v = some (.int (nI i0)) ∧ H0 = H1) := by
  refine Ct.of (by decide) (fun _ h => Or.inr h) (Nat.le_of_ble_eq_true rfl) ?_
  intro p e s m below meth c ls hB hin hS hH hl
  have hx := hB.x
  have hb := hB.b
  have hl : lv_has ls 3 [(0, .ref tb), (1, .int (nI i0))] := hl
  refine lv_aload_n hx hb dX9_read_0 rfl (lv_at hl 0 rfl) ?_
  refine gf_X9_9 hB hT.1 rfl dX9_read_1 ?_
  refine lv_iload_n hx hb dX9_read_4 rfl (lv_at hl 1 rfl) ?_
  refine cl_X9_56 (As := [.ref (tb + 1), .int (nI i0)]) (rest := []) hB (c_X6_at l g H0 (tb + 1) 60 tx i0 hT.a_tx (hi) (by first | assumption | omega)) rfl hl.1 (Nat.le_of_ble_eq_true rfl) dX9_read_5 ⟨Nat.le_of_ble_eq_true rfl, Nat.le_of_ble_eq_true rfl⟩ ⟨Nat.le_of_ble_eq_true rfl, Nat.le_of_ble_eq_true rfl⟩ hS (by have hz9 := hS.1; rintro q (h | h) <;> first | exact Or.inr (by omega) | exact h.elim | exact Or.inl h | (simp only [ftA] at h ⊢; omega)) (fun v H1 locs hpo hfr hS => ?_)
  obtain ⟨rfl, rfl⟩ := hpo
  refine W.widen (k := 0) (n := 0) (Nat.le_of_ble_eq_true rfl) (Nat.le_of_ble_eq_true rfl) ?_
  refine lv_istore_n (lv' := [(2, .int (tx i0)), (0, .ref tb), (1, .int (nI i0))]) hx hb dX9_read_8 rfl hl (by decide) rfl (fun ls hl => ?_)
  refine lv_aload_n hx hb dX9_read_9 rfl (lv_at hl 1 rfl) ?_
  refine gf_X9_36 hB hT.1 rfl dX9_read_10 ?_
  refine lv_bipush (v := (-9)) hx hb dX9_read_13 (by decide) ?_
  refine lv_icmp_eq (tgt := 20) hx hb dX9_read_15 (by decide) (fun h => absurd h (by rw [hwh]; exact nI_ne9 hj8)) (fun h_15 => ?_)
  refine lv_iload_n hx hb dX9_read_18 rfl (lv_at hl 2 rfl) ?_
  refine mh_iret hB ⟨Nat.le_of_ble_eq_true rfl, Nat.le_of_ble_eq_true rfl⟩ hS dX9_read_19 ⟨?_, rfl⟩
  · rfl
