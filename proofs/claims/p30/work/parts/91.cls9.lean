def rm_c_X5_join : Room := { frames := 2, cells := 0, slots := 0, locals := 43 }
set_option maxRecDepth 100000 in
set_option maxHeartbeats 400000 in
theorem c_X5_join (l : Launch) (g : GG) (H0 : Heap) (fb : Nat) (fd : Nat → Int32) (pc : Nat → Int32) (ps : Nat) (pa : Nat) (pb : Nat) (w : Nat) (h : Nat) (col : Nat → Nat) (xx : Int32) (yy : Int32) (c0 : Nat) (jo : Option Nat) (lb : Nat → Nat) (i0 : Nat) (M : Nat → Bool) (hpb : PatB g pa pb w h col H0) (hfo : at_ g H0 fb (eO 5 [.ref (fb + 1), .ref (fb + 2), .int (nI ps)])) (hfd : at_ g H0 (fb + 1) (eZ g 256 fd)) (hfc : at_ g H0 (fb + 2) (eI g 256 pc)) (hd1 : pa < fb ∨ fb + 3 ≤ pa) (hd2 : pb < fb ∨ fb + 3 ≤ pb) (hc0 : c0 < 6) (hnb : NbR w h xx yy jo) (hlj : ∀ j, jo = some j → col j = c0 → lb j = i0) (hFI : FI lb (w * h) i0 M fd pc ps) : Ct l yX5_join cX5_join 6 none rm_c_X5_join g [.ref fb, .ref pa, .int xx, .int yy, .int (nI c0)] H0 (ftA (fun q9 => fb ≤ q9 ∧ q9 < fb + 3) H0.size) (fun v H1 => v = none ∧ ∃ (fd2 : Nat → Int32), ∃ (pc2 : Nat → Int32), ∃ (ps2 : Nat), ∃ (M2 : Nat → Bool), at_ g H1 fb (eO 5 [.ref (fb + 1), .ref (fb + 2), .int (nI ps2)]) ∧ at_ g H1 (fb + 1) (eZ g 256 fd2) ∧ at_ g H1 (fb + 2) (eI g 256 pc2) ∧ FI lb (w * h) i0 M2 fd2 pc2 ps2 ∧ (∀ x, M x = true → M2 x = true) ∧ (∀ t, t < ps → pc2 t = pc t) ∧ ps ≤ ps2 ∧ (∀ j, jo = some j → col j = c0 → M2 j = true)) := by
  refine Ct.of (by decide) (fun _ h => Or.inr h) (Nat.le_of_ble_eq_true rfl) ?_
  intro p e s m below meth c ls hB hin hS hH hl
  have hx := hB.x
  have hb := hB.b
  have hl : lv_has ls 6 [(0, .ref fb), (1, .ref pa), (2, .int xx), (3, .int yy), (4, .int (nI c0))] := hl
  have hw0 := hpb.2.2.1
  have hw16 := hpb.2.2.2.1
  have hh0 := hpb.2.2.2.2.1
  have hh16 := hpb.2.2.2.2.2.1
  have hwh := hpb.2.2.2.2.2.2.1
  have hcol := hpb.2.2.2.2.2.2.2
  rcases hnb.four with ⟨hjo, hneg⟩ | ⟨hjo, a0, ha0, rfl, hneg⟩ | ⟨hjo, a0, b0, ha0, hb0, rfl, rfl, hout⟩ | ⟨a0, b0, rfl, rfl, ha0, hb0, hjo⟩
  · skip
    refine lv_aload_n hx hb dX5_join_0 rfl (lv_at hl 1 rfl) ?_
    refine lv_iload_n hx hb dX5_join_1 rfl (lv_at hl 2 rfl) ?_
    refine lv_iload_n hx hb dX5_join_2 rfl (lv_at hl 3 rfl) ?_
    refine cl_X5_53 (As := [.int xx, .int yy]) (rest := []) hB (c_X4_colourAt_nx l g H0 pa pb w h col xx yy hpb (hneg)) hpb.1 rfl hl.1 (Nat.le_of_ble_eq_true rfl) dX5_join_3 ⟨Nat.le_of_ble_eq_true rfl, Nat.le_of_ble_eq_true rfl⟩ ⟨Nat.le_of_ble_eq_true rfl, Nat.le_of_ble_eq_true rfl⟩ hS (by have hz9 := hS.1; rintro q (h | h) <;> first | exact Or.inr (by omega) | exact h.elim | exact Or.inl h | (simp only [ftA] at h ⊢; omega)) (fun v H1 locs hpo hfr hS => ?_)
    obtain ⟨rfl, rfl⟩ := hpo
    refine W.widen (k := 0) (n := 0) (Nat.le_of_ble_eq_true rfl) (Nat.le_of_ble_eq_true rfl) ?_
    refine lv_iload hx hb dX5_join_6 (lv_at hl 4 rfl) ?_
    refine lv_icmp_eq (tgt := 12) hx hb dX5_join_8 (by decide) (fun h => absurd h.symm (nI_ne9 (by omega))) (fun h_8 => ?_)
    refine mh_vret hB ⟨Nat.le_of_ble_eq_true rfl, Nat.le_of_ble_eq_true rfl⟩ hS dX5_join_11 ⟨?_, fd, pc, ps, M, ?_, ?_, ?_, ?_, ?_, ?_, ?_, ?_⟩
    · rfl
    · exact hfo
    · exact hfd
    · exact hfc
    · exact hFI
    · exact fun _ y9 => y9
    · exact fun _ _ => rfl
    · exact Nat.le_refl _
    · exact fun j hj => by rw [hjo] at hj; cases hj
  · skip
    refine lv_aload_n hx hb dX5_join_0 rfl (lv_at hl 1 rfl) ?_
    refine lv_iload_n hx hb dX5_join_1 rfl (lv_at hl 2 rfl) ?_
    refine lv_iload_n hx hb dX5_join_2 rfl (lv_at hl 3 rfl) ?_
    refine cl_X5_53 (As := [.int (nI a0), .int yy]) (rest := []) hB (c_X4_colourAt_ny l g H0 pa pb w h col a0 yy hpb (ha0) (hneg)) hpb.1 rfl hl.1 (Nat.le_of_ble_eq_true rfl) dX5_join_3 ⟨Nat.le_of_ble_eq_true rfl, Nat.le_of_ble_eq_true rfl⟩ ⟨Nat.le_of_ble_eq_true rfl, Nat.le_of_ble_eq_true rfl⟩ hS (by have hz9 := hS.1; rintro q (h | h) <;> first | exact Or.inr (by omega) | exact h.elim | exact Or.inl h | (simp only [ftA] at h ⊢; omega)) (fun v H1 locs hpo hfr hS => ?_)
    obtain ⟨rfl, rfl⟩ := hpo
    refine W.widen (k := 0) (n := 0) (Nat.le_of_ble_eq_true rfl) (Nat.le_of_ble_eq_true rfl) ?_
    refine lv_iload hx hb dX5_join_6 (lv_at hl 4 rfl) ?_
    refine lv_icmp_eq (tgt := 12) hx hb dX5_join_8 (by decide) (fun h => absurd h.symm (nI_ne9 (by omega))) (fun h_8 => ?_)
    refine mh_vret hB ⟨Nat.le_of_ble_eq_true rfl, Nat.le_of_ble_eq_true rfl⟩ hS dX5_join_11 ⟨?_, fd, pc, ps, M, ?_, ?_, ?_, ?_, ?_, ?_, ?_, ?_⟩
    · rfl
    · exact hfo
    · exact hfd
    · exact hfc
    · exact hFI
    · exact fun _ y9 => y9
    · exact fun _ _ => rfl
    · exact Nat.le_refl _
    · exact fun j hj => by rw [hjo] at hj; cases hj
  · skip
    refine lv_aload_n hx hb dX5_join_0 rfl (lv_at hl 1 rfl) ?_
    refine lv_iload_n hx hb dX5_join_1 rfl (lv_at hl 2 rfl) ?_
    refine lv_iload_n hx hb dX5_join_2 rfl (lv_at hl 3 rfl) ?_
    refine cl_X5_53 (As := [.int (nI a0), .int (nI b0)]) (rest := []) hB (c_X4_colourAt l g H0 pa pb w h col a0 b0 hpb (ha0) (hb0)) hpb.1 rfl hl.1 (Nat.le_of_ble_eq_true rfl) dX5_join_3 ⟨Nat.le_of_ble_eq_true rfl, Nat.le_of_ble_eq_true rfl⟩ ⟨Nat.le_of_ble_eq_true rfl, Nat.le_of_ble_eq_true rfl⟩ hS (by have hz9 := hS.1; rintro q (h | h) <;> first | exact Or.inr (by omega) | exact h.elim | exact Or.inl h | (simp only [ftA] at h ⊢; omega)) (fun v H1 locs hpo hfr hS => ?_)
    obtain ⟨rfl, rfl⟩ := hpo
    refine W.widen (k := 0) (n := 0) (Nat.le_of_ble_eq_true rfl) (Nat.le_of_ble_eq_true rfl) ?_
    refine mh_top (y := .int (-9)) (by rw [caO_out hout]) ?_
    refine lv_iload hx hb dX5_join_6 (lv_at hl 4 rfl) ?_
    refine lv_icmp_eq (tgt := 12) hx hb dX5_join_8 (by decide) (fun h => absurd h.symm (nI_ne9 (by omega))) (fun h_8 => ?_)
    refine mh_vret hB ⟨Nat.le_of_ble_eq_true rfl, Nat.le_of_ble_eq_true rfl⟩ hS dX5_join_11 ⟨?_, fd, pc, ps, M, ?_, ?_, ?_, ?_, ?_, ?_, ?_, ?_⟩
    · rfl
    · exact hfo
    · exact hfd
    · exact hfc
    · exact hFI
    · exact fun _ y9 => y9
    · exact fun _ _ => rfl
    · exact Nat.le_refl _
    · exact fun j hj => by rw [hjo] at hj; cases hj
  · skip
    have hk9 := idx_lt ha0 hb0
    refine lv_aload_n hx hb dX5_join_0 rfl (lv_at hl 1 rfl) ?_
    refine lv_iload_n hx hb dX5_join_1 rfl (lv_at hl 2 rfl) ?_
    refine lv_iload_n hx hb dX5_join_2 rfl (lv_at hl 3 rfl) ?_
    refine cl_X5_53 (As := [.int (nI a0), .int (nI b0)]) (rest := []) hB (c_X4_colourAt l g H0 pa pb w h col a0 b0 hpb (by omega) (by omega)) hpb.1 rfl hl.1 (Nat.le_of_ble_eq_true rfl) dX5_join_3 ⟨Nat.le_of_ble_eq_true rfl, Nat.le_of_ble_eq_true rfl⟩ ⟨Nat.le_of_ble_eq_true rfl, Nat.le_of_ble_eq_true rfl⟩ hS (by have hz9 := hS.1; rintro q (h | h) <;> first | exact Or.inr (by omega) | exact h.elim | exact Or.inl h | (simp only [ftA] at h ⊢; omega)) (fun v H1 locs hpo hfr hS => ?_)
    obtain ⟨rfl, rfl⟩ := hpo
    refine W.widen (k := 0) (n := 0) (Nat.le_of_ble_eq_true rfl) (Nat.le_of_ble_eq_true rfl) ?_
    refine mh_top (y := .int (nI (col (b0 * w + a0)))) (by rw [caO_in ha0 hb0]) ?_
    have hc9 := hcol _ hk9
    refine lv_iload hx hb dX5_join_6 (lv_at hl 4 rfl) ?_
    refine mn_icmp_eq (tgt := 12) hB dX5_join_8 (by decide) (by omega) (by omega) (fun h_8 => ?_) (fun h_8 => ?_)
    · skip
      have hlj9 := hlj _ hjo h_8
      refine lv_iload_n hx hb dX5_join_12 rfl (lv_at hl 3 rfl) ?_
      refine lv_aload_n hx hb dX5_join_13 rfl (lv_at hl 1 rfl) ?_
      refine gf_X5_42 hB hpb.1 rfl dX5_join_14 ?_
      refine mn_imul hB dX5_join_17 ?_
      refine lv_iload_n hx hb dX5_join_18 rfl (lv_at hl 2 rfl) ?_
      refine mn_iadd hB dX5_join_19 ?_
      refine lv_istore (lv' := [(5, .int (nI ((b0 * w) + a0))), (0, .ref fb), (1, .ref pa), (2, .int (nI a0)), (3, .int (nI b0)), (4, .int (nI c0))]) hx hb dX5_join_20 hl (by decide) rfl (fun ls hl => ?_)
      refine lv_iload hx hb dX5_join_22 (lv_at hl 0 rfl) ?_
      refine mn_if_lt (tgt := 78) hB dX5_join_24 (by decide) (by omega) (fun h => by exfalso; omega) (fun h_24 => ?_)
      refine lv_iload hx hb dX5_join_27 (lv_at hl 0 rfl) ?_
      refine lv_aload_n hx hb dX5_join_29 rfl (lv_at hl 1 rfl) ?_
      refine gf_X5_9 hB hfo rfl dX5_join_30 ?_
      refine mh_alen hB 2 rfl hfd dX5_join_33 ?_
      refine mn_icmp_ge (tgt := 78) hB dX5_join_34 (by decide) (by omega) (by omega) (fun h => by exfalso; omega) (fun h_34 => ?_)
      refine lv_aload_n hx hb dX5_join_37 rfl (lv_at hl 1 rfl) ?_
      refine gf_X5_9 hB hfo rfl dX5_join_38 ?_
      refine lv_iload hx hb dX5_join_41 (lv_at hl 0 rfl) ?_
      refine mn_zald hB hfd (by omega) (by omega) dX5_join_43 ?_
      refine mh_top (y := .int (bI (M (b0 * w + a0)))) (by rw [hFI.at_ (by omega) hlj9]) ?_
      refine mb_if_ne (tgt := 78) hB dX5_join_44 (by decide) (fun h_44 => ?_) (fun h_44 => ?_)
      · skip
        refine mh_vret hB ⟨Nat.le_of_ble_eq_true rfl, Nat.le_of_ble_eq_true rfl⟩ hS dX5_join_78 ⟨?_, fd, pc, ps, M, ?_, ?_, ?_, ?_, ?_, ?_, ?_, ?_⟩
        · rfl
        · exact hfo
        · exact hfd
        · exact hfc
        · exact hFI
        · exact fun _ y9 => y9
        · exact fun _ _ => rfl
        · exact Nat.le_refl _
        · exact fun j hj hc => by rw [hjo] at hj; cases hj; exact h_44
      · skip
        have hps9 : ps < w * h := by rw [hFI.2.1]; exact cnt_lt h_44 hk9
        refine lv_aload_n hx hb dX5_join_47 rfl (lv_at hl 1 rfl) ?_
        refine gf_X5_9 hB hfo rfl dX5_join_48 ?_
        refine lv_iload hx hb dX5_join_51 (lv_at hl 0 rfl) ?_
        refine lv_iconst (v := nI 1) hx hb dX5_join_53 (by decide) ?_
        refine mn_zast hB hfd (by first | exact Or.inl rfl | (simp only [ftA]; omega) | (simp [ftA]; omega)) hS (by omega) (by omega) dX5_join_54 (fun H locs hwr => ?_)
        obtain ⟨hfd, ho, hz, hS⟩ := hwr
        have hpb := hpb.kept (ho _ (by omega)) (ho _ (by omega))
        have hfo := hfo.kept (ho _ (by omega))
        have hfc := hfc.kept (ho _ (by omega))
        refine lv_aload_n hx hb dX5_join_55 rfl (lv_at hl 1 rfl) ?_
        refine gf_X5_15 hB hfo rfl dX5_join_56 ?_
        refine lv_aload_n hx hb dX5_join_59 rfl (lv_at hl 1 rfl) ?_
        refine gf_X5_32 hB hfo rfl dX5_join_60 ?_
        refine lv_iload hx hb dX5_join_63 (lv_at hl 0 rfl) ?_
        refine cl_X5_56 (As := [.ref (fb + 2), .int (nI ps), .int (nI ((b0 * w) + a0))]) (rest := []) hB (c_X6_put l g H (fb + 2) 256 pc ps (nI ((b0 * w) + a0)) hfc (by omega) (by first | assumption | omega)) rfl hl.1 (Nat.le_of_ble_eq_true rfl) dX5_join_65 ⟨Nat.le_of_ble_eq_true rfl, Nat.le_of_ble_eq_true rfl⟩ ⟨Nat.le_of_ble_eq_true rfl, Nat.le_of_ble_eq_true rfl⟩ hS (by have hz9 := hS.1; rintro q (h | h) <;> first | exact Or.inr (by omega) | exact h.elim | exact Or.inl h | (simp only [ftA] at h ⊢; omega)) (fun v H1 locs hpo hfr hS => ?_)
        obtain ⟨rfl, hfc⟩ := hpo
        have hpb := hpb.keptF hfr (fun y => by first | exact y.elim | omega) (fun y => by first | exact y.elim | omega)
        have hfo := Fr.keep hfr hfo (by first | omega | exact fun y => y.elim)
        have hfd := Fr.keep hfr hfd (by first | omega | exact fun y => y.elim)
        generalize H1 = H at hfr hS hpb hfo hfd hfc ⊢
        refine W.widen (k := 0) (n := 0) (Nat.le_of_ble_eq_true rfl) (Nat.le_of_ble_eq_true rfl) ?_
        refine lv_aload_n hx hb dX5_join_68 rfl (lv_at hl 1 rfl) ?_
        refine lv_dup hx hb dX5_join_69 rfl ?_
        refine gf_X5_32 hB hfo rfl dX5_join_70 ?_
        refine lv_iconst (v := nI 1) hx hb dX5_join_73 (by decide) ?_
        refine mn_iadd hB dX5_join_74 ?_
        refine pf_X5_32 hB hfo (by first | exact Or.inl rfl | (simp only [ftA]; omega) | (simp [ftA]; omega)) hS rfl rfl (Nat.le_of_ble_eq_true rfl) dX5_join_75 (fun H locs hwr => ?_)
        obtain ⟨hfo, ho, hz, hS⟩ := hwr
        have hpb := hpb.kept (ho _ (by omega)) (ho _ (by omega))
        have hfd := hfd.kept (ho _ (by omega))
        have hfc := hfc.kept (ho _ (by omega))
        refine mh_vret hB ⟨Nat.le_of_ble_eq_true rfl, Nat.le_of_ble_eq_true rfl⟩ hS dX5_join_78 ⟨?_, (upd fd (b0 * w + a0) (vp_nar .boolean (nI 1))), (upd pc ps (nI (b0 * w + a0))), (ps + 1), (fun z9 => if z9 = b0 * w + a0 then true else M z9), ?_, ?_, ?_, ?_, ?_, ?_, ?_, ?_⟩
        · rfl
        · exact hfo
        · exact hfd
        · exact hfc
        · exact hFI.add hk9 hlj9 h_44
        · intro x9 y9
          show (if x9 = b0 * w + a0 then true else M x9) = true
          rw [y9, ite_self]
        · exact fun t9 y9 => upd_n (by omega)
        · exact Nat.le_succ _
        · exact fun j hj hc => by rw [hjo] at hj; cases hj; exact if_pos rfl
    · skip
      refine mh_vret hB ⟨Nat.le_of_ble_eq_true rfl, Nat.le_of_ble_eq_true rfl⟩ hS dX5_join_11 ⟨?_, fd, pc, ps, M, ?_, ?_, ?_, ?_, ?_, ?_, ?_, ?_⟩
      · rfl
      · exact hfo
      · exact hfd
      · exact hfc
      · exact hFI
      · exact fun _ y9 => y9
      · exact fun _ _ => rfl
      · exact Nat.le_refl _
      · exact fun j hj hc => by rw [hjo] at hj; cases hj; exact absurd hc h_8

def rm_c_X5_findPiece : Room := { frames := 3, cells := 0, slots := 0, locals := 68 }
set_option maxRecDepth 100000 in
set_option maxHeartbeats 400000 in
theorem c_X5_findPiece (l : Launch) (g : GG) (H0 : Heap) (fb : Nat) (fd : Nat → Int32) (pc : Nat → Int32) (ps : Int32) (pa : Nat) (pb : Nat) (w : Nat) (h : Nat) (col : Nat → Nat) (i0 : Nat) (hpb : PatB g pa pb w h col H0) (hfo : at_ g H0 fb (eO 5 [.ref (fb + 1), .ref (fb + 2), .int ps])) (hfd : at_ g H0 (fb + 1) (eZ g 256 fd)) (hfc : at_ g H0 (fb + 2) (eI g 256 pc)) (hd1 : pa < fb ∨ fb + 3 ≤ pa) (hd2 : pb < fb ∨ fb + 3 ≤ pb) (hi : i0 < w * h) (hroot : (labC w (w * h) col) i0 = i0) (hfd0 : ∀ j, j < 256 → fd j = bI (decide ((labC w (w * h) col) j < i0 ∧ j < w * h))) : Ct l yX5_findPiece cX5_findPiece 8 none rm_c_X5_findPiece g [.ref fb, .ref pa, .int (nI i0)] H0 (ftA (fun q9 => fb ≤ q9 ∧ q9 < fb + 3) H0.size) (fun v H1 => v = none ∧ ∃ (fd2 : Nat → Int32), ∃ (pc2 : Nat → Int32), at_ g H1 fb (eO 5 [.ref (fb + 1), .ref (fb + 2), .int (nI (szL (labC w (w * h) col) (w * h) i0))]) ∧ at_ g H1 (fb + 1) (eZ g 256 fd2) ∧ at_ g H1 (fb + 2) (eI g 256 pc2) ∧ ∀ j, j < 256 → fd2 j = bI (decide ((labC w (w * h) col) j < i0 + 1 ∧ j < w * h))) := by
  refine Ct.of (by decide) (fun _ h => Or.inr h) (Nat.le_of_ble_eq_true rfl) ?_
  intro p e s m below meth c ls hB hin hS hH hl
  have hx := hB.x
  have hb := hB.b
  have hl : lv_has ls 8 [(0, .ref fb), (1, .ref pa), (2, .int (nI i0))] := hl
  have hw0 := hpb.2.2.1
  have hw16 := hpb.2.2.2.1
  have hh0 := hpb.2.2.2.2.1
  have hh16 := hpb.2.2.2.2.2.1
  have hwh := hpb.2.2.2.2.2.2.1
  have hcol := hpb.2.2.2.2.2.2.2
  refine lv_aload_n hx hb dX5_findPiece_0 rfl (lv_at hl 1 rfl) ?_
  refine gf_X5_42 hB hpb.1 rfl dX5_findPiece_1 ?_
  refine lv_istore_n (lv' := [(3, .int (nI w)), (0, .ref fb), (1, .ref pa), (2, .int (nI i0))]) hx hb dX5_findPiece_4 rfl hl (by decide) rfl (fun ls hl => ?_)
  refine lv_aload_n hx hb dX5_findPiece_5 rfl (lv_at hl 2 rfl) ?_
  refine lv_iload_n hx hb dX5_findPiece_6 rfl (lv_at hl 3 rfl) ?_
  refine cl_X5_45 (As := [.int (nI i0)]) (rest := []) hB (c_X4_colourOf l g H0 pa pb w h col i0 hpb (by omega)) hpb.1 rfl hl.1 (Nat.le_of_ble_eq_true rfl) dX5_findPiece_7 ⟨Nat.le_of_ble_eq_true rfl, Nat.le_of_ble_eq_true rfl⟩ ⟨Nat.le_of_ble_eq_true rfl, Nat.le_of_ble_eq_true rfl⟩ hS (by have hz9 := hS.1; rintro q (h | h) <;> first | exact Or.inr (by omega) | exact h.elim | exact Or.inl h | (simp only [ftA] at h ⊢; omega)) (fun v H1 locs hpo hfr hS => ?_)
  obtain ⟨rfl, rfl⟩ := hpo
  refine W.widen (k := 0) (n := 0) (Nat.le_of_ble_eq_true rfl) (Nat.le_of_ble_eq_true rfl) ?_
  refine mh_top (y := .int (nI (col i0))) (by unfold clO; rw [if_pos hi]) ?_
  have hc6 := hcol i0 hi
  obtain ⟨nx1, nx2, nx3, nx4⟩ := nb_xy hi
  refine lv_istore (lv' := [(4, .int (nI (col i0))), (3, .int (nI w)), (0, .ref fb), (1, .ref pa), (2, .int (nI i0))]) hx hb dX5_findPiece_10 hl (by decide) rfl (fun ls hl => ?_)
  refine lv_aload_n hx hb dX5_findPiece_12 rfl (lv_at hl 2 rfl) ?_
  refine lv_iconst (v := nI 0) hx hb dX5_findPiece_13 (by decide) ?_
  refine pf_X5_32 hB hfo (by first | exact Or.inl rfl | (simp only [ftA]; omega) | (simp [ftA]; omega)) hS rfl rfl (Nat.le_of_ble_eq_true rfl) dX5_findPiece_14 (fun H locs hwr => ?_)
  obtain ⟨hfo, ho, hz, hS⟩ := hwr
  have hpb := hpb.kept (ho _ (by omega)) (ho _ (by omega))
  have hfd := hfd.kept (ho _ (by omega))
  have hfc := hfc.kept (ho _ (by omega))
  refine lv_iload_n hx hb dX5_findPiece_17 rfl (lv_at hl 1 rfl) ?_
  refine mn_if_gt (tgt := 22) hB dX5_findPiece_18 (by decide) (by omega) (fun h_18 => ?_) (fun h => by exfalso; omega)
  refine lv_aload_n hx hb dX5_findPiece_22 rfl (lv_at hl 2 rfl) ?_
  refine lv_aload_n hx hb dX5_findPiece_23 rfl (lv_at hl 3 rfl) ?_
  refine lv_iload_n hx hb dX5_findPiece_24 rfl (lv_at hl 4 rfl) ?_
  refine lv_iload_n hx hb dX5_findPiece_25 rfl (lv_at hl 1 rfl) ?_
  refine mn_irem hB dX5_findPiece_26 (by omega) (by omega) (by omega) ?_
  refine lv_iload_n hx hb dX5_findPiece_27 rfl (lv_at hl 4 rfl) ?_
  refine lv_iload_n hx hb dX5_findPiece_28 rfl (lv_at hl 1 rfl) ?_
  refine mn_idiv hB dX5_findPiece_29 (by omega) (by omega) (by omega) ?_
  refine lv_iload hx hb dX5_findPiece_30 (lv_at hl 0 rfl) ?_
  refine cl_X5_49 (As := [.ref pa, .int (nI (i0 % w)), .int (nI (i0 / w)), .int (nI (col i0))]) (rest := []) hB (c_X5_join l g H fb fd pc 0 pa pb w h col (nI (i0 % w)) (nI (i0 / w)) (col i0) (some i0) (labC w (w * h) col) i0 (fun _ => false) hpb hfo hfd hfc (by first | assumption | omega) (by first | assumption | omega) (hc6) (⟨i0 % w, i0 / w, rfl, rfl, nx2, nx3, nx4.symm⟩) (fun j9 hj9 _ => by cases hj9; exact hroot) (FI.first hwh hfd0)) hfo rfl hl.1 (Nat.le_of_ble_eq_true rfl) dX5_findPiece_32 ⟨Nat.le_of_ble_eq_true rfl, Nat.le_of_ble_eq_true rfl⟩ ⟨Nat.le_of_ble_eq_true rfl, Nat.le_of_ble_eq_true rfl⟩ hS (by have hz9 := hS.1; rintro q (h | h) <;> first | exact Or.inr (by omega) | exact h.elim | exact Or.inl h | (simp only [ftA] at h ⊢; omega)) (fun v H1 locs hpo hfr hS => ?_)
  obtain ⟨rfl, fd2_1, pc2_2, ps2_3, M2_4, hfo, hfd, hfc, hF0, hM0, hq0, hle0, hj0⟩ := hpo
  have hpb := hpb.keptF hfr (fun y => by first | exact y.elim | omega) (fun y => by first | exact y.elim | omega)
  generalize H1 = H at hfr hS hpb hfo hfd hfc hF0 hM0 hq0 hle0 hj0 ⊢
  refine W.widen (k := 0) (n := 0) (Nat.le_of_ble_eq_true rfl) (Nat.le_of_ble_eq_true rfl) ?_
  refine lv_iconst (v := nI 0) hx hb dX5_findPiece_35 (by decide) ?_
  refine lv_istore (lv' := [(5, .int (nI 0)), (4, .int (nI (col i0))), (3, .int (nI w)), (0, .ref fb), (1, .ref pa), (2, .int (nI i0))]) hx hb dX5_findPiece_36 hl (by decide) rfl (fun ls hl => ?_)
  refine mh_loop (σ := Nat × (Nat → Bool) × (Nat → Int32) × (Nat → Int32) × Nat) (fun xx9 H locs ls => match xx9 with | (k5, Mi, fdi, pci, psi) => FI (labC w (w * h) col) (w * h) i0 Mi fdi pci psi ∧ FN w (w * h) col Mi pci k5 ∧ Mi i0 = true ∧ k5 ≤ psi ∧ PatB g pa pb w h col H ∧ at_ g H fb (eO 5 [.ref (fb + 1), .ref (fb + 2), .int (nI psi)]) ∧ at_ g H (fb + 1) (eZ g 256 fdi) ∧ at_ g H (fb + 2) (eI g 256 pci) ∧ va_S (ftA (fun q9 => fb ≤ q9 ∧ q9 < fb + 3) H0.size) H0 H locs ∧ lv_has ls 8 [(0, .ref fb), (1, .ref pa), (2, .int (nI i0)), (3, .int (nI w)), (4, .int (nI (col i0))), (5, .int (nI k5))]) (fun xx9 => match xx9 with | (k5, Mi, fdi, pci, psi) => w * h - k5) ?_ (0, M2_4, fd2_1, pc2_2, ps2_3) ⟨(hF0), (fun t9 y9 => absurd y9 (Nat.not_lt_zero _)), (hj0 i0 rfl rfl), (Nat.zero_le _), hpb, hfo, hfd, hfc, hS, lv_sub hl [3, 4, 5, 2, 1, 0] rfl⟩
  rintro ⟨k5, Mi, fdi, pci, psi⟩ H locs ls ⟨hFi, hNi, hMi, hki, hpb, hfo, hfd, hfc, hS, hl⟩ ih
  have ih38 := ih
  have hpn := hFi.ps_le
  refine lv_iload hx hb dX5_findPiece_38 (lv_at hl 5 rfl) ?_
  refine lv_aload_n hx hb dX5_findPiece_40 rfl (lv_at hl 0 rfl) ?_
  refine gf_X5_32 hB hfo rfl dX5_findPiece_41 ?_
  refine mn_icmp_ge (tgt := 137) hB dX5_findPiece_44 (by decide) (by omega) (by omega) (fun h_44 => ?_) (fun h_44 => ?_)
  · skip
    have hkp : psi = k5 := by omega
    have hNi2 : FN w (w * h) col Mi pci psi := by rw [hkp]; exact hNi
    have hsz9 := hFi.size hNi2 hMi
    refine mh_vret hB ⟨Nat.le_of_ble_eq_true rfl, Nat.le_of_ble_eq_true rfl⟩ hS dX5_findPiece_137 ⟨?_, fdi, pci, ?_, ?_, ?_, ?_⟩
    · rfl
    · rw [← hsz9]
      exact hfo
    · exact hfd
    · exact hfc
    · exact hFi.done hNi2 hMi
  · skip
    have hpn := hFi.ps_le
    obtain ⟨x5, hx1, hx2, hx3⟩ := hFi.2.2.1 k5 (by omega)
    obtain ⟨hx4, hlx, _⟩ := hFi.2.2.2 x5 hx3
    have hcx : col x5 = col i0 := by have h9 := (lab_cn (w := w) (n := w * h) (col := col) x5).colr; rw [hlx] at h9; exact h9.symm
    obtain ⟨ny1, ny2, ny3, ny4⟩ := nb_xy hx2
    refine lv_iload hx hb dX5_findPiece_47 (lv_at hl 5 rfl) ?_
    refine lv_aload_n hx hb dX5_findPiece_49 rfl (lv_at hl 0 rfl) ?_
    refine gf_X5_15 hB hfo rfl dX5_findPiece_50 ?_
    refine mh_alen hB 0 rfl hfc dX5_findPiece_53 ?_
    refine mn_icmp_ge (tgt := 137) hB dX5_findPiece_54 (by decide) (by omega) (by omega) (fun h => by exfalso; omega) (fun h_54 => ?_)
    refine lv_aload_n hx hb dX5_findPiece_57 rfl (lv_at hl 0 rfl) ?_
    refine gf_X5_15 hB hfo rfl dX5_findPiece_58 ?_
    refine lv_iload hx hb dX5_findPiece_61 (lv_at hl 5 rfl) ?_
    refine mn_iald hB hfc (by omega) (by omega) dX5_findPiece_63 ?_
    refine mh_top (y := .int (nI x5)) (by rw [hx1]) ?_
    refine lv_iload_n hx hb dX5_findPiece_64 rfl (lv_at hl 3 rfl) ?_
    refine mn_irem hB dX5_findPiece_65 (by omega) (by omega) (by omega) ?_
    refine lv_istore (lv' := [(6, .int (nI (x5 % w))), (0, .ref fb), (1, .ref pa), (2, .int (nI i0)), (3, .int (nI w)), (4, .int (nI (col i0))), (5, .int (nI k5))]) hx hb dX5_findPiece_66 hl (by decide) rfl (fun ls hl => ?_)
    refine lv_aload_n hx hb dX5_findPiece_68 rfl (lv_at hl 1 rfl) ?_
    refine gf_X5_15 hB hfo rfl dX5_findPiece_69 ?_
    refine lv_iload hx hb dX5_findPiece_72 (lv_at hl 6 rfl) ?_
    refine mn_iald hB hfc (by omega) (by omega) dX5_findPiece_74 ?_
    refine mh_top (y := .int (nI x5)) (by rw [hx1]) ?_
    refine lv_iload_n hx hb dX5_findPiece_75 rfl (lv_at hl 4 rfl) ?_
    refine mn_idiv hB dX5_findPiece_76 (by omega) (by omega) (by omega) ?_
    refine lv_istore (lv' := [(7, .int (nI (x5 / w))), (6, .int (nI (x5 % w))), (0, .ref fb), (1, .ref pa), (2, .int (nI i0)), (3, .int (nI w)), (4, .int (nI (col i0))), (5, .int (nI k5))]) hx hb dX5_findPiece_77 hl (by decide) rfl (fun ls hl => ?_)
    refine lv_aload_n hx hb dX5_findPiece_79 rfl (lv_at hl 2 rfl) ?_
    refine lv_aload_n hx hb dX5_findPiece_80 rfl (lv_at hl 3 rfl) ?_
    refine lv_iload hx hb dX5_findPiece_81 (lv_at hl 1 rfl) ?_
    refine lv_iconst (v := nI 1) hx hb dX5_findPiece_83 (by decide) ?_
    refine lv_isub hx hb dX5_findPiece_84 ?_
    refine lv_iload hx hb dX5_findPiece_85 (lv_at hl 0 rfl) ?_
    refine lv_iload hx hb dX5_findPiece_87 (lv_at hl 6 rfl) ?_
    refine cl_X5_49 (As := [.ref pa, .int ((nI (x5 % w)) - (nI 1)), .int (nI (x5 / w)), .int (nI (col i0))]) (rest := []) hB (c_X5_join l g H fb fdi pci psi pa pb w h col ((nI (x5 % w)) - (nI 1)) (nI (x5 / w)) (col i0) (nbL w x5) (labC w (w * h) col) i0 Mi hpb hfo hfd hfc (by first | assumption | omega) (by first | assumption | omega) (hc6) (nbL_R hw16 hh16 hx2) (fun j9 hj9 hc9 => ((nb_cn hx2 (Or.inl hj9)).2 (hc9.trans hcx.symm)).trans hlx) (hFi)) hfo rfl hl.1 (Nat.le_of_ble_eq_true rfl) dX5_findPiece_89 ⟨Nat.le_of_ble_eq_true rfl, Nat.le_of_ble_eq_true rfl⟩ ⟨Nat.le_of_ble_eq_true rfl, Nat.le_of_ble_eq_true rfl⟩ hS (by have hz9 := hS.1; rintro q (h | h) <;> first | exact Or.inr (by omega) | exact h.elim | exact Or.inl h | (simp only [ftA] at h ⊢; omega)) (fun v H1 locs hpo hfr hS => ?_)
    obtain ⟨rfl, fd2_5, pc2_6, ps2_7, M2_8, hfo, hfd, hfc, hFa, hMa, hqa, hlea, hja⟩ := hpo
    have hpb := hpb.keptF hfr (fun y => by first | exact y.elim | omega) (fun y => by first | exact y.elim | omega)
    generalize H1 = H at hfr hS hpb hfo hfd hfc hFa hMa hqa hlea hja ⊢
    refine W.widen (k := 0) (n := 0) (Nat.le_of_ble_eq_true rfl) (Nat.le_of_ble_eq_true rfl) ?_
    refine lv_aload_n hx hb dX5_findPiece_92 rfl (lv_at hl 2 rfl) ?_
    refine lv_aload_n hx hb dX5_findPiece_93 rfl (lv_at hl 3 rfl) ?_
    refine lv_iload hx hb dX5_findPiece_94 (lv_at hl 1 rfl) ?_
    refine lv_iconst (v := nI 1) hx hb dX5_findPiece_96 (by decide) ?_
    refine mn_iadd hB dX5_findPiece_97 ?_
    refine lv_iload hx hb dX5_findPiece_98 (lv_at hl 0 rfl) ?_
    refine lv_iload hx hb dX5_findPiece_100 (lv_at hl 6 rfl) ?_
    refine cl_X5_49 (As := [.ref pa, .int (nI ((x5 % w) + 1)), .int (nI (x5 / w)), .int (nI (col i0))]) (rest := []) hB (c_X5_join l g H fb fd2_5 pc2_6 ps2_7 pa pb w h col (nI ((x5 % w) + 1)) (nI (x5 / w)) (col i0) (nbT w x5) (labC w (w * h) col) i0 M2_8 hpb hfo hfd hfc (by first | assumption | omega) (by first | assumption | omega) (hc6) (nbT_R hw16 hh16 hx2) (fun j9 hj9 hc9 => ((nb_cn hx2 (Or.inr (Or.inl hj9))).2 (hc9.trans hcx.symm)).trans hlx) (hFa)) hfo rfl hl.1 (Nat.le_of_ble_eq_true rfl) dX5_findPiece_102 ⟨Nat.le_of_ble_eq_true rfl, Nat.le_of_ble_eq_true rfl⟩ ⟨Nat.le_of_ble_eq_true rfl, Nat.le_of_ble_eq_true rfl⟩ hS (by have hz9 := hS.1; rintro q (h | h) <;> first | exact Or.inr (by omega) | exact h.elim | exact Or.inl h | (simp only [ftA] at h ⊢; omega)) (fun v H1 locs hpo hfr hS => ?_)
    obtain ⟨rfl, fd2_9, pc2_10, ps2_11, M2_12, hfo, hfd, hfc, hFb, hMb, hqb, hleb, hjb⟩ := hpo
    have hpb := hpb.keptF hfr (fun y => by first | exact y.elim | omega) (fun y => by first | exact y.elim | omega)
    generalize H1 = H at hfr hS hpb hfo hfd hfc hFb hMb hqb hleb hjb ⊢
    refine W.widen (k := 0) (n := 0) (Nat.le_of_ble_eq_true rfl) (Nat.le_of_ble_eq_true rfl) ?_
    refine lv_aload_n hx hb dX5_findPiece_105 rfl (lv_at hl 2 rfl) ?_
    refine lv_aload_n hx hb dX5_findPiece_106 rfl (lv_at hl 3 rfl) ?_
    refine lv_iload hx hb dX5_findPiece_107 (lv_at hl 1 rfl) ?_
    refine lv_iload hx hb dX5_findPiece_109 (lv_at hl 0 rfl) ?_
    refine lv_iconst (v := nI 1) hx hb dX5_findPiece_111 (by decide) ?_
    refine lv_isub hx hb dX5_findPiece_112 ?_
    refine lv_iload hx hb dX5_findPiece_113 (lv_at hl 6 rfl) ?_
    refine cl_X5_49 (As := [.ref pa, .int (nI (x5 % w)), .int ((nI (x5 / w)) - (nI 1)), .int (nI (col i0))]) (rest := []) hB (c_X5_join l g H fb fd2_9 pc2_10 ps2_11 pa pb w h col (nI (x5 % w)) ((nI (x5 / w)) - (nI 1)) (col i0) (nbU w x5) (labC w (w * h) col) i0 M2_12 hpb hfo hfd hfc (by first | assumption | omega) (by first | assumption | omega) (hc6) (nbU_R hw16 hh16 hx2) (fun j9 hj9 hc9 => ((nb_cn hx2 (Or.inr (Or.inr (Or.inl hj9)))).2 (hc9.trans hcx.symm)).trans hlx) (hFb)) hfo rfl hl.1 (Nat.le_of_ble_eq_true rfl) dX5_findPiece_115 ⟨Nat.le_of_ble_eq_true rfl, Nat.le_of_ble_eq_true rfl⟩ ⟨Nat.le_of_ble_eq_true rfl, Nat.le_of_ble_eq_true rfl⟩ hS (by have hz9 := hS.1; rintro q (h | h) <;> first | exact Or.inr (by omega) | exact h.elim | exact Or.inl h | (simp only [ftA] at h ⊢; omega)) (fun v H1 locs hpo hfr hS => ?_)
    obtain ⟨rfl, fd2_13, pc2_14, ps2_15, M2_16, hfo, hfd, hfc, hFc, hMc, hqc, hlec, hjc⟩ := hpo
    have hpb := hpb.keptF hfr (fun y => by first | exact y.elim | omega) (fun y => by first | exact y.elim | omega)
    generalize H1 = H at hfr hS hpb hfo hfd hfc hFc hMc hqc hlec hjc ⊢
    refine W.widen (k := 0) (n := 0) (Nat.le_of_ble_eq_true rfl) (Nat.le_of_ble_eq_true rfl) ?_
    refine lv_aload_n hx hb dX5_findPiece_118 rfl (lv_at hl 2 rfl) ?_
    refine lv_aload_n hx hb dX5_findPiece_119 rfl (lv_at hl 3 rfl) ?_
    refine lv_iload hx hb dX5_findPiece_120 (lv_at hl 1 rfl) ?_
    refine lv_iload hx hb dX5_findPiece_122 (lv_at hl 0 rfl) ?_
    refine lv_iconst (v := nI 1) hx hb dX5_findPiece_124 (by decide) ?_
    refine mn_iadd hB dX5_findPiece_125 ?_
    refine lv_iload hx hb dX5_findPiece_126 (lv_at hl 6 rfl) ?_
    refine cl_X5_49 (As := [.ref pa, .int (nI (x5 % w)), .int (nI ((x5 / w) + 1)), .int (nI (col i0))]) (rest := []) hB (c_X5_join l g H fb fd2_13 pc2_14 ps2_15 pa pb w h col (nI (x5 % w)) (nI ((x5 / w) + 1)) (col i0) (nbD w h x5) (labC w (w * h) col) i0 M2_16 hpb hfo hfd hfc (by first | assumption | omega) (by first | assumption | omega) (hc6) (nbD_R hw16 hh16 hx2) (fun j9 hj9 hc9 => ((nb_cn hx2 (Or.inr (Or.inr (Or.inr hj9)))).2 (hc9.trans hcx.symm)).trans hlx) (hFc)) hfo rfl hl.1 (Nat.le_of_ble_eq_true rfl) dX5_findPiece_128 ⟨Nat.le_of_ble_eq_true rfl, Nat.le_of_ble_eq_true rfl⟩ ⟨Nat.le_of_ble_eq_true rfl, Nat.le_of_ble_eq_true rfl⟩ hS (by have hz9 := hS.1; rintro q (h | h) <;> first | exact Or.inr (by omega) | exact h.elim | exact Or.inl h | (simp only [ftA] at h ⊢; omega)) (fun v H1 locs hpo hfr hS => ?_)
    obtain ⟨rfl, fd2_17, pc2_18, ps2_19, M2_20, hfo, hfd, hfc, hFd, hMd, hqd, hled, hjd⟩ := hpo
    have hpb := hpb.keptF hfr (fun y => by first | exact y.elim | omega) (fun y => by first | exact y.elim | omega)
    generalize H1 = H at hfr hS hpb hfo hfd hfc hFd hMd hqd hled hjd ⊢
    refine W.widen (k := 0) (n := 0) (Nat.le_of_ble_eq_true rfl) (Nat.le_of_ble_eq_true rfl) ?_
    have hall : ∀ y9, (Edg w (w * h) col x5 y9 ∨ Edg w (w * h) col y9 x5) → M2_20 y9 = true := fun y9 e9 => by
      have hcy : col y9 = col i0 := (e9.elim (fun z9 => z9.2.1.symm) (fun z9 => z9.2.1)).trans hcx
      rcases nb_of hx2 e9 with z9 | z9 | z9 | z9
      · exact hMd _ (hMc _ (hMb _ (hja y9 z9 hcy)))
      · exact hMd _ (hMc _ (hjb y9 z9 hcy))
      · exact hMd _ (hjc y9 z9 hcy)
      · exact hjd y9 z9 hcy
    have hN9 := hNi.next (fun x9 y9 => hMd _ (hMc _ (hMb _ (hMa _ y9)))) (fun t9 y9 => (hqd t9 (by omega)).trans ((hqc t9 (by omega)).trans ((hqb t9 (by omega)).trans (hqa t9 (by omega))))) hx1 hx2 hwh hall
    refine lv_iinc (v := nI (k5 + 1)) (lv' := [(5, .int (nI (k5 + 1))), (7, .int (nI (x5 / w))), (6, .int (nI (x5 % w))), (0, .ref fb), (1, .ref pa), (2, .int (nI i0)), (3, .int (nI w)), (4, .int (nI (col i0)))]) hx hb dX5_findPiece_131 hl (k := 7) rfl (nI_1 _) (by decide) rfl (fun ls hl => ?_)
    refine lv_goto (tgt := 38) hx hb dX5_findPiece_134 (by decide) ?_
    refine ih38 (k5 + 1, M2_20, fd2_17, pc2_18, ps2_19) _ _ _ ⟨(hFd), (hN9), (hMd _ (hMc _ (hMb _ (hMa _ hMi)))), (by omega), hpb, hfo, hfd, hfc, hS, lv_sub hl [3, 4, 5, 6, 7, 0] rfl⟩ (by dsimp only; omega)

def rm_c_X5_forgetFound : Room := { frames := 0, cells := 0, slots := 0, locals := 0 }
set_option maxRecDepth 100000 in
set_option maxHeartbeats 400000 in
theorem c_X5_forgetFound (l : Launch) (g : GG) (H0 : Heap) (fb : Nat) (fd : Nat → Int32) (ps : Int32) (hfo : at_ g H0 fb (eO 5 [.ref (fb + 1), .ref (fb + 2), .int ps])) (hfd : at_ g H0 (fb + 1) (eZ g 256 fd)) : Ct l yX5_forgetFound cX5_forgetFound 2 none rm_c_X5_forgetFound g [.ref fb] H0 (ftA (fun q9 => q9 = fb + 1) H0.size) (fun v H1 => v = none ∧ at_ g H1 (fb + 1) (eZ g 256 (fun _ => 0))) := by
  refine Ct.of (by decide) (fun _ h => Or.inr h) (Nat.le_of_ble_eq_true rfl) ?_
  intro p e s m below meth c ls hB hin hS hH hl
  have hx := hB.x
  have hb := hB.b
  have hl : lv_has ls 2 [(0, .ref fb)] := hl
  refine lv_iconst (v := nI 0) hx hb dX5_forgetFound_0 (by decide) ?_
  refine lv_istore_n (lv' := [(1, .int (nI 0)), (0, .ref fb)]) hx hb dX5_forgetFound_1 rfl hl (by decide) rfl (fun ls hl => ?_)
  refine mh_loop (σ := Nat) (fun xx9 H locs ls => match xx9 with | i => i ≤ 256 ∧ at_ g H fb (eO 5 [.ref (fb + 1), .ref (fb + 2), .int ps]) ∧ at_ g H (fb + 1) (eZ g 256 (lowOf (fun _ => 0) fd i)) ∧ va_S (ftA (fun q9 => q9 = fb + 1) H0.size) H0 H locs ∧ lv_has ls 2 [(0, .ref fb), (1, .int (nI i))]) (fun xx9 => match xx9 with | i => 256 - i) ?_ 0 ⟨(by omega), hfo, (by rw [lowOf_0]; exact hfd), hS, lv_sub hl [1, 0] rfl⟩
  rintro i H locs ls ⟨hi, hfo, hfd, hS, hl⟩ ih
  have ih2 := ih
  refine lv_iload_n hx hb dX5_forgetFound_2 rfl (lv_at hl 1 rfl) ?_
  refine lv_aload_n hx hb dX5_forgetFound_3 rfl (lv_at hl 0 rfl) ?_
  refine gf_X5_9 hB hfo rfl dX5_forgetFound_4 ?_
  refine mh_alen hB 2 rfl hfd dX5_forgetFound_7 ?_
  refine mn_icmp_ge (tgt := 24) hB dX5_forgetFound_8 (by decide) (by omega) (by omega) (fun h_8 => ?_) (fun h_8 => ?_)
  · skip
    have hin : i = 256 := by omega
    subst hin
    refine mh_vret hB ⟨Nat.le_of_ble_eq_true rfl, Nat.le_of_ble_eq_true rfl⟩ hS dX5_forgetFound_24 ⟨?_, ?_⟩
    · rfl
    · exact hfd.eqZ (fun j hj => lowOf_all _ _ hj)
  · skip
    refine lv_aload_n hx hb dX5_forgetFound_11 rfl (lv_at hl 0 rfl) ?_
    refine gf_X5_9 hB hfo rfl dX5_forgetFound_12 ?_
    refine lv_iload_n hx hb dX5_forgetFound_15 rfl (lv_at hl 1 rfl) ?_
    refine lv_iconst (v := nI 0) hx hb dX5_forgetFound_16 (by decide) ?_
    refine mn_zast hB hfd (by first | exact Or.inl rfl | (simp only [ftA]; omega) | (simp [ftA]; omega)) hS (by omega) (by omega) dX5_forgetFound_17 (fun H locs hwr => ?_)
    obtain ⟨hfd, ho, hz, hS⟩ := hwr
    have hfo := hfo.kept (ho _ (by omega))
    refine lv_iinc (v := nI (i + 1)) (lv' := [(1, .int (nI (i + 1))), (0, .ref fb)]) hx hb dX5_forgetFound_18 hl (k := 1) rfl (nI_1 _) (by decide) rfl (fun ls hl => ?_)
    refine lv_goto (tgt := 2) hx hb dX5_forgetFound_21 (by decide) ?_
    refine ih2 (i + 1) _ _ _ ⟨(by omega), hfo, (by rw [← lowOf_up]; exact hfd), hS, lv_sub hl [1, 0] rfl⟩ (by dsimp only; omega)

def rm_c_X5_piecesOf : Room := { frames := 4, cells := 0, slots := 0, locals := 95 }
set_option maxRecDepth 100000 in
set_option maxHeartbeats 400000 in
theorem c_X5_piecesOf (l : Launch) (g : GG) (H0 : Heap) (fb : Nat) (fd : Nat → Int32) (pc : Nat → Int32) (ps : Int32) (pa : Nat) (pb : Nat) (w : Nat) (h : Nat) (col : Nat → Nat) (hpb : PatB g pa pb w h col H0) (hfo : at_ g H0 fb (eO 5 [.ref (fb + 1), .ref (fb + 2), .int ps])) (hfd : at_ g H0 (fb + 1) (eZ g 256 fd)) (hfc : at_ g H0 (fb + 2) (eI g 256 pc)) (hd1 : pa < fb ∨ fb + 3 ≤ pa) (hd2 : pb < fb ∨ fb + 3 ≤ pb) : Ct l yX5_piecesOf cX5_piecesOf 4 (some .int) rm_c_X5_piecesOf g [.ref fb, .ref pa] H0 (ftA (fun q9 => fb ≤ q9 ∧ q9 < fb + 3) H0.size) (fun v H1 => v = some (.int (nI (pcN (labC w (w * h) col) (w * h) (w * h)))) ∧ ∃ (fd2 : Nat → Int32), ∃ (pc2 : Nat → Int32), ∃ (ps2 : Int32), at_ g H1 fb (eO 5 [.ref (fb + 1), .ref (fb + 2), .int ps2]) ∧ at_ g H1 (fb + 1) (eZ g 256 fd2) ∧ at_ g H1 (fb + 2) (eI g 256 pc2)) := by
  refine Ct.of (by decide) (fun _ h => Or.inr h) (Nat.le_of_ble_eq_true rfl) ?_
  intro p e s m below meth c ls hB hin hS hH hl
  have hx := hB.x
  have hb := hB.b
  have hl : lv_has ls 4 [(0, .ref fb), (1, .ref pa)] := hl
  have hw0 := hpb.2.2.1
  have hw16 := hpb.2.2.2.1
  have hh0 := hpb.2.2.2.2.1
  have hh16 := hpb.2.2.2.2.2.1
  have hwh := hpb.2.2.2.2.2.2.1
  have hcol := hpb.2.2.2.2.2.2.2
  refine lv_iconst (v := nI 0) hx hb dX5_piecesOf_0 (by decide) ?_
  refine lv_istore_n (lv' := [(2, .int (nI 0)), (0, .ref fb), (1, .ref pa)]) hx hb dX5_piecesOf_1 rfl hl (by decide) rfl (fun ls hl => ?_)
  refine lv_aload_n hx hb dX5_piecesOf_2 rfl (lv_at hl 1 rfl) ?_
  refine cl_X5_19 (As := []) (rest := []) hB (c_X5_forgetFound l g H0 fb fd ps hfo hfd) hfo rfl hl.1 (Nat.le_of_ble_eq_true rfl) dX5_piecesOf_3 ⟨Nat.le_of_ble_eq_true rfl, Nat.le_of_ble_eq_true rfl⟩ ⟨Nat.le_of_ble_eq_true rfl, Nat.le_of_ble_eq_true rfl⟩ hS (by have hz9 := hS.1; rintro q (h | h) <;> first | exact Or.inr (by omega) | exact h.elim | exact Or.inl h | (simp only [ftA] at h ⊢; omega)) (fun v H1 locs hpo hfr hS => ?_)
  obtain ⟨rfl, hfd⟩ := hpo
  have hpb := hpb.keptF hfr (fun y => by first | exact y.elim | omega) (fun y => by first | exact y.elim | omega)
  have hfo := Fr.keep hfr hfo (by first | omega | exact fun y => y.elim)
  have hfc := Fr.keep hfr hfc (by first | omega | exact fun y => y.elim)
  generalize H1 = H at hfr hS hpb hfo hfc hfd ⊢
  refine W.widen (k := 0) (n := 0) (Nat.le_of_ble_eq_true rfl) (Nat.le_of_ble_eq_true rfl) ?_
  refine lv_iconst (v := nI 0) hx hb dX5_piecesOf_6 (by decide) ?_
  refine lv_istore_n (lv' := [(3, .int (nI 0)), (2, .int (nI 0)), (0, .ref fb), (1, .ref pa)]) hx hb dX5_piecesOf_7 rfl hl (by decide) rfl (fun ls hl => ?_)
  refine mh_loop (σ := Nat × (Nat → Int32) × (Nat → Int32) × Int32) (fun xx9 H locs ls => match xx9 with | (k9, fdi, pci, psi) => k9 ≤ w * h ∧ (∀ j, j < 256 → fdi j = bI (decide ((labC w (w * h) col) j < k9 ∧ j < w * h))) ∧ PatB g pa pb w h col H ∧ at_ g H fb (eO 5 [.ref (fb + 1), .ref (fb + 2), .int psi]) ∧ at_ g H (fb + 1) (eZ g 256 fdi) ∧ at_ g H (fb + 2) (eI g 256 pci) ∧ va_S (ftA (fun q9 => fb ≤ q9 ∧ q9 < fb + 3) H0.size) H0 H locs ∧ lv_has ls 4 [(0, .ref fb), (1, .ref pa), (2, .int (nI (pcN (labC w (w * h) col) (w * h) k9))), (3, .int (nI k9))]) (fun xx9 => match xx9 with | (k9, fdi, pci, psi) => w * h - k9) ?_ (0, (fun _ => 0), pc, ps) ⟨(Nat.zero_le _), (fun j9 hj9 => by rw [decide_eq_false (fun y9 => absurd y9.1 (Nat.not_lt_zero _))]; rfl), hpb, hfo, hfd, hfc, hS, lv_sub hl [2, 3, 1, 0] rfl⟩
  rintro ⟨k9, fdi, pci, psi⟩ H locs ls ⟨hk9, hfi, hpb, hfo, hfd, hfc, hS, hl⟩ ih
  have ih8 := ih
  refine lv_iload_n hx hb dX5_piecesOf_8 rfl (lv_at hl 3 rfl) ?_
  refine lv_aload_n hx hb dX5_piecesOf_9 rfl (lv_at hl 1 rfl) ?_
  refine cl_X5_22 (As := []) (rest := [.int (nI k9)]) hB (c_X4_patches l g H pa pb w h col hpb) hpb.1 rfl hl.1 (Nat.le_of_ble_eq_true rfl) dX5_piecesOf_10 ⟨Nat.le_of_ble_eq_true rfl, Nat.le_of_ble_eq_true rfl⟩ ⟨Nat.le_of_ble_eq_true rfl, Nat.le_of_ble_eq_true rfl⟩ hS (by have hz9 := hS.1; rintro q (h | h) <;> first | exact Or.inr (by omega) | exact h.elim | exact Or.inl h | (simp only [ftA] at h ⊢; omega)) (fun v H1 locs hpo hfr hS => ?_)
  obtain ⟨rfl, rfl⟩ := hpo
  refine W.widen (k := 0) (n := 0) (Nat.le_of_ble_eq_true rfl) (Nat.le_of_ble_eq_true rfl) ?_
  refine mn_icmp_ge (tgt := 49) hB dX5_piecesOf_13 (by decide) (by omega) (by omega) (fun h_13 => ?_) (fun h_13 => ?_)
  · skip
    refine lv_iload_n hx hb dX5_piecesOf_49 rfl (lv_at hl 2 rfl) ?_
    have hkn : k9 = w * h := by omega
    refine mh_iret hB ⟨Nat.le_of_ble_eq_true rfl, Nat.le_of_ble_eq_true rfl⟩ hS dX5_piecesOf_50 ⟨?_, fdi, pci, psi, ?_, ?_, ?_⟩
    · rw [hkn]
    · exact hfo
    · exact hfd
    · exact hfc
  · skip
    refine lv_iload_n hx hb dX5_piecesOf_16 rfl (lv_at hl 3 rfl) ?_
    refine lv_aload_n hx hb dX5_piecesOf_17 rfl (lv_at hl 0 rfl) ?_
    refine gf_X5_9 hB hfo rfl dX5_piecesOf_18 ?_
    refine mh_alen hB 2 rfl hfd dX5_piecesOf_21 ?_
    refine mn_icmp_ge (tgt := 49) hB dX5_piecesOf_22 (by decide) (by omega) (by omega) (fun h => by exfalso; omega) (fun h_22 => ?_)
    refine lv_aload_n hx hb dX5_piecesOf_25 rfl (lv_at hl 0 rfl) ?_
    refine gf_X5_9 hB hfo rfl dX5_piecesOf_26 ?_
    refine lv_iload_n hx hb dX5_piecesOf_29 rfl (lv_at hl 3 rfl) ?_
    refine mn_zald hB hfd (by omega) (by omega) dX5_piecesOf_30 ?_
    refine mh_top (y := .int (bI (decide ((labC w (w * h) col) k9 < k9 ∧ k9 < w * h)))) (by rw [hfi k9 (by omega)]) ?_
    refine mb_if_ne (tgt := 43) hB dX5_piecesOf_31 (by decide) (fun h_31 => ?_) (fun h_31 => ?_)
    · skip
      have h31 := of_decide_eq_true h_31
      have hnr : ¬ (labC w (w * h) col) k9 = k9 := by omega
      have hfn := fd_no hfi h31.1
      have e9 : pcN (labC w (w * h) col) (w * h) k9 = pcN (labC w (w * h) col) (w * h) (k9 + 1) := by rw [pcN_s (by omega), if_neg hnr]; rfl
      rw [e9] at hl
      refine lv_iinc (v := nI (k9 + 1)) (lv' := [(3, .int (nI (k9 + 1))), (0, .ref fb), (1, .ref pa), (2, .int (nI (pcN (labC w (w * h) col) (w * h) (k9 + 1))))]) hx hb dX5_piecesOf_43 hl (k := 3) rfl (nI_1 _) (by decide) rfl (fun ls hl => ?_)
      refine lv_goto (tgt := 8) hx hb dX5_piecesOf_46 (by decide) ?_
      refine ih8 (k9 + 1, fdi, pci, psi) _ _ _ ⟨(by omega), (hfn), hpb, hfo, hfd, hfc, hS, lv_sub hl [1, 2, 3, 0] rfl⟩ (by dsimp only; omega)
    · skip
      have h31 := of_decide_eq_false h_31
      have hle9 := lab_le (w := w) (n := w * h) (col := col) k9
      have hroot : (labC w (w * h) col) k9 = k9 := by omega
      refine lv_aload_n hx hb dX5_piecesOf_34 rfl (lv_at hl 0 rfl) ?_
      refine lv_aload_n hx hb dX5_piecesOf_35 rfl (lv_at hl 1 rfl) ?_
      refine lv_iload_n hx hb dX5_piecesOf_36 rfl (lv_at hl 3 rfl) ?_
      refine cl_X5_28 (As := [.ref pa, .int (nI k9)]) (rest := []) hB (c_X5_findPiece l g H fb fdi pci psi pa pb w h col k9 hpb hfo hfd hfc (by first | assumption | omega) (by first | assumption | omega) (by omega) (hroot) (hfi)) hfo rfl hl.1 (Nat.le_of_ble_eq_true rfl) dX5_piecesOf_37 ⟨Nat.le_of_ble_eq_true rfl, Nat.le_of_ble_eq_true rfl⟩ ⟨Nat.le_of_ble_eq_true rfl, Nat.le_of_ble_eq_true rfl⟩ hS (by have hz9 := hS.1; rintro q (h | h) <;> first | exact Or.inr (by omega) | exact h.elim | exact Or.inl h | (simp only [ftA] at h ⊢; omega)) (fun v H1 locs hpo hfr hS => ?_)
      obtain ⟨rfl, fd2_1, pc2_2, hfo, hfd, hfc, hfn⟩ := hpo
      have hpb := hpb.keptF hfr (fun y => by first | exact y.elim | omega) (fun y => by first | exact y.elim | omega)
      generalize H1 = H at hfr hS hpb hfo hfd hfc hfn ⊢
      refine W.widen (k := 0) (n := 0) (Nat.le_of_ble_eq_true rfl) (Nat.le_of_ble_eq_true rfl) ?_
      refine lv_iinc (v := nI (pcN (labC w (w * h) col) (w * h) k9 + 1)) (lv' := [(2, .int (nI (pcN (labC w (w * h) col) (w * h) k9 + 1))), (0, .ref fb), (1, .ref pa), (3, .int (nI k9))]) hx hb dX5_piecesOf_40 hl (k := 2) rfl (nI_1 _) (by decide) rfl (fun ls hl => ?_)
      have e9 : pcN (labC w (w * h) col) (w * h) k9 + 1 = pcN (labC w (w * h) col) (w * h) (k9 + 1) := by rw [pcN_s (by omega), if_pos hroot]
      rw [e9] at hl
      refine lv_iinc (v := nI (k9 + 1)) (lv' := [(3, .int (nI (k9 + 1))), (2, .int (nI (pcN (labC w (w * h) col) (w * h) (k9 + 1)))), (0, .ref fb), (1, .ref pa)]) hx hb dX5_piecesOf_43 hl (k := 3) rfl (nI_1 _) (by decide) rfl (fun ls hl => ?_)
      refine lv_goto (tgt := 8) hx hb dX5_piecesOf_46 (by decide) ?_
      refine ih8 (k9 + 1, fd2_1, pc2_2, nI (szL (labC w (w * h) col) (w * h) k9)) _ _ _ ⟨(by omega), (hfn), hpb, hfo, hfd, hfc, hS, lv_sub hl [2, 3, 1, 0] rfl⟩ (by dsimp only; omega)

def rm_c_X5_greatestOf : Room := { frames := 4, cells := 0, slots := 0, locals := 95 }
set_option maxRecDepth 100000 in
set_option maxHeartbeats 400000 in
theorem c_X5_greatestOf (l : Launch) (g : GG) (H0 : Heap) (fb : Nat) (fd : Nat → Int32) (pc : Nat → Int32) (ps : Int32) (pa : Nat) (pb : Nat) (w : Nat) (h : Nat) (col : Nat → Nat) (hpb : PatB g pa pb w h col H0) (hfo : at_ g H0 fb (eO 5 [.ref (fb + 1), .ref (fb + 2), .int ps])) (hfd : at_ g H0 (fb + 1) (eZ g 256 fd)) (hfc : at_ g H0 (fb + 2) (eI g 256 pc)) (hd1 : pa < fb ∨ fb + 3 ≤ pa) (hd2 : pb < fb ∨ fb + 3 ≤ pb) : Ct l yX5_greatestOf cX5_greatestOf 4 (some .int) rm_c_X5_greatestOf g [.ref fb, .ref pa] H0 (ftA (fun q9 => fb ≤ q9 ∧ q9 < fb + 3) H0.size) (fun v H1 => v = some (.int (nI (grN (labC w (w * h) col) (w * h) (w * h)))) ∧ ∃ (fd2 : Nat → Int32), ∃ (pc2 : Nat → Int32), ∃ (ps2 : Int32), at_ g H1 fb (eO 5 [.ref (fb + 1), .ref (fb + 2), .int ps2]) ∧ at_ g H1 (fb + 1) (eZ g 256 fd2) ∧ at_ g H1 (fb + 2) (eI g 256 pc2)) := by
  refine Ct.of (by decide) (fun _ h => Or.inr h) (Nat.le_of_ble_eq_true rfl) ?_
  intro p e s m below meth c ls hB hin hS hH hl
  have hx := hB.x
  have hb := hB.b
  have hl : lv_has ls 4 [(0, .ref fb), (1, .ref pa)] := hl
  have hw0 := hpb.2.2.1
  have hw16 := hpb.2.2.2.1
  have hh0 := hpb.2.2.2.2.1
  have hh16 := hpb.2.2.2.2.2.1
  have hwh := hpb.2.2.2.2.2.2.1
  have hcol := hpb.2.2.2.2.2.2.2
  refine lv_iconst (v := nI 0) hx hb dX5_greatestOf_0 (by decide) ?_
  refine lv_istore_n (lv' := [(2, .int (nI 0)), (0, .ref fb), (1, .ref pa)]) hx hb dX5_greatestOf_1 rfl hl (by decide) rfl (fun ls hl => ?_)
  refine lv_aload_n hx hb dX5_greatestOf_2 rfl (lv_at hl 1 rfl) ?_
  refine cl_X5_19 (As := []) (rest := []) hB (c_X5_forgetFound l g H0 fb fd ps hfo hfd) hfo rfl hl.1 (Nat.le_of_ble_eq_true rfl) dX5_greatestOf_3 ⟨Nat.le_of_ble_eq_true rfl, Nat.le_of_ble_eq_true rfl⟩ ⟨Nat.le_of_ble_eq_true rfl, Nat.le_of_ble_eq_true rfl⟩ hS (by have hz9 := hS.1; rintro q (h | h) <;> first | exact Or.inr (by omega) | exact h.elim | exact Or.inl h | (simp only [ftA] at h ⊢; omega)) (fun v H1 locs hpo hfr hS => ?_)
  obtain ⟨rfl, hfd⟩ := hpo
  have hpb := hpb.keptF hfr (fun y => by first | exact y.elim | omega) (fun y => by first | exact y.elim | omega)
  have hfo := Fr.keep hfr hfo (by first | omega | exact fun y => y.elim)
  have hfc := Fr.keep hfr hfc (by first | omega | exact fun y => y.elim)
  generalize H1 = H at hfr hS hpb hfo hfc hfd ⊢
  refine W.widen (k := 0) (n := 0) (Nat.le_of_ble_eq_true rfl) (Nat.le_of_ble_eq_true rfl) ?_
  refine lv_iconst (v := nI 0) hx hb dX5_greatestOf_6 (by decide) ?_
  refine lv_istore_n (lv' := [(3, .int (nI 0)), (2, .int (nI 0)), (0, .ref fb), (1, .ref pa)]) hx hb dX5_greatestOf_7 rfl hl (by decide) rfl (fun ls hl => ?_)
  refine mh_loop (σ := Nat × (Nat → Int32) × (Nat → Int32) × Int32) (fun xx9 H locs ls => match xx9 with | (k9, fdi, pci, psi) => k9 ≤ w * h ∧ (∀ j, j < 256 → fdi j = bI (decide ((labC w (w * h) col) j < k9 ∧ j < w * h))) ∧ PatB g pa pb w h col H ∧ at_ g H fb (eO 5 [.ref (fb + 1), .ref (fb + 2), .int psi]) ∧ at_ g H (fb + 1) (eZ g 256 fdi) ∧ at_ g H (fb + 2) (eI g 256 pci) ∧ va_S (ftA (fun q9 => fb ≤ q9 ∧ q9 < fb + 3) H0.size) H0 H locs ∧ lv_has ls 4 [(0, .ref fb), (1, .ref pa), (2, .int (nI (grN (labC w (w * h) col) (w * h) k9))), (3, .int (nI k9))]) (fun xx9 => match xx9 with | (k9, fdi, pci, psi) => w * h - k9) ?_ (0, (fun _ => 0), pc, ps) ⟨(Nat.zero_le _), (fun j9 hj9 => by rw [decide_eq_false (fun y9 => absurd y9.1 (Nat.not_lt_zero _))]; rfl), hpb, hfo, hfd, hfc, hS, lv_sub hl [2, 3, 1, 0] rfl⟩
  rintro ⟨k9, fdi, pci, psi⟩ H locs ls ⟨hk9, hfi, hpb, hfo, hfd, hfc, hS, hl⟩ ih
  have ih8 := ih
  refine lv_iload_n hx hb dX5_greatestOf_8 rfl (lv_at hl 3 rfl) ?_
  refine lv_aload_n hx hb dX5_greatestOf_9 rfl (lv_at hl 1 rfl) ?_
  refine cl_X5_22 (As := []) (rest := [.int (nI k9)]) hB (c_X4_patches l g H pa pb w h col hpb) hpb.1 rfl hl.1 (Nat.le_of_ble_eq_true rfl) dX5_greatestOf_10 ⟨Nat.le_of_ble_eq_true rfl, Nat.le_of_ble_eq_true rfl⟩ ⟨Nat.le_of_ble_eq_true rfl, Nat.le_of_ble_eq_true rfl⟩ hS (by have hz9 := hS.1; rintro q (h | h) <;> first | exact Or.inr (by omega) | exact h.elim | exact Or.inl h | (simp only [ftA] at h ⊢; omega)) (fun v H1 locs hpo hfr hS => ?_)
  obtain ⟨rfl, rfl⟩ := hpo
  refine W.widen (k := 0) (n := 0) (Nat.le_of_ble_eq_true rfl) (Nat.le_of_ble_eq_true rfl) ?_
  refine mn_icmp_ge (tgt := 55) hB dX5_greatestOf_13 (by decide) (by omega) (by omega) (fun h_13 => ?_) (fun h_13 => ?_)
  · skip
    refine lv_iload_n hx hb dX5_greatestOf_55 rfl (lv_at hl 2 rfl) ?_
    have hkn : k9 = w * h := by omega
    refine mh_iret hB ⟨Nat.le_of_ble_eq_true rfl, Nat.le_of_ble_eq_true rfl⟩ hS dX5_greatestOf_56 ⟨?_, fdi, pci, psi, ?_, ?_, ?_⟩
    · rw [hkn]
    · exact hfo
    · exact hfd
    · exact hfc
  · skip
    refine lv_iload_n hx hb dX5_greatestOf_16 rfl (lv_at hl 3 rfl) ?_
    refine lv_aload_n hx hb dX5_greatestOf_17 rfl (lv_at hl 0 rfl) ?_
    refine gf_X5_9 hB hfo rfl dX5_greatestOf_18 ?_
    refine mh_alen hB 2 rfl hfd dX5_greatestOf_21 ?_
    refine mn_icmp_ge (tgt := 55) hB dX5_greatestOf_22 (by decide) (by omega) (by omega) (fun h => by exfalso; omega) (fun h_22 => ?_)
    refine lv_aload_n hx hb dX5_greatestOf_25 rfl (lv_at hl 0 rfl) ?_
    refine gf_X5_9 hB hfo rfl dX5_greatestOf_26 ?_
    refine lv_iload_n hx hb dX5_greatestOf_29 rfl (lv_at hl 3 rfl) ?_
    refine mn_zald hB hfd (by omega) (by omega) dX5_greatestOf_30 ?_
    refine mh_top (y := .int (bI (decide ((labC w (w * h) col) k9 < k9 ∧ k9 < w * h)))) (by rw [hfi k9 (by omega)]) ?_
    refine mb_if_ne (tgt := 49) hB dX5_greatestOf_31 (by decide) (fun h_31 => ?_) (fun h_31 => ?_)
    · skip
      have h31 := of_decide_eq_true h_31
      have hnr : ¬ (labC w (w * h) col) k9 = k9 := by omega
      have hfn := fd_no hfi h31.1
      have e9 : grN (labC w (w * h) col) (w * h) k9 = grN (labC w (w * h) col) (w * h) (k9 + 1) := by exact (grN_no (by omega) hnr).symm
      rw [e9] at hl
      refine lv_iinc (v := nI (k9 + 1)) (lv' := [(3, .int (nI (k9 + 1))), (0, .ref fb), (1, .ref pa), (2, .int (nI (grN (labC w (w * h) col) (w * h) (k9 + 1))))]) hx hb dX5_greatestOf_49 hl (k := 3) rfl (nI_1 _) (by decide) rfl (fun ls hl => ?_)
      refine lv_goto (tgt := 8) hx hb dX5_greatestOf_52 (by decide) ?_
      refine ih8 (k9 + 1, fdi, pci, psi) _ _ _ ⟨(by omega), (hfn), hpb, hfo, hfd, hfc, hS, lv_sub hl [1, 2, 3, 0] rfl⟩ (by dsimp only; omega)
    · skip
      have h31 := of_decide_eq_false h_31
      have hle9 := lab_le (w := w) (n := w * h) (col := col) k9
      have hroot : (labC w (w * h) col) k9 = k9 := by omega
      refine lv_aload_n hx hb dX5_greatestOf_34 rfl (lv_at hl 0 rfl) ?_
      refine lv_aload_n hx hb dX5_greatestOf_35 rfl (lv_at hl 1 rfl) ?_
      refine lv_iload_n hx hb dX5_greatestOf_36 rfl (lv_at hl 3 rfl) ?_
      refine cl_X5_28 (As := [.ref pa, .int (nI k9)]) (rest := []) hB (c_X5_findPiece l g H fb fdi pci psi pa pb w h col k9 hpb hfo hfd hfc (by first | assumption | omega) (by first | assumption | omega) (by omega) (hroot) (hfi)) hfo rfl hl.1 (Nat.le_of_ble_eq_true rfl) dX5_greatestOf_37 ⟨Nat.le_of_ble_eq_true rfl, Nat.le_of_ble_eq_true rfl⟩ ⟨Nat.le_of_ble_eq_true rfl, Nat.le_of_ble_eq_true rfl⟩ hS (by have hz9 := hS.1; rintro q (h | h) <;> first | exact Or.inr (by omega) | exact h.elim | exact Or.inl h | (simp only [ftA] at h ⊢; omega)) (fun v H1 locs hpo hfr hS => ?_)
      obtain ⟨rfl, fd2_1, pc2_2, hfo, hfd, hfc, hfn⟩ := hpo
      have hpb := hpb.keptF hfr (fun y => by first | exact y.elim | omega) (fun y => by first | exact y.elim | omega)
      generalize H1 = H at hfr hS hpb hfo hfd hfc hfn ⊢
      refine W.widen (k := 0) (n := 0) (Nat.le_of_ble_eq_true rfl) (Nat.le_of_ble_eq_true rfl) ?_
      refine lv_iload_n hx hb dX5_greatestOf_40 rfl (lv_at hl 2 rfl) ?_
      refine lv_aload_n hx hb dX5_greatestOf_41 rfl (lv_at hl 0 rfl) ?_
      refine gf_X5_32 hB hfo rfl dX5_greatestOf_42 ?_
      refine mh_max hB kw_525 kw_15 kw_655 kw_524 hl.1 (Nat.le_of_ble_eq_true rfl) ⟨Nat.le_of_ble_eq_true rfl, Nat.le_of_ble_eq_true rfl⟩ ⟨Nat.le_of_ble_eq_true rfl, Nat.le_of_ble_eq_true rfl⟩ dX5_greatestOf_45 ?_
      refine mh_top (y := .int (nI (grN (labC w (w * h) col) (w * h) (k9 + 1)))) (by rw [max_gr hwh]) ?_
      refine lv_istore_n (lv' := [(2, .int (nI (grN (labC w (w * h) col) (w * h) (k9 + 1)))), (0, .ref fb), (1, .ref pa), (3, .int (nI k9))]) hx hb dX5_greatestOf_48 rfl hl (by decide) rfl (fun ls hl => ?_)
      refine lv_iinc (v := nI (k9 + 1)) (lv' := [(3, .int (nI (k9 + 1))), (2, .int (nI (grN (labC w (w * h) col) (w * h) (k9 + 1)))), (0, .ref fb), (1, .ref pa)]) hx hb dX5_greatestOf_49 hl (k := 3) rfl (nI_1 _) (by decide) rfl (fun ls hl => ?_)
      refine lv_goto (tgt := 8) hx hb dX5_greatestOf_52 (by decide) ?_
      refine ih8 (k9 + 1, fd2_1, pc2_2, nI (szL (labC w (w * h) col) (w * h) k9)) _ _ _ ⟨(by omega), (hfn), hpb, hfo, hfd, hfc, hS, lv_sub hl [2, 3, 1, 0] rfl⟩ (by dsimp only; omega)

def rm_f_X10_frame_5 : Room := { frames := 5, cells := 0, slots := 0, locals := 118 }
set_option maxRecDepth 100000 in
set_option maxHeartbeats 400000 in
theorem f_X10_frame_5 (l : Launch) (g : GG) (H0 : Heap) (xb : Nat) (lim : Nat) (q : Nat → Int32) (n : Nat) (rm : Nat → Int32) (sl : Nat → Int32) (sv : Nat → Int32) (tx : Nat → Int32) (ln : Nat) (f : Nat) (hC : CLS g xb lim q n rm sl sv tx ln H0) (hf : f < 3) : Ct l yX10_frame cX10_frame 5 (some .int) rm_f_X10_frame_5 g [.ref xb, .int (nI f), .int (nI 5)] H0 (ftA (CF xb lim) H0.size) (fun v H1 => v = some (.int (nI (pcN (labC (wdF q f) (szF q f) (clF q f)) (szF q f) (szF q f)))) ∧ CLS g xb lim (q) (n) (rm) (sl) (sv) (tx) (ln) H1) := by
  refine Ct.of (by decide) (fun _ h => Or.inr h) (Nat.le_of_ble_eq_true rfl) ?_
  intro p e s m below meth c ls hB hin hS hH hl
  have hx := hB.x
  have hb := hB.b
  have hl : lv_has ls 5 [(0, .ref xb), (1, .int (nI f)), (2, .int (nI 5))] := hl
  obtain ⟨D, P, T, Zr, Pr, zt, Pt, nx, hCi⟩ := hC
  have hS1 := hCi.2.2.1
  have hPT := hCi.2.2.2.1
  have hD : ∀ q9, xb + 10 ≤ q9 → q9 < xb + 10 + 26 → D q9 := fun q9 h1 h2 => hCi.2.2.2.2.2.2.2.2.2.2.2.2.1 q9 (by omega) (Nat.lt_of_lt_of_le (show q9 < xb + 68 by omega) hCi.2.2.2.2.2.2.2.2.2.2.2.2.2.2.2.2.1)
  have hW : WF q := hCi.2.2.2.2.2.2.2.2.2.2.2.2.2.2.1
  have hZ : WZ q := hCi.2.2.2.2.2.2.2.2.2.2.2.2.2.2.2.1
  have hnm5 := hW.2.2.1
  have hz0 : (zOf q) 0 = nI (nmQ q) := by rw [zOf_lo (by omega), hW.1]
  rcases hPf : P f with _ | p9
  · skip
    have hfz := hPT.none0 hf hPf
    refine lv_aload_n hx hb dX10_frame_0 rfl (lv_at hl 0 rfl) ?_
    refine lv_iload_n hx hb dX10_frame_1 rfl (lv_at hl 1 rfl) ?_
    refine cl_X10_123 (As := [.int (nI f)]) (rest := []) hB (c_X10_existingFrame l g H0 xb (zOf q) P f hCi.1 hS1 (by first | assumption | omega)) hCi.1 rfl hl.1 (Nat.le_of_ble_eq_true rfl) dX10_frame_2 ⟨Nat.le_of_ble_eq_true rfl, Nat.le_of_ble_eq_true rfl⟩ ⟨Nat.le_of_ble_eq_true rfl, Nat.le_of_ble_eq_true rfl⟩ hS (by have hz9 := hS.1; rintro q (h | h) <;> first | exact Or.inr (by omega) | exact h.elim | exact Or.inl h | (simp only [ftA] at h ⊢; omega)) (fun v H1 locs hpo hfr hS => ?_)
    obtain ⟨rfl, rfl⟩ := hpo
    refine W.widen (k := 0) (n := 0) (Nat.le_of_ble_eq_true rfl) (Nat.le_of_ble_eq_true rfl) ?_
    refine lv_astore_n (lv' := [(3, .ref ((xb + 10) + (20 + 2 * f))), (0, .ref xb), (1, .int (nI f)), (2, .int (nI 5))]) hx hb dX10_frame_5 rfl hl (by decide) rfl (fun ls hl => ?_)
    refine lv_iload_n hx hb dX10_frame_6 rfl (lv_at hl 3 rfl) ?_
    refine lv_iconst (v := nI 0) hx hb dX10_frame_7 (by decide) ?_
    refine lv_bipush (v := nI 6) hx hb dX10_frame_8 (by decide) ?_
    refine cl_X10_44 (As := [.int (nI 5), .int (nI 0), .int (nI 6)]) (rest := []) hB (c_X10_requireRange l g H0 5 0 6 (by first | assumption | omega) (by first | assumption | omega) (by first | assumption | omega)) rfl hl.1 (Nat.le_of_ble_eq_true rfl) dX10_frame_10 ⟨Nat.le_of_ble_eq_true rfl, Nat.le_of_ble_eq_true rfl⟩ ⟨Nat.le_of_ble_eq_true rfl, Nat.le_of_ble_eq_true rfl⟩ hS (by have hz9 := hS.1; rintro q (h | h) <;> first | exact Or.inr (by omega) | exact h.elim | exact Or.inl h | (simp only [ftA] at h ⊢; omega)) (fun v H1 locs hpo hfr hS => ?_)
    obtain ⟨rfl, rfl⟩ := hpo
    refine W.widen (k := 0) (n := 0) (Nat.le_of_ble_eq_true rfl) (Nat.le_of_ble_eq_true rfl) ?_
    refine lv_aload_n hx hb dX10_frame_13 rfl (lv_at hl 0 rfl) ?_
    refine gf_X10_127 hB (hS1.ofN (k := f) (by omega) hPf) rfl dX10_frame_14 ?_
    refine lv_astoreN (lv' := [(4, .null), (3, .ref ((xb + 10) + (20 + 2 * f))), (0, .ref xb), (1, .int (nI f)), (2, .int (nI 5))]) hx hb dX10_frame_17 hl (by decide) rfl (fun ls hl => ?_)
    refine lv_aloadN hx hb dX10_frame_19 (lv_at hl 0 rfl) ?_
    refine lv_ifnonnullN hx hb dX10_frame_21 ?_
    refine lv_iconst (v := nI 0) hx hb dX10_frame_24 (by decide) ?_
    refine mh_iret hB ⟨Nat.le_of_ble_eq_true rfl, Nat.le_of_ble_eq_true rfl⟩ hS dX10_frame_25 ⟨?_, ?_⟩
    · rw [hfz]; rfl
    · exact ⟨_, _, _, _, _, _, _, _, hCi⟩
  · skip
    have hfz := hPT.pos hf hPf
    obtain ⟨b9, hd1, hd2, hpb⟩ := hPT.some0 hf hPf
    have hw0 := hpb.2.2.1
    have hw16 := hpb.2.2.2.1
    have hh0 := hpb.2.2.2.2.1
    have hh16 := hpb.2.2.2.2.2.1
    have hwh := hpb.2.2.2.2.2.2.1
    have hcol := hpb.2.2.2.2.2.2.2
    have hfzz : szF q f = wdF q f * htF q f := rfl
    refine lv_aload_n hx hb dX10_frame_0 rfl (lv_at hl 0 rfl) ?_
    refine lv_iload_n hx hb dX10_frame_1 rfl (lv_at hl 1 rfl) ?_
    refine cl_X10_123 (As := [.int (nI f)]) (rest := []) hB (c_X10_existingFrame l g H0 xb (zOf q) P f hCi.1 hS1 (by first | assumption | omega)) hCi.1 rfl hl.1 (Nat.le_of_ble_eq_true rfl) dX10_frame_2 ⟨Nat.le_of_ble_eq_true rfl, Nat.le_of_ble_eq_true rfl⟩ ⟨Nat.le_of_ble_eq_true rfl, Nat.le_of_ble_eq_true rfl⟩ hS (by have hz9 := hS.1; rintro q (h | h) <;> first | exact Or.inr (by omega) | exact h.elim | exact Or.inl h | (simp only [ftA] at h ⊢; omega)) (fun v H1 locs hpo hfr hS => ?_)
    obtain ⟨rfl, rfl⟩ := hpo
    refine W.widen (k := 0) (n := 0) (Nat.le_of_ble_eq_true rfl) (Nat.le_of_ble_eq_true rfl) ?_
    refine lv_astore_n (lv' := [(3, .ref ((xb + 10) + (20 + 2 * f))), (0, .ref xb), (1, .int (nI f)), (2, .int (nI 5))]) hx hb dX10_frame_5 rfl hl (by decide) rfl (fun ls hl => ?_)
    refine lv_iload_n hx hb dX10_frame_6 rfl (lv_at hl 3 rfl) ?_
    refine lv_iconst (v := nI 0) hx hb dX10_frame_7 (by decide) ?_
    refine lv_bipush (v := nI 6) hx hb dX10_frame_8 (by decide) ?_
    refine cl_X10_44 (As := [.int (nI 5), .int (nI 0), .int (nI 6)]) (rest := []) hB (c_X10_requireRange l g H0 5 0 6 (by first | assumption | omega) (by first | assumption | omega) (by first | assumption | omega)) rfl hl.1 (Nat.le_of_ble_eq_true rfl) dX10_frame_10 ⟨Nat.le_of_ble_eq_true rfl, Nat.le_of_ble_eq_true rfl⟩ ⟨Nat.le_of_ble_eq_true rfl, Nat.le_of_ble_eq_true rfl⟩ hS (by have hz9 := hS.1; rintro q (h | h) <;> first | exact Or.inr (by omega) | exact h.elim | exact Or.inl h | (simp only [ftA] at h ⊢; omega)) (fun v H1 locs hpo hfr hS => ?_)
    obtain ⟨rfl, rfl⟩ := hpo
    refine W.widen (k := 0) (n := 0) (Nat.le_of_ble_eq_true rfl) (Nat.le_of_ble_eq_true rfl) ?_
    refine lv_aload_n hx hb dX10_frame_13 rfl (lv_at hl 0 rfl) ?_
    refine gf_X10_127 hB (hS1.ofS (k := f) (by omega) hPf) rfl dX10_frame_14 ?_
    refine lv_astore (lv' := [(4, .ref p9), (3, .ref ((xb + 10) + (20 + 2 * f))), (0, .ref xb), (1, .int (nI f)), (2, .int (nI 5))]) hx hb dX10_frame_17 hl (by decide) rfl (fun ls hl => ?_)
    refine lv_aload hx hb dX10_frame_19 (lv_at hl 0 rfl) ?_
    refine lv_ifnonnull (tgt := 26) hx hb dX10_frame_21 (by decide) ?_
    refine lv_iload_n hx hb dX10_frame_26 rfl (lv_at hl 4 rfl) ?_
    refine lv_tableIn (tgt := 93) (off := 66) hx hb dX10_frame_27 (by decide) (by decide) (by decide) (by decide) ?_
    obtain ⟨fd9, pc9, ps9, hfo, hfd, hfc⟩ := hCi.2.2.2.2.2.2.2.2.1
    have hD13 := hCi.2.2.2.2.2.2.2.2.2.2.2.2.1
    have hlim := hCi.2.2.2.2.2.2.2.2.2.2.2.2.2.2.2.2.1
    have hdp : p9 < xb + 65 ∨ xb + 65 + 3 ≤ p9 := Decidable.byContradiction (fun y9 => hd1 (hD13 p9 (by omega) (by omega)))
    have hdb : b9 < xb + 65 ∨ xb + 65 + 3 ≤ b9 := Decidable.byContradiction (fun y9 => hd2 (hD13 b9 (by omega) (by omega)))
    refine lv_aload_n hx hb dX10_frame_93 rfl (lv_at hl 2 rfl) ?_
    refine gf_X10_40 hB hCi.1 rfl dX10_frame_94 ?_
    refine lv_aload hx hb dX10_frame_97 (lv_at hl 0 rfl) ?_
    refine cl_X10_148 (As := [.ref p9]) (rest := []) hB (c_X5_piecesOf l g H0 (xb + 65) fd9 pc9 ps9 p9 b9 (wdF q f) (htF q f) (clF q f) hpb hfo hfd hfc (hdp) (hdb)) hfo rfl hl.1 (Nat.le_of_ble_eq_true rfl) dX10_frame_99 ⟨Nat.le_of_ble_eq_true rfl, Nat.le_of_ble_eq_true rfl⟩ ⟨Nat.le_of_ble_eq_true rfl, Nat.le_of_ble_eq_true rfl⟩ hS (by have hz9 := hS.1; rintro q9 (h | h); exact Or.inl (CF.a (by omega)); exact Or.inr (by omega)) (fun v H1 locs hpo hfr hS => ?_)
    obtain ⟨rfl, fd2_1, pc2_2, ps2_3, hfo, hfd, hfc⟩ := hpo
    have hCi := hCi.pf hfr ⟨_, _, _, hfo, hfd, hfc⟩
    generalize H1 = H at hfr hS hCi hfo hfd hfc ⊢
    refine W.widen (k := 0) (n := 0) (Nat.le_of_ble_eq_true rfl) (Nat.le_of_ble_eq_true rfl) ?_
    refine mh_top (y := .int (nI (pcN (labC (wdF q f) (szF q f) (clF q f)) (szF q f) (szF q f)))) (by rw [show szF q f = wdF q f * htF q f from rfl]) ?_
    refine mh_iret hB ⟨Nat.le_of_ble_eq_true rfl, Nat.le_of_ble_eq_true rfl⟩ hS dX10_frame_102 ⟨?_, ?_⟩
    · rfl
    · exact ⟨_, _, _, _, _, _, _, _, hCi⟩

def rm_f_X10_frame_6 : Room := { frames := 5, cells := 0, slots := 0, locals := 118 }
set_option maxRecDepth 100000 in
set_option maxHeartbeats 400000 in
theorem f_X10_frame_6 (l : Launch) (g : GG) (H0 : Heap) (xb : Nat) (lim : Nat) (q : Nat → Int32) (n : Nat) (rm : Nat → Int32) (sl : Nat → Int32) (sv : Nat → Int32) (tx : Nat → Int32) (ln : Nat) (f : Nat) (hC : CLS g xb lim q n rm sl sv tx ln H0) (hf : f < 3) : Ct l yX10_frame cX10_frame 5 (some .int) rm_f_X10_frame_6 g [.ref xb, .int (nI f), .int (nI 6)] H0 (ftA (CF xb lim) H0.size) (fun v H1 => v = some (.int (nI (grN (labC (wdF q f) (szF q f) (clF q f)) (szF q f) (szF q f)))) ∧ CLS g xb lim (q) (n) (rm) (sl) (sv) (tx) (ln) H1) := by
  refine Ct.of (by decide) (fun _ h => Or.inr h) (Nat.le_of_ble_eq_true rfl) ?_
  intro p e s m below meth c ls hB hin hS hH hl
  have hx := hB.x
  have hb := hB.b
  have hl : lv_has ls 5 [(0, .ref xb), (1, .int (nI f)), (2, .int (nI 6))] := hl
  obtain ⟨D, P, T, Zr, Pr, zt, Pt, nx, hCi⟩ := hC
  have hS1 := hCi.2.2.1
  have hPT := hCi.2.2.2.1
  have hD : ∀ q9, xb + 10 ≤ q9 → q9 < xb + 10 + 26 → D q9 := fun q9 h1 h2 => hCi.2.2.2.2.2.2.2.2.2.2.2.2.1 q9 (by omega) (Nat.lt_of_lt_of_le (show q9 < xb + 68 by omega) hCi.2.2.2.2.2.2.2.2.2.2.2.2.2.2.2.2.1)
  have hW : WF q := hCi.2.2.2.2.2.2.2.2.2.2.2.2.2.2.1
  have hZ : WZ q := hCi.2.2.2.2.2.2.2.2.2.2.2.2.2.2.2.1
  have hnm5 := hW.2.2.1
  have hz0 : (zOf q) 0 = nI (nmQ q) := by rw [zOf_lo (by omega), hW.1]
  rcases hPf : P f with _ | p9
  · skip
    have hfz := hPT.none0 hf hPf
    refine lv_aload_n hx hb dX10_frame_0 rfl (lv_at hl 0 rfl) ?_
    refine lv_iload_n hx hb dX10_frame_1 rfl (lv_at hl 1 rfl) ?_
    refine cl_X10_123 (As := [.int (nI f)]) (rest := []) hB (c_X10_existingFrame l g H0 xb (zOf q) P f hCi.1 hS1 (by first | assumption | omega)) hCi.1 rfl hl.1 (Nat.le_of_ble_eq_true rfl) dX10_frame_2 ⟨Nat.le_of_ble_eq_true rfl, Nat.le_of_ble_eq_true rfl⟩ ⟨Nat.le_of_ble_eq_true rfl, Nat.le_of_ble_eq_true rfl⟩ hS (by have hz9 := hS.1; rintro q (h | h) <;> first | exact Or.inr (by omega) | exact h.elim | exact Or.inl h | (simp only [ftA] at h ⊢; omega)) (fun v H1 locs hpo hfr hS => ?_)
    obtain ⟨rfl, rfl⟩ := hpo
    refine W.widen (k := 0) (n := 0) (Nat.le_of_ble_eq_true rfl) (Nat.le_of_ble_eq_true rfl) ?_
    refine lv_astore_n (lv' := [(3, .ref ((xb + 10) + (20 + 2 * f))), (0, .ref xb), (1, .int (nI f)), (2, .int (nI 6))]) hx hb dX10_frame_5 rfl hl (by decide) rfl (fun ls hl => ?_)
    refine lv_iload_n hx hb dX10_frame_6 rfl (lv_at hl 3 rfl) ?_
    refine lv_iconst (v := nI 0) hx hb dX10_frame_7 (by decide) ?_
    refine lv_bipush (v := nI 6) hx hb dX10_frame_8 (by decide) ?_
    refine cl_X10_44 (As := [.int (nI 6), .int (nI 0), .int (nI 6)]) (rest := []) hB (c_X10_requireRange l g H0 6 0 6 (by first | assumption | omega) (by first | assumption | omega) (by first | assumption | omega)) rfl hl.1 (Nat.le_of_ble_eq_true rfl) dX10_frame_10 ⟨Nat.le_of_ble_eq_true rfl, Nat.le_of_ble_eq_true rfl⟩ ⟨Nat.le_of_ble_eq_true rfl, Nat.le_of_ble_eq_true rfl⟩ hS (by have hz9 := hS.1; rintro q (h | h) <;> first | exact Or.inr (by omega) | exact h.elim | exact Or.inl h | (simp only [ftA] at h ⊢; omega)) (fun v H1 locs hpo hfr hS => ?_)
    obtain ⟨rfl, rfl⟩ := hpo
    refine W.widen (k := 0) (n := 0) (Nat.le_of_ble_eq_true rfl) (Nat.le_of_ble_eq_true rfl) ?_
    refine lv_aload_n hx hb dX10_frame_13 rfl (lv_at hl 0 rfl) ?_
    refine gf_X10_127 hB (hS1.ofN (k := f) (by omega) hPf) rfl dX10_frame_14 ?_
    refine lv_astoreN (lv' := [(4, .null), (3, .ref ((xb + 10) + (20 + 2 * f))), (0, .ref xb), (1, .int (nI f)), (2, .int (nI 6))]) hx hb dX10_frame_17 hl (by decide) rfl (fun ls hl => ?_)
    refine lv_aloadN hx hb dX10_frame_19 (lv_at hl 0 rfl) ?_
    refine lv_ifnonnullN hx hb dX10_frame_21 ?_
    refine lv_iconst (v := nI 0) hx hb dX10_frame_24 (by decide) ?_
    refine mh_iret hB ⟨Nat.le_of_ble_eq_true rfl, Nat.le_of_ble_eq_true rfl⟩ hS dX10_frame_25 ⟨?_, ?_⟩
    · rw [hfz]; rfl
    · exact ⟨_, _, _, _, _, _, _, _, hCi⟩
  · skip
    have hfz := hPT.pos hf hPf
    obtain ⟨b9, hd1, hd2, hpb⟩ := hPT.some0 hf hPf
    have hw0 := hpb.2.2.1
    have hw16 := hpb.2.2.2.1
    have hh0 := hpb.2.2.2.2.1
    have hh16 := hpb.2.2.2.2.2.1
    have hwh := hpb.2.2.2.2.2.2.1
    have hcol := hpb.2.2.2.2.2.2.2
    have hfzz : szF q f = wdF q f * htF q f := rfl
    refine lv_aload_n hx hb dX10_frame_0 rfl (lv_at hl 0 rfl) ?_
    refine lv_iload_n hx hb dX10_frame_1 rfl (lv_at hl 1 rfl) ?_
    refine cl_X10_123 (As := [.int (nI f)]) (rest := []) hB (c_X10_existingFrame l g H0 xb (zOf q) P f hCi.1 hS1 (by first | assumption | omega)) hCi.1 rfl hl.1 (Nat.le_of_ble_eq_true rfl) dX10_frame_2 ⟨Nat.le_of_ble_eq_true rfl, Nat.le_of_ble_eq_true rfl⟩ ⟨Nat.le_of_ble_eq_true rfl, Nat.le_of_ble_eq_true rfl⟩ hS (by have hz9 := hS.1; rintro q (h | h) <;> first | exact Or.inr (by omega) | exact h.elim | exact Or.inl h | (simp only [ftA] at h ⊢; omega)) (fun v H1 locs hpo hfr hS => ?_)
    obtain ⟨rfl, rfl⟩ := hpo
    refine W.widen (k := 0) (n := 0) (Nat.le_of_ble_eq_true rfl) (Nat.le_of_ble_eq_true rfl) ?_
    refine lv_astore_n (lv' := [(3, .ref ((xb + 10) + (20 + 2 * f))), (0, .ref xb), (1, .int (nI f)), (2, .int (nI 6))]) hx hb dX10_frame_5 rfl hl (by decide) rfl (fun ls hl => ?_)
    refine lv_iload_n hx hb dX10_frame_6 rfl (lv_at hl 3 rfl) ?_
    refine lv_iconst (v := nI 0) hx hb dX10_frame_7 (by decide) ?_
    refine lv_bipush (v := nI 6) hx hb dX10_frame_8 (by decide) ?_
    refine cl_X10_44 (As := [.int (nI 6), .int (nI 0), .int (nI 6)]) (rest := []) hB (c_X10_requireRange l g H0 6 0 6 (by first | assumption | omega) (by first | assumption | omega) (by first | assumption | omega)) rfl hl.1 (Nat.le_of_ble_eq_true rfl) dX10_frame_10 ⟨Nat.le_of_ble_eq_true rfl, Nat.le_of_ble_eq_true rfl⟩ ⟨Nat.le_of_ble_eq_true rfl, Nat.le_of_ble_eq_true rfl⟩ hS (by have hz9 := hS.1; rintro q (h | h) <;> first | exact Or.inr (by omega) | exact h.elim | exact Or.inl h | (simp only [ftA] at h ⊢; omega)) (fun v H1 locs hpo hfr hS => ?_)
    obtain ⟨rfl, rfl⟩ := hpo
    refine W.widen (k := 0) (n := 0) (Nat.le_of_ble_eq_true rfl) (Nat.le_of_ble_eq_true rfl) ?_
    refine lv_aload_n hx hb dX10_frame_13 rfl (lv_at hl 0 rfl) ?_
    refine gf_X10_127 hB (hS1.ofS (k := f) (by omega) hPf) rfl dX10_frame_14 ?_
    refine lv_astore (lv' := [(4, .ref p9), (3, .ref ((xb + 10) + (20 + 2 * f))), (0, .ref xb), (1, .int (nI f)), (2, .int (nI 6))]) hx hb dX10_frame_17 hl (by decide) rfl (fun ls hl => ?_)
    refine lv_aload hx hb dX10_frame_19 (lv_at hl 0 rfl) ?_
    refine lv_ifnonnull (tgt := 26) hx hb dX10_frame_21 (by decide) ?_
    refine lv_iload_n hx hb dX10_frame_26 rfl (lv_at hl 4 rfl) ?_
    refine lv_tableOut (tgt := 103) hx hb dX10_frame_27 (by decide) (by decide) ?_
    obtain ⟨fd9, pc9, ps9, hfo, hfd, hfc⟩ := hCi.2.2.2.2.2.2.2.2.1
    have hD13 := hCi.2.2.2.2.2.2.2.2.2.2.2.2.1
    have hlim := hCi.2.2.2.2.2.2.2.2.2.2.2.2.2.2.2.2.1
    have hdp : p9 < xb + 65 ∨ xb + 65 + 3 ≤ p9 := Decidable.byContradiction (fun y9 => hd1 (hD13 p9 (by omega) (by omega)))
    have hdb : b9 < xb + 65 ∨ xb + 65 + 3 ≤ b9 := Decidable.byContradiction (fun y9 => hd2 (hD13 b9 (by omega) (by omega)))
    refine lv_aload_n hx hb dX10_frame_103 rfl (lv_at hl 2 rfl) ?_
    refine gf_X10_40 hB hCi.1 rfl dX10_frame_104 ?_
    refine lv_aload hx hb dX10_frame_107 (lv_at hl 0 rfl) ?_
    refine cl_X10_152 (As := [.ref p9]) (rest := []) hB (c_X5_greatestOf l g H0 (xb + 65) fd9 pc9 ps9 p9 b9 (wdF q f) (htF q f) (clF q f) hpb hfo hfd hfc (hdp) (hdb)) hfo rfl hl.1 (Nat.le_of_ble_eq_true rfl) dX10_frame_109 ⟨Nat.le_of_ble_eq_true rfl, Nat.le_of_ble_eq_true rfl⟩ ⟨Nat.le_of_ble_eq_true rfl, Nat.le_of_ble_eq_true rfl⟩ hS (by have hz9 := hS.1; rintro q9 (h | h); exact Or.inl (CF.a (by omega)); exact Or.inr (by omega)) (fun v H1 locs hpo hfr hS => ?_)
    obtain ⟨rfl, fd2_1, pc2_2, ps2_3, hfo, hfd, hfc⟩ := hpo
    have hCi := hCi.pf hfr ⟨_, _, _, hfo, hfd, hfc⟩
    generalize H1 = H at hfr hS hCi hfo hfd hfc ⊢
    refine W.widen (k := 0) (n := 0) (Nat.le_of_ble_eq_true rfl) (Nat.le_of_ble_eq_true rfl) ?_
    refine mh_top (y := .int (nI (grN (labC (wdF q f) (szF q f) (clF q f)) (szF q f) (szF q f)))) (by rw [show szF q f = wdF q f * htF q f from rfl]) ?_
    refine mh_iret hB ⟨Nat.le_of_ble_eq_true rfl, Nat.le_of_ble_eq_true rfl⟩ hS dX10_frame_112 ⟨?_, ?_⟩
    · rfl
    · exact ⟨_, _, _, _, _, _, _, _, hCi⟩
