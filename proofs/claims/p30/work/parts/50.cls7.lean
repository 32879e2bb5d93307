theorem nar_bI (b : Bool) : narrow .boolean (.int (bI b)) = .int (bI b) := by cases b <;> rfl

def rm_c_X1_exchangeColours_e : Room := { frames := 0, cells := 0, slots := 0, locals := 0 }
set_option maxRecDepth 100000 in
set_option maxHeartbeats 400000 in
theorem c_X1_exchangeColours_e (l : Launch) (g : GG) (H0 : Heap) (sb : Nat) (z : Nat → Int32) (P : Nat → Option Nat) (D : Nat → Prop) (q : Nat → Int32) (f : Nat) (a0 : Nat) (hS1 : StAt g sb z P H0) (hPT : PT g D P q H0) (hf : f < 3) (hpos : 0 < szF q f) (ha6 : a0 < 6) : Ct l yX1_exchangeColours cX1_exchangeColours 3 (some .int) rm_c_X1_exchangeColours_e g [.ref (sb + (20 + 2 * f)), .int (nI a0), .int (nI a0)] H0 (ftA (fun _ => False) H0.size) (fun v H1 => v = some (.int (nI 0)) ∧ H0 = H1) := by
  refine Ct.of (by decide) (fun _ h => Or.inr h) (Nat.le_of_ble_eq_true rfl) ?_
  intro p e s m below meth c ls hB hin hS hH hl
  have hx := hB.x
  have hb := hB.b
  have hl : lv_has ls 3 [(0, .ref (sb + (20 + 2 * f))), (1, .int (nI a0)), (2, .int (nI a0))] := hl
  rcases hPf : P f with _ | p9
  · skip
    have hz0 := hPT.none0 hf hPf
    exfalso
    omega
  · skip
    have hz0 := hPT.pos hf hPf
    obtain ⟨b9, hd1, hd2, hpb⟩ := hPT.some0 hf hPf
    have hw0 := hpb.2.2.1
    have hw16 := hpb.2.2.2.1
    have hh0 := hpb.2.2.2.2.1
    have hh16 := hpb.2.2.2.2.2.1
    have hwh := hpb.2.2.2.2.2.2.1
    have hcol := hpb.2.2.2.2.2.2.2
    have hzz : szF q f = wdF q f * htF q f := rfl
    refine lv_aload_n hx hb dX1_exchangeColours_0 rfl (lv_at hl 0 rfl) ?_
    refine gf_X1_15 hB (hS1.ofS (k := f) (by omega) hPf) rfl dX1_exchangeColours_1 ?_
    refine lv_ifnull hx hb dX1_exchangeColours_4 ?_
    refine lv_iload_n hx hb dX1_exchangeColours_7 rfl (lv_at hl 1 rfl) ?_
    refine lv_iload_n hx hb dX1_exchangeColours_8 rfl (lv_at hl 2 rfl) ?_
    refine mn_icmp_ne (tgt := 14) hB dX1_exchangeColours_9 (by decide) (by omega) (by omega) (fun h => by exfalso; omega) (fun h_9 => ?_)
    refine lv_iconst (v := nI 0) hx hb dX1_exchangeColours_12 (by decide) ?_
    refine mh_iret hB ⟨Nat.le_of_ble_eq_true rfl, Nat.le_of_ble_eq_true rfl⟩ hS dX1_exchangeColours_13 ⟨?_, rfl⟩
    · rfl
