/-! the whole object of the class, beside the model's rows -/
def TxAt (g : GG) (t : Nat) (tx : Nat → Int32) (ln : Nat) (wd ht fi la nx di op : Nat → Int32) (oc wh : Int32) (H : Heap) : Prop := at_ g H t (eO 7 [.ref (t + 1), .int (nI ln), .ref (t + 2), .ref (t + 3), .ref (t + 4), .ref (t + 5), .ref (t + 6), .ref (t + 7), .ref (t + 8), .int oc, .int wh]) ∧ at_ g H (t + 1) (eI g 60 tx) ∧ at_ g H (t + 2) (eI g 60 wd) ∧ at_ g H (t + 3) (eI g 60 ht) ∧ at_ g H (t + 4) (eI g 60 fi) ∧ at_ g H (t + 5) (eI g 60 la) ∧ at_ g H (t + 6) (eI g 60 nx) ∧ at_ g H (t + 7) (eI g 60 di) ∧ at_ g H (t + 8) (eI g 60 op)
def TxC (g : GG) (t : Nat) (tx : Nat → Int32) (ln : Nat) (H : Heap) : Prop := ∃ (wd ht fi la nx di op : Nat → Int32) (oc wh : Int32), TxAt g t tx ln wd ht fi la nx di op oc wh H
def PfAt (g : GG) (p : Nat) (fd pc : Nat → Int32) (ps : Int32) (H : Heap) : Prop := at_ g H p (eO 5 [.ref (p + 1), .ref (p + 2), .int ps]) ∧ at_ g H (p + 1) (eZ g 256 fd) ∧ at_ g H (p + 2) (eI g 256 pc)
def PfC (g : GG) (p : Nat) (H : Heap) : Prop := ∃ (fd pc : Nat → Int32) (ps : Int32), PfAt g p fd pc ps H
def HsR (g : GG) (D : Nat → Prop) (T : Nat → Option Nat) (Zr : Nat → Nat → Int32) (Pr : Nat → Nat → Option Nat) (nx n : Nat) (rm : Nat → Int32) (H : Heap) : Prop := nx < 14 ∧ n ≤ 14 ∧ ∀ i, i < n → Ent g D T Zr Pr ((nx + 14 - n + i) % 14) (row9 rm i) H
def SlR (g : GG) (D : Nat → Prop) (T : Nat → Option Nat) (Zr : Nat → Nat → Int32) (Pr : Nat → Nat → Option Nat) (sl sv : Nat → Int32) (H : Heap) : Prop := ∀ k, k < 2 → (sv k = nI 1 ∧ Ent g D T Zr Pr (14 + k) (row9 sl k) H) ∨ (sv k = nI 0 ∧ T (14 + k) = none)
section CLSS
variable {g : GG} {D D2 : Nat → Prop} {P T T2 : Nat → Option Nat} {Zr : Nat → Nat → Int32} {Pr : Nat → Nat → Option Nat} {q : Nat → Int32} {nx n k : Nat} {rm sl sv : Nat → Int32} {H H1 : Heap}
theorem TxAt.kept {t : Nat} {tx wd ht fi la nx di op : Nat → Int32} {ln : Nat} {oc wh : Int32} (h : TxAt g t tx ln wd ht fi la nx di op oc wh H) (hk : ∀ q : Nat, t ≤ q → q < t + 9 → H1[q]? = H[q]?) : TxAt g t tx ln wd ht fi la nx di op oc wh H1 := ⟨h.1.kept (hk _ (by omega) (by omega)), h.2.1.kept (hk _ (by omega) (by omega)), h.2.2.1.kept (hk _ (by omega) (by omega)), h.2.2.2.1.kept (hk _ (by omega) (by omega)), h.2.2.2.2.1.kept (hk _ (by omega) (by omega)), h.2.2.2.2.2.1.kept (hk _ (by omega) (by omega)), h.2.2.2.2.2.2.1.kept (hk _ (by omega) (by omega)), h.2.2.2.2.2.2.2.1.kept (hk _ (by omega) (by omega)), h.2.2.2.2.2.2.2.2.kept (hk _ (by omega) (by omega))⟩
theorem TxC.kept {t ln : Nat} {tx : Nat → Int32} (h : TxC g t tx ln H) (hk : ∀ q : Nat, t ≤ q → q < t + 9 → H1[q]? = H[q]?) : TxC g t tx ln H1 := by
  obtain ⟨wd, ht, fi, la, nx, di, op, oc, wh, h1⟩ := h
  exact ⟨wd, ht, fi, la, nx, di, op, oc, wh, h1.kept hk⟩
theorem PfAt.kept {p : Nat} {fd pc : Nat → Int32} {ps : Int32} (h : PfAt g p fd pc ps H) (hk : ∀ q : Nat, p ≤ q → q < p + 3 → H1[q]? = H[q]?) : PfAt g p fd pc ps H1 := ⟨h.1.kept (hk _ (by omega) (by omega)), h.2.1.kept (hk _ (by omega) (by omega)), h.2.2.kept (hk _ (by omega) (by omega))⟩
theorem PfC.kept {p : Nat} (h : PfC g p H) (hk : ∀ q : Nat, p ≤ q → q < p + 3 → H1[q]? = H[q]?) : PfC g p H1 := by
  obtain ⟨fd, pc, ps, h1⟩ := h
  exact ⟨fd, pc, ps, h1.kept hk⟩
theorem Ent.kept (h : Ent g D T Zr Pr k q H) (hk : ∀ a : Nat, ¬ D a → a < H.size → H1[a]? = H[a]?) : Ent g D T Zr Pr k q H1 := by
  obtain ⟨h0, qk, h1, h2, h3, h4, h5⟩ := h
  exact ⟨h0, qk, h1, h2.kept hk, h3, h4, h5⟩
theorem Ent.grow (h : Ent g D T Zr Pr k q H) (hD : ∀ a, a < H.size → ¬ D a → ¬ D2 a) : Ent g D2 T Zr Pr k q H := by
  obtain ⟨h0, qk, h1, h2, h3, h4, h5⟩ := h
  exact ⟨h0, qk, h1, h2.grow hD, h3, h4, h5⟩
theorem Ent.eq {q2 : Nat → Int32} (h : Ent g D T Zr Pr k q H) (hq : QEq q q2) : Ent g D T Zr Pr k q2 H := by
  obtain ⟨h0, qk, h1, h2, h3, h4, h5⟩ := h
  exact ⟨h0, qk, h1, h2, h3, h4, fun j hj => (hq j hj).trans (h5 j hj)⟩
/-- another entry is written -/
theorem Ent.other {k2 : Nat} {z : Nat → Int32} {P2 : Nat → Option Nat} (h : Ent g D T Zr Pr k q H) (hne : k ≠ k2) (hT : ∀ t, T k = some t → T2 k = some t) : Ent g D T2 (upA Zr k2 z) (upA Pr k2 P2) k q H := by
  obtain ⟨⟨t, h0⟩, qk, h1, h2, h3, h4, h5⟩ := h
  exact ⟨⟨t, hT t h0⟩, qk, by rw [upA_n hne]; exact h1, by rw [upA_n hne]; exact h2, h3, h4, h5⟩
theorem Ent.mk {t : Nat} (hT : T2 k = some t) (hp : PT g D P q H) (hW : WF q) (hZ : WZ q) : Ent g D T2 (upA Zr k (zOf q)) (upA Pr k P) k q H := ⟨⟨t, hT⟩, q, upA_s, by rw [upA_s]; exact hp, hW, hZ, fun _ _ => rfl⟩
theorem HsR.kept (h : HsR g D T Zr Pr nx n rm H) (hk : ∀ a : Nat, ¬ D a → a < H.size → H1[a]? = H[a]?) : HsR g D T Zr Pr nx n rm H1 := ⟨h.1, h.2.1, fun i hi => (h.2.2 i hi).kept hk⟩
theorem SlR.kept (h : SlR g D T Zr Pr sl sv H) (hk : ∀ a : Nat, ¬ D a → a < H.size → H1[a]? = H[a]?) : SlR g D T Zr Pr sl sv H1 := fun k hk2 => (h k hk2).elim (fun y => Or.inl ⟨y.1, y.2.kept hk⟩) Or.inr
theorem HsR.grow (h : HsR g D T Zr Pr nx n rm H) (hD : ∀ a, a < H.size → ¬ D a → ¬ D2 a) : HsR g D2 T Zr Pr nx n rm H := ⟨h.1, h.2.1, fun i hi => (h.2.2 i hi).grow hD⟩
theorem SlR.grow (h : SlR g D T Zr Pr sl sv H) (hD : ∀ a, a < H.size → ¬ D a → ¬ D2 a) : SlR g D2 T Zr Pr sl sv H := fun k hk2 => (h k hk2).elim (fun y => Or.inl ⟨y.1, y.2.grow hD⟩) Or.inr
/-- remembering -/
theorem HsR.rem {t : Nat} (h : HsR g D T Zr Pr nx n rm H) (hT : T2 nx = some t) (hTo : ∀ k, k ≠ nx → T2 k = T k) (hp : PT g D P q H) (hW : WF q) (hZ : WZ q) : HsR g D T2 (upA Zr nx (zOf q)) (upA Pr nx P) ((nx + 1) % 14) (nxtS n) (remA rm n q) H := by
  obtain ⟨h1, h2, h3⟩ := h
  have hto : ∀ k, k ≠ nx → ∀ t, T k = some t → T2 k = some t := fun k hk t ht => (hTo k hk).trans ht
  refine ⟨Nat.mod_lt _ (by omega), ?_, fun i hi => ?_⟩
  · unfold nxtS
    split <;> omega
  · by_cases hn : n < 14
    · have e1 : nxtS n = n + 1 := if_pos hn
      have e2 : remA rm n q = remU rm n q 866 := if_pos hn
      rw [e1] at hi ⊢
      rw [e2, show ((nx + 1) % 14 + 14 - (n + 1) + i) % 14 = (nx + 14 - n + i) % 14 by omega]
      by_cases e : i = n
      · subst e
        rw [show (nx + 14 - i + i) % 14 = nx by omega]
        refine (Ent.mk hT hp hW hZ).eq (fun j hj => ?_)
        show remU rm i q 866 (866 * i + j) = q j
        unfold remU
        rw [if_pos (by omega), Nat.add_sub_cancel_left]
      · refine ((h3 i (by omega)).other (by omega) (hto _ (by omega))).eq (fun j hj => ?_)
        show remU rm n q 866 (866 * i + j) = rm (866 * i + j)
        unfold remU
        rw [if_neg (by omega)]
    · have en : n = 14 := by omega
      subst en
      have e1 : nxtS 14 = 14 := rfl
      have e2 : remA rm 14 q = remU (shfU rm 11258) 13 q 866 := rfl
      rw [e1] at hi ⊢
      rw [e2, show ((nx + 1) % 14 + 14 - 14 + i) % 14 = (nx + 14 - 14 + (i + 1)) % 14 by omega]
      by_cases e : i = 13
      · subst e
        rw [show (nx + 14 - 14 + (13 + 1)) % 14 = nx by omega]
        refine (Ent.mk hT hp hW hZ).eq (fun j hj => ?_)
        show remU (shfU rm 11258) 13 q 866 (866 * 13 + j) = q j
        unfold remU
        rw [if_pos (by omega), Nat.add_sub_cancel_left]
      · refine ((h3 (i + 1) (by omega)).other (by omega) (hto _ (by omega))).eq (fun j hj => ?_)
        show remU (shfU rm 11258) 13 q 866 (866 * i + j) = rm (866 * (i + 1) + j)
        unfold remU
        rw [if_neg (by omega)]
        unfold shfU
        rw [if_pos (by omega), show 866 * i + j + 866 = 866 * (i + 1) + j by omega]
theorem SlR.rem {z : Nat → Int32} {P2 : Nat → Option Nat} (h : SlR g D T Zr Pr sl sv H) (hnx : nx < 14) (hTo : ∀ k, k ≠ nx → T2 k = T k) : SlR g D T2 (upA Zr nx z) (upA Pr nx P2) sl sv H := fun k hk => (h k hk).elim (fun y => Or.inl ⟨y.1, y.2.other (by omega) (fun t ht => (hTo _ (by omega)).trans ht)⟩) (fun y => Or.inr ⟨y.1, (hTo _ (by omega)).trans y.2⟩)
/-- saving -/
theorem SlR.sav {s0 t : Nat} (h : SlR g D T Zr Pr sl sv H) (hs : s0 < 2) (hT : T2 (14 + s0) = some t) (hTo : ∀ k, k ≠ 14 + s0 → T2 k = T k) (hp : PT g D P q H) (hW : WF q) (hZ : WZ q) : SlR g D T2 (upA Zr (14 + s0) (zOf q)) (upA Pr (14 + s0) P) (remU sl s0 q 866) (upd sv s0 (vp_nar .boolean (nI 1))) H := fun k hk => by
  by_cases e : k = s0
  · subst e
    refine Or.inl ⟨by rw [upd_s (α := Nat)]; rfl, (Ent.mk hT hp hW hZ).eq (fun j hj => ?_)⟩
    show remU sl k q 866 (866 * k + j) = q j
    unfold remU
    rw [if_pos (by omega), Nat.add_sub_cancel_left]
  · rw [upd_n e]
    refine (h k hk).elim (fun y => Or.inl ⟨y.1, (y.2.other (by omega) (fun t ht => (hTo _ (by omega)).trans ht)).eq (fun j hj => ?_)⟩) (fun y => Or.inr ⟨y.1, (hTo _ (by omega)).trans y.2⟩)
    show remU sl s0 q 866 (866 * k + j) = sl (866 * k + j)
    unfold remU
    rw [if_neg (by omega)]
theorem HsR.sav {k2 : Nat} {z : Nat → Int32} {P2 : Nat → Option Nat} (h : HsR g D T Zr Pr nx n rm H) (hk : 14 ≤ k2) (hTo : ∀ k, k ≠ k2 → T2 k = T k) : HsR g D T2 (upA Zr k2 z) (upA Pr k2 P2) nx n rm H := ⟨h.1, h.2.1, fun i hi => (h.2.2 i hi).other (by omega) (fun t ht => (hTo _ (by omega)).trans ht)⟩
end CLSS
def CLSi (g : GG) (xb lim : Nat) (D : Nat → Prop) (P T : Nat → Option Nat) (Zr : Nat → Nat → Int32) (Pr : Nat → Nat → Option Nat) (zt : Nat → Int32) (Pt : Nat → Option Nat) (nx : Nat) (q : Nat → Int32) (n : Nat) (rm sl sv tx : Nat → Int32) (ln : Nat) (H : Heap) : Prop :=
  at_ g H xb (eO 8 [.ref (xb + 1), .ref (xb + 10), .ref (xb + 36), .ref (xb + 62), .ref (xb + 64), .ref (xb + 65)]) ∧ TxC g (xb + 1) tx ln H ∧ StAt g (xb + 10) (zOf q) P H ∧ PT g D P q H ∧ StAt g (xb + 36) zt Pt H ∧ at_ g H (xb + 62) (eO 2 [.ref (xb + 63), .int (nI nx), .int (nI n)]) ∧ at_ g H (xb + 63) (eQ g 7 14 T) ∧ at_ g H (xb + 64) (eQ g 7 2 (fun k => T (14 + k))) ∧ PfC g (xb + 65) H ∧ RgAt g D lim T Zr Pr H ∧ HsR g D T Zr Pr nx n rm H ∧ SlR g D T Zr Pr sl sv H ∧ (∀ q9, xb ≤ q9 → q9 < lim → D q9) ∧ (∀ q9, D q9 → q9 < H.size) ∧ WF q ∧ WZ q ∧ xb + 68 ≤ lim ∧ lim ≤ H.size ∧ ln ≤ 60
/-- the class's object at xb tells: the row q, n remembered states rm, slots sl sv, the text tx of length ln -/
def CLS (g : GG) (xb lim : Nat) (q : Nat → Int32) (n : Nat) (rm sl sv tx : Nat → Int32) (ln : Nat) (H : Heap) : Prop := ∃ D P T Zr Pr zt Pt nx, CLSi g xb lim D P T Zr Pr zt Pt nx q n rm sl sv tx ln H
/-- where the class writes, as the law sees it -/
abbrev CF (xb lim : Nat) : Nat → Prop := fun q9 => (xb ≤ q9 ∧ q9 < xb + 68) ∨ lim ≤ q9
section CLST
variable {g : GG} {xb lim : Nat} {D : Nat → Prop} {P T : Nat → Option Nat} {Zr : Nat → Nat → Int32} {Pr : Nat → Nat → Option Nat} {zt : Nat → Int32} {Pt : Nat → Option Nat} {nx : Nat} {q : Nat → Int32} {n : Nat} {rm sl sv tx : Nat → Int32} {ln : Nat} {H H1 : Heap} {F : Nat → Prop}
/-- nothing of the class's has changed -/
theorem CLSi.kept (h : CLSi g xb lim D P T Zr Pr zt Pt nx q n rm sl sv tx ln H) (hf : Fr (ftA (fun _ => False) H.size) H H1) : CLSi g xb lim D P T Zr Pr zt Pt nx q n rm sl sv tx ln H1 := by
  obtain ⟨a1, a2, a3, a4, a5, a6, a7, a8, a9, a10, a11, a12, a13, a14, a15, a16, a17, a18, a19⟩ := h
  have hk : ∀ a : Nat, a < H.size → H1[a]? = H[a]? := fun a ha => hf.2 a ha (fun y => y.elim id (fun y => by omega))
  have hk2 : ∀ a : Nat, ¬ D a → a < H.size → H1[a]? = H[a]? := fun a _ ha => hk a ha
  exact ⟨a1.kept (hk _ a1.lt), a2.kept (fun q9 b1 b2 => hk q9 (by omega)), a3.kept (fun q9 b1 b2 => hk q9 (by omega)), a4.kept hk2, a5.kept (fun q9 b1 b2 => hk q9 (by omega)), a6.kept (hk _ a6.lt), a7.kept (hk _ a7.lt), a8.kept (hk _ a8.lt), a9.kept (fun q9 b1 b2 => hk q9 (by omega)), a10.kept (fun q9 _ b2 => hk q9 b2), a11.kept hk2, a12.kept hk2, a13, fun q9 b1 => Nat.lt_of_lt_of_le (a14 q9 b1) hf.1, a15, a16, a17, Nat.le_trans a18 hf.1, a19⟩
/-- the main state is another -/
theorem CLSi.state {q2 : Nat → Int32} {P2 : Nat → Option Nat} (h : CLSi g xb lim D P T Zr Pr zt Pt nx q n rm sl sv tx ln H) (hf : Fr (ftA (fun q9 => xb + 10 ≤ q9 ∧ q9 < xb + 10 + 26) H.size) H H1) (hS : StAt g (xb + 10) (zOf q2) P2 H1) (hP : PT g D P2 q2 H1) (hW : WF q2) (hZ : WZ q2) : CLSi g xb lim D P2 T Zr Pr zt Pt nx q2 n rm sl sv tx ln H1 := by
  obtain ⟨a1, a2, a3, a4, a5, a6, a7, a8, a9, a10, a11, a12, a13, a14, a15, a16, a17, a18, a19⟩ := h
  have hk : ∀ a : Nat, a < H.size → a < xb + 10 ∨ xb + 36 ≤ a → H1[a]? = H[a]? := fun a ha hb => hf.2 a ha (fun y => y.elim (fun y => by omega) (fun y => by omega))
  have hk2 : ∀ a : Nat, ¬ D a → a < H.size → H1[a]? = H[a]? := fun a hd ha => hk a ha (by
    by_cases y : a < xb + 10 ∨ xb + 36 ≤ a
    · exact y
    · exact absurd (a13 a (by omega) (by omega)) hd)
  exact ⟨a1.kept (hk _ a1.lt (by omega)), a2.kept (fun q9 b1 b2 => hk q9 (by omega) (by omega)), hS, hP, a5.kept (fun q9 b1 b2 => hk q9 (by omega) (by omega)), a6.kept (hk _ a6.lt (by omega)), a7.kept (hk _ a7.lt (by omega)), a8.kept (hk _ a8.lt (by omega)), a9.kept (fun q9 b1 b2 => hk q9 (by omega) (by omega)), a10.kept (fun q9 b1 b2 => hk q9 b2 (by omega)), a11.kept hk2, a12.kept hk2, a13, fun q9 b1 => Nat.lt_of_lt_of_le (a14 q9 b1) hf.1, hW, hZ, a17, Nat.le_trans a18 hf.1, a19⟩
/-- the trial state is another -/
theorem CLSi.trial {z2 : Nat → Int32} {P2 : Nat → Option Nat} (h : CLSi g xb lim D P T Zr Pr zt Pt nx q n rm sl sv tx ln H) (hf : Fr (ftA (fun q9 => xb + 36 ≤ q9 ∧ q9 < xb + 36 + 26) H.size) H H1) (hS : StAt g (xb + 36) z2 P2 H1) : CLSi g xb lim D P T Zr Pr z2 P2 nx q n rm sl sv tx ln H1 := by
  obtain ⟨a1, a2, a3, a4, a5, a6, a7, a8, a9, a10, a11, a12, a13, a14, a15, a16, a17, a18, a19⟩ := h
  have hk : ∀ a : Nat, a < H.size → a < xb + 36 ∨ xb + 62 ≤ a → H1[a]? = H[a]? := fun a ha hb => hf.2 a ha (fun y => y.elim (fun y => by omega) (fun y => by omega))
  have hk2 : ∀ a : Nat, ¬ D a → a < H.size → H1[a]? = H[a]? := fun a hd ha => hk a ha (by
    by_cases y : a < xb + 36 ∨ xb + 62 ≤ a
    · exact y
    · exact absurd (a13 a (by omega) (by omega)) hd)
  exact ⟨a1.kept (hk _ a1.lt (by omega)), a2.kept (fun q9 b1 b2 => hk q9 (by omega) (by omega)), a3.kept (fun q9 b1 b2 => hk q9 (by omega) (by omega)), a4.kept hk2, hS, a6.kept (hk _ a6.lt (by omega)), a7.kept (hk _ a7.lt (by omega)), a8.kept (hk _ a8.lt (by omega)), a9.kept (fun q9 b1 b2 => hk q9 (by omega) (by omega)), a10.kept (fun q9 b1 b2 => hk q9 b2 (by omega)), a11.kept hk2, a12.kept hk2, a13, fun q9 b1 => Nat.lt_of_lt_of_le (a14 q9 b1) hf.1, a15, a16, a17, Nat.le_trans a18 hf.1, a19⟩
/-- the text's rows, or the piece finder's, are others -/
theorem CLSi.text {tx2 : Nat → Int32} {ln2 : Nat} (h : CLSi g xb lim D P T Zr Pr zt Pt nx q n rm sl sv tx ln H) (hf : Fr (ftA (fun q9 => xb + 1 ≤ q9 ∧ q9 < xb + 1 + 9) H.size) H H1) (hT : TxC g (xb + 1) tx2 ln2 H1) (hl : ln2 ≤ 60) : CLSi g xb lim D P T Zr Pr zt Pt nx q n rm sl sv tx2 ln2 H1 := by
  obtain ⟨a1, a2, a3, a4, a5, a6, a7, a8, a9, a10, a11, a12, a13, a14, a15, a16, a17, a18, a19⟩ := h
  have hk : ∀ a : Nat, a < H.size → a < xb + 1 ∨ xb + 10 ≤ a → H1[a]? = H[a]? := fun a ha hb => hf.2 a ha (fun y => y.elim (fun y => by omega) (fun y => by omega))
  have hk2 : ∀ a : Nat, ¬ D a → a < H.size → H1[a]? = H[a]? := fun a hd ha => hk a ha (by
    by_cases y : a < xb + 1 ∨ xb + 10 ≤ a
    · exact y
    · exact absurd (a13 a (by omega) (by omega)) hd)
  exact ⟨a1.kept (hk _ a1.lt (by omega)), hT, a3.kept (fun q9 b1 b2 => hk q9 (by omega) (by omega)), a4.kept hk2, a5.kept (fun q9 b1 b2 => hk q9 (by omega) (by omega)), a6.kept (hk _ a6.lt (by omega)), a7.kept (hk _ a7.lt (by omega)), a8.kept (hk _ a8.lt (by omega)), a9.kept (fun q9 b1 b2 => hk q9 (by omega) (by omega)), a10.kept (fun q9 b1 b2 => hk q9 b2 (by omega)), a11.kept hk2, a12.kept hk2, a13, fun q9 b1 => Nat.lt_of_lt_of_le (a14 q9 b1) hf.1, a15, a16, a17, Nat.le_trans a18 hf.1, hl⟩
theorem CLSi.pf (h : CLSi g xb lim D P T Zr Pr zt Pt nx q n rm sl sv tx ln H) (hf : Fr (ftA (fun q9 => xb + 65 ≤ q9 ∧ q9 < xb + 65 + 3) H.size) H H1) (hT : PfC g (xb + 65) H1) : CLSi g xb lim D P T Zr Pr zt Pt nx q n rm sl sv tx ln H1 := by
  obtain ⟨a1, a2, a3, a4, a5, a6, a7, a8, a9, a10, a11, a12, a13, a14, a15, a16, a17, a18, a19⟩ := h
  have hk : ∀ a : Nat, a < H.size → a < xb + 65 ∨ xb + 68 ≤ a → H1[a]? = H[a]? := fun a ha hb => hf.2 a ha (fun y => y.elim (fun y => by omega) (fun y => by omega))
  have hk2 : ∀ a : Nat, ¬ D a → a < H.size → H1[a]? = H[a]? := fun a hd ha => hk a ha (by
    by_cases y : a < xb + 65 ∨ xb + 68 ≤ a
    · exact y
    · exact absurd (a13 a (by omega) (by omega)) hd)
  exact ⟨a1.kept (hk _ a1.lt (by omega)), a2.kept (fun q9 b1 b2 => hk q9 (by omega) (by omega)), a3.kept (fun q9 b1 b2 => hk q9 (by omega) (by omega)), a4.kept hk2, a5.kept (fun q9 b1 b2 => hk q9 (by omega) (by omega)), a6.kept (hk _ a6.lt (by omega)), a7.kept (hk _ a7.lt (by omega)), a8.kept (hk _ a8.lt (by omega)), hT, a10.kept (fun q9 b1 b2 => hk q9 b2 (by omega)), a11.kept hk2, a12.kept hk2, a13, fun q9 b1 => Nat.lt_of_lt_of_le (a14 q9 b1) hf.1, a15, a16, a17, Nat.le_trans a18 hf.1, a19⟩
end CLST
