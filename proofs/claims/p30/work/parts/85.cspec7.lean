/-! remembering over the whole object, the text's rows told -/
theorem cC_remT (l : Launch) (g : GG) (H0 : Heap) (xb lim : Nat) (q : Nat → Int32) (n : Nat) (rm sl sv tx : Nat → Int32) (ln : Nat) (wd ht fi la nx9 di op : Nat → Int32) (oc wh : Int32) (hC : CLS g xb lim q n rm sl sv tx ln H0) (hTx : TxAt g (xb + 1) tx ln wd ht fi la nx9 di op oc wh H0) : Ct l yX2_remember cX2_remember 2 none rm_c_X2_remember g [.ref (xb + 62), .ref (xb + 10)] H0 (ftA (CF xb lim) H0.size) (fun v H1 => v = none ∧ CLS g xb lim q (nxtS n) (remA rm n q) sl sv tx ln H1 ∧ TxAt g (xb + 1) tx ln wd ht fi la nx9 di op oc wh H1) := by
  obtain ⟨D, P, T, Zr, Pr, zt, Pt, nx, hCi⟩ := hC
  have h := hCi
  obtain ⟨a1, a2, a3, a4, a5, a6, a7, a8, a9, a10, a11, a12, a13, a14, a15, a16, a17, a18, a19⟩ := h
  have hnx := a11.1
  cases hT : T nx with
  | some t =>
    obtain ⟨b1, b2, b3, b4⟩ := a10 nx (by omega) t hT
    refine (c_X2_remember l g H0 (xb + 62) nx n T (xb + 10) (zOf q) P t (Zr nx) (Pr nx) a6 a7 hnx a11.2.1 a3 (by omega) hT b2 (by omega) (by omega)).imp (fun q9 y => y.elim (fun y => Or.inl (CF.a (by omega))) Or.inr) (fun v H1 hp hf => ⟨hp.1, ?_, ?_⟩)
    · exact ⟨D, P, T, _, _, zt, Pt, (nx + 1) % 14, hCi.wr (by omega) hT hf hp.2.2 hp.2.1 (a11.rem hT (fun _ _ => rfl) a4 a15 a16) (a12.rem hnx (fun _ _ => rfl))⟩
    · exact hTx.kept (fun q9 c1 c2 => hf.2 q9 (by omega) (fun y => y.elim (fun y => by omega) (fun y => by omega)))
  | none =>
    refine (c_X2_remember_n l g H0 (xb + 62) nx n T (xb + 10) (zOf q) P H0.size a6 a7 hnx a11.2.1 a3 (by omega) hT rfl).imp (fun q9 y => y.elim (fun y => Or.inl (CF.a (by omega))) Or.inr) (fun v H1 hp hf => ⟨hp.1, ?_, ?_⟩)
    · have hDg : ∀ a, a < H0.size → ¬ D a → ¬ (D a ∨ H0.size ≤ a ∧ a < H0.size + 26) := fun a ha hd y => y.elim hd (fun y => by omega)
      have hto : ∀ k, k ≠ nx → va_up T nx (some H0.size) k = T k := fun k hk => va_up_n hk
      have hf2 : Fr (ftA (fun q9 => xb + 62 ≤ q9 ∧ q9 < xb + 65) H0.size) H0 H1 := ⟨hf.1, fun a h1 h2 => hf.2 a h1 (fun y => h2 (y.elim (fun y => Or.inl (by omega)) Or.inr))⟩
      have e64 : at_ g H1 (xb + 64) (eQ g 7 2 (fun j => va_up T nx (some H0.size) (14 + j))) := by
        rw [show (fun j => va_up T nx (some H0.size) (14 + j)) = (fun j => T (14 + j)) from funext (fun j => va_up_n (by omega))]
        exact a8.kept (hf.2 _ a8.lt (fun y => y.elim (fun y => by omega) (fun y => by have := a8.lt; omega)))
      exact ⟨_, P, _, _, _, zt, Pt, (nx + 1) % 14, hCi.wrN (by omega) hT rfl hf2 hp.2.2.1 hp.2.1 hp.2.2.2 e64 ((a11.grow hDg).rem va_up_s hto (a4.grow hDg) a15 a16) ((a12.grow hDg).rem hnx hto)⟩
    · exact hTx.kept (fun q9 c1 c2 => hf.2 q9 (by omega) (fun y => y.elim (fun y => by omega) (fun y => by omega)))
