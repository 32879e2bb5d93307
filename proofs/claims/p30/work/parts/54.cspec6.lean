/-! remembering, saving, taking back over the whole object -/
theorem CF.a {xb lim q9 : Nat} (h : (xb ≤ q9 ∧ q9 < xb + 68) ∨ lim ≤ q9) : CF xb lim q9 := h
section CSX
variable {g : GG} {xb lim : Nat} {D : Nat → Prop} {P T : Nat → Option Nat} {Zr : Nat → Nat → Int32} {Pr : Nat → Nat → Option Nat} {zt : Nat → Int32} {Pt : Nat → Option Nat} {nx : Nat} {q : Nat → Int32} {n : Nat} {rm sl sv tx : Nat → Int32} {ln : Nat} {H H1 : Heap}
theorem RgAt.set2 {k t : Nat} {z : Nat → Int32} {P : Nat → Option Nat} {F : Nat → Prop} (h : RgAt g D lim T Zr Pr H) (hk : k < 16) (ht : T k = some t) (hf : Fr (ftA F H.size) H H1) (hF : ∀ q, F q → q < lim ∨ t ≤ q ∧ q < t + 26) (hn : StAt g t z P H1) : RgAt g D lim T (upA Zr k z) (upA Pr k P) H1 := fun k2 h1 t2 h2 => by
  obtain ⟨a1, a2, a3, a4⟩ := h k2 h1 t2 h2
  by_cases e : k2 = k
  · subst e
    rw [ht] at h2
    cases h2
    rw [upA_s, upA_s]
    exact ⟨a1, hn, a3, a4⟩
  · rw [upA_n e, upA_n e]
    have h5 := a4 k hk (fun y => e y.symm) t ht
    exact ⟨a1, a2.keptF hf (fun q b1 b2 b3 => by have := hF q b3; omega), a3, a4⟩
/-- a kept state (k) has been written from the main state: where it was already -/
theorem CLSi.wr {k t : Nat} {nx2 n2 : Nat} {rm2 sl2 sv2 : Nat → Int32} (h : CLSi g xb lim D P T Zr Pr zt Pt nx q n rm sl sv tx ln H) (hk : k < 16) (ht : T k = some t) (hf : Fr (ftA (fun q9 => q9 = xb + 62 ∨ t ≤ q9 ∧ q9 < t + 26) H.size) H H1) (hn : StAt g t (zOf q) P H1) (ho : at_ g H1 (xb + 62) (eO 2 [.ref (xb + 63), .int (nI nx2), .int (nI n2)])) (hh : HsR g D T (upA Zr k (zOf q)) (upA Pr k P) nx2 n2 rm2 H) (hs : SlR g D T (upA Zr k (zOf q)) (upA Pr k P) sl2 sv2 H) : CLSi g xb lim D P T (upA Zr k (zOf q)) (upA Pr k P) zt Pt nx2 q n2 rm2 sl2 sv2 tx ln H1 := by
  obtain ⟨a1, a2, a3, a4, a5, a6, a7, a8, a9, a10, a11, a12, a13, a14, a15, a16, a17, a18, a19⟩ := h
  obtain ⟨b1, b2, b3, b4⟩ := a10 k hk t ht
  have hk9 : ∀ a : Nat, a < H.size → a ≠ xb + 62 → a < t ∨ t + 26 ≤ a → H1[a]? = H[a]? := fun a ha h1 h2 => hf.2 a ha (fun y => y.elim (fun y => by omega) (fun y => by omega))
  have hk2 : ∀ a : Nat, ¬ D a → a < H.size → H1[a]? = H[a]? := fun a hd ha => hk9 a ha (fun e => hd (by rw [e]; exact a13 _ (by omega) (by omega))) (by
    by_cases y : a < t ∨ t + 26 ≤ a
    · exact y
    · exact absurd (b3 a (by omega) (by omega)) hd)
  exact ⟨a1.kept (hk9 _ a1.lt (by omega) (by omega)), a2.kept (fun q9 c1 c2 => hk9 q9 (by omega) (by omega) (by omega)), a3.kept (fun q9 c1 c2 => hk9 q9 (by omega) (by omega) (by omega)), a4.kept hk2, a5.kept (fun q9 c1 c2 => hk9 q9 (by omega) (by omega) (by omega)), ho, a7.kept (hk9 _ a7.lt (by omega) (by omega)), a8.kept (hk9 _ a8.lt (by omega) (by omega)), a9.kept (fun q9 c1 c2 => hk9 q9 (by omega) (by omega) (by omega)), a10.set2 hk ht hf (fun q9 y => by omega) hn, hh.kept hk2, hs.kept hk2, a13, fun q9 c1 => Nat.lt_of_lt_of_le (a14 q9 c1) hf.1, a15, a16, a17, Nat.le_trans a18 hf.1, a19⟩
/-- the same, where there was none -/
theorem CLSi.wrN {k n0 : Nat} {nx2 n2 : Nat} {rm2 sl2 sv2 : Nat → Int32} (h : CLSi g xb lim D P T Zr Pr zt Pt nx q n rm sl sv tx ln H) (hk : k < 16) (ht : T k = none) (hn0 : H.size = n0) (hf : Fr (ftA (fun q9 => xb + 62 ≤ q9 ∧ q9 < xb + 65) H.size) H H1) (hn : StAt g n0 (zOf q) P H1) (ho : at_ g H1 (xb + 62) (eO 2 [.ref (xb + 63), .int (nI nx2), .int (nI n2)])) (hr : at_ g H1 (xb + 63) (eQ g 7 14 (va_up T k (some n0)))) (hsa : at_ g H1 (xb + 64) (eQ g 7 2 (fun j => va_up T k (some n0) (14 + j))))
    (hh : HsR g (fun q9 => D q9 ∨ n0 ≤ q9 ∧ q9 < n0 + 26) (va_up T k (some n0)) (upA Zr k (zOf q)) (upA Pr k P) nx2 n2 rm2 H) (hs : SlR g (fun q9 => D q9 ∨ n0 ≤ q9 ∧ q9 < n0 + 26) (va_up T k (some n0)) (upA Zr k (zOf q)) (upA Pr k P) sl2 sv2 H) : CLSi g xb lim (fun q9 => D q9 ∨ n0 ≤ q9 ∧ q9 < n0 + 26) P (va_up T k (some n0)) (upA Zr k (zOf q)) (upA Pr k P) zt Pt nx2 q n2 rm2 sl2 sv2 tx ln H1 := by
  obtain ⟨a1, a2, a3, a4, a5, a6, a7, a8, a9, a10, a11, a12, a13, a14, a15, a16, a17, a18, a19⟩ := h
  have hk9 : ∀ a : Nat, a < H.size → a < xb + 62 ∨ xb + 65 ≤ a → H1[a]? = H[a]? := fun a ha h2 => hf.2 a ha (fun y => y.elim (fun y => by omega) (fun y => by omega))
  have hk3 : ∀ a : Nat, ¬ D a → a < H.size → H1[a]? = H[a]? := fun a hd ha => hk9 a ha (by
    by_cases y : a < xb + 62 ∨ xb + 65 ≤ a
    · exact y
    · exact absurd (a13 a (by omega) (by omega)) hd)
  have hk2 : ∀ a : Nat, ¬ (D a ∨ n0 ≤ a ∧ a < n0 + 26) → a < H.size → H1[a]? = H[a]? := fun a hd ha => hk3 a (fun y => hd (Or.inl y)) ha
  have hDg : ∀ a, a < H1.size → a < H.size → ¬ D a → ¬ (D a ∨ n0 ≤ a ∧ a < n0 + 26) := fun a _ ha hd y => y.elim hd (fun y => by omega)
  have hsz := hn.lt
  exact ⟨a1.kept (hk9 _ a1.lt (by omega)), a2.kept (fun q9 c1 c2 => hk9 q9 (by omega) (by omega)), a3.kept (fun q9 c1 c2 => hk9 q9 (by omega) (by omega)), (a4.grow (fun a ha hd y => y.elim hd (fun y => by omega))).kept hk2, a5.kept (fun q9 c1 c2 => hk9 q9 (by omega) (by omega)), ho, hr, hsa, a9.kept (fun q9 c1 c2 => hk9 q9 (by omega) (by omega)), a10.new hk ht hf (fun q9 y => by omega) hn0 (by omega) hn, hh.kept hk2, hs.kept hk2, fun q9 c1 c2 => Or.inl (a13 q9 c1 c2), fun q9 c1 => c1.elim (fun y => Nat.lt_of_lt_of_le (a14 q9 y) hf.1) (fun y => by omega), a15, a16, a17, Nat.le_trans a18 hf.1, a19⟩
end CSX
def rm_cC_rem : Room := rm_c_X2_remember
theorem cC_rem (l : Launch) (g : GG) (H0 : Heap) (xb lim : Nat) (q : Nat → Int32) (n : Nat) (rm sl sv tx : Nat → Int32) (ln : Nat) (hC : CLS g xb lim q n rm sl sv tx ln H0) : Ct l yX2_remember cX2_remember 2 none rm_c_X2_remember g [.ref (xb + 62), .ref (xb + 10)] H0 (ftA (CF xb lim) H0.size) (fun v H1 => v = none ∧ CLS g xb lim q (nxtS n) (remA rm n q) sl sv tx ln H1) := by
  obtain ⟨D, P, T, Zr, Pr, zt, Pt, nx, hCi⟩ := hC
  have h := hCi
  obtain ⟨a1, a2, a3, a4, a5, a6, a7, a8, a9, a10, a11, a12, a13, a14, a15, a16, a17, a18, a19⟩ := h
  have hnx := a11.1
  cases hT : T nx with
  | some t =>
    obtain ⟨b1, b2, b3, b4⟩ := a10 nx (by omega) t hT
    refine (c_X2_remember l g H0 (xb + 62) nx n T (xb + 10) (zOf q) P t (Zr nx) (Pr nx) a6 a7 hnx a11.2.1 a3 (by omega) hT b2 (by omega) (by omega)).imp (fun q9 y => y.elim (fun y => Or.inl (CF.a (by omega))) Or.inr) (fun v H1 hp hf => ⟨hp.1, ?_⟩)
    exact ⟨D, P, T, _, _, zt, Pt, (nx + 1) % 14, hCi.wr (by omega) hT hf hp.2.2 hp.2.1 (a11.rem hT (fun _ _ => rfl) a4 a15 a16) (a12.rem hnx (fun _ _ => rfl))⟩
  | none =>
    refine (c_X2_remember_n l g H0 (xb + 62) nx n T (xb + 10) (zOf q) P H0.size a6 a7 hnx a11.2.1 a3 (by omega) hT rfl).imp (fun q9 y => y.elim (fun y => Or.inl (CF.a (by omega))) Or.inr) (fun v H1 hp hf => ⟨hp.1, ?_⟩)
    have hDg : ∀ a, a < H0.size → ¬ D a → ¬ (D a ∨ H0.size ≤ a ∧ a < H0.size + 26) := fun a ha hd y => y.elim hd (fun y => by omega)
    have hto : ∀ k, k ≠ nx → va_up T nx (some H0.size) k = T k := fun k hk => va_up_n hk
    have hf2 : Fr (ftA (fun q9 => xb + 62 ≤ q9 ∧ q9 < xb + 65) H0.size) H0 H1 := ⟨hf.1, fun a h1 h2 => hf.2 a h1 (fun y => h2 (y.elim (fun y => Or.inl (by omega)) Or.inr))⟩
    have e64 : at_ g H1 (xb + 64) (eQ g 7 2 (fun j => va_up T nx (some H0.size) (14 + j))) := by
      rw [show (fun j => va_up T nx (some H0.size) (14 + j)) = (fun j => T (14 + j)) from funext (fun j => va_up_n (by omega))]
      exact a8.kept (hf.2 _ a8.lt (fun y => y.elim (fun y => by omega) (fun y => by have := a8.lt; omega)))
    exact ⟨_, P, _, _, _, zt, Pt, (nx + 1) % 14, hCi.wrN (by omega) hT rfl hf2 hp.2.2.1 hp.2.1 hp.2.2.2 e64 ((a11.grow hDg).rem va_up_s hto (a4.grow hDg) a15 a16) ((a12.grow hDg).rem hnx hto)⟩
theorem cC_sav (l : Launch) (g : GG) (H0 : Heap) (xb lim : Nat) (q : Nat → Int32) (n : Nat) (rm sl sv tx : Nat → Int32) (ln : Nat) (k0 : Nat) (hC : CLS g xb lim q n rm sl sv tx ln H0) (hk : k0 < 2) : Ct l yX8_storeAt cX8_storeAt 4 none rm_c_X8_storeAt g [.ref (xb + 64), .int (nI k0), .ref (xb + 10)] H0 (ftA (CF xb lim) H0.size) (fun v H1 => v = none ∧ CLS g xb lim q n rm (remU sl k0 q 866) (upd sv k0 (vp_nar .boolean (nI 1))) tx ln H1) := by
  obtain ⟨D, P, T, Zr, Pr, zt, Pt, nx, hCi⟩ := hC
  have h := hCi
  obtain ⟨a1, a2, a3, a4, a5, a6, a7, a8, a9, a10, a11, a12, a13, a14, a15, a16, a17, a18, a19⟩ := h
  have hnx := a11.1
  cases hT : T (14 + k0) with
  | some t =>
    obtain ⟨b1, b2, b3, b4⟩ := a10 (14 + k0) (by omega) t hT
    refine (c_X8_storeAt l g H0 (xb + 64) 2 (fun k => T (14 + k)) k0 t (Zr (14 + k0)) (Pr (14 + k0)) (xb + 10) (zOf q) P a8 hk (by omega) hT b2 a3 (by omega) (by omega)).imp (fun q9 y => y.elim (fun y => Or.inl (CF.a (by omega))) Or.inr) (fun v H1 hp hf => ⟨hp.1, ?_⟩)
    have hf2 : Fr (ftA (fun q9 => q9 = xb + 62 ∨ t ≤ q9 ∧ q9 < t + 26) H0.size) H0 H1 := ⟨hf.1, fun a h1 h2 => hf.2 a h1 (fun y => h2 (y.elim (fun y => Or.inl (Or.inr y)) Or.inr))⟩
    exact ⟨D, P, T, _, _, zt, Pt, nx, hCi.wr (by omega) hT hf2 hp.2 (a6.kept (hf.2 _ a6.lt (fun y => y.elim (fun y => by omega) (fun y => by have := a6.lt; omega)))) (a11.sav (by omega) (fun _ _ => rfl)) (a12.sav hk hT (fun _ _ => rfl) a4 a15 a16)⟩
  | none =>
    refine (c_X8_storeAt_n l g H0 (xb + 64) 2 (fun k => T (14 + k)) k0 (xb + 10) (zOf q) P H0.size a8 hk (by omega) hT a3 (by omega) rfl).imp (fun q9 y => y.elim (fun y => Or.inl (CF.a (by omega))) Or.inr) (fun v H1 hp hf => ⟨hp.1, ?_⟩)
    have hDg : ∀ a, a < H0.size → ¬ D a → ¬ (D a ∨ H0.size ≤ a ∧ a < H0.size + 26) := fun a ha hd y => y.elim hd (fun y => by omega)
    have hto : ∀ k, k ≠ 14 + k0 → va_up T (14 + k0) (some H0.size) k = T k := fun k hk => va_up_n hk
    have hf2 : Fr (ftA (fun q9 => xb + 62 ≤ q9 ∧ q9 < xb + 65) H0.size) H0 H1 := ⟨hf.1, fun a h1 h2 => hf.2 a h1 (fun y => h2 (y.elim (fun y => Or.inl (by omega)) Or.inr))⟩
    have hk9 : ∀ a : Nat, a < H0.size → a ≠ xb + 64 → H1[a]? = H0[a]? := fun a ha h1 => hf.2 a ha (fun y => y.elim (fun y => h1 y) (fun y => by omega))
    have e64 : at_ g H1 (xb + 64) (eQ g 7 2 (fun j => va_up T (14 + k0) (some H0.size) (14 + j))) := by
      rw [show (fun j => va_up T (14 + k0) (some H0.size) (14 + j)) = va_up (fun k => T (14 + k)) k0 (some H0.size) from funext (fun j => by
        by_cases e : j = k0
        · rw [e, va_up_s, va_up_s]
        · rw [va_up_n e, va_up_n (by omega)])]
      exact hp.2.2
    have e63 : at_ g H1 (xb + 63) (eQ g 7 14 (va_up T (14 + k0) (some H0.size))) := (a7.kept (hk9 _ a7.lt (by omega))).eqQ (fun j hj => (va_up_n (by omega)).symm)
    exact ⟨_, P, _, _, _, zt, Pt, nx, hCi.wrN (by omega) hT rfl hf2 hp.2.1 (a6.kept (hk9 _ a6.lt (by omega))) e63 e64 ((a11.grow hDg).sav (by omega) hto) ((a12.grow hDg).sav hk va_up_s hto (a4.grow hDg) a15 a16)⟩
theorem cC_und (l : Launch) (g : GG) (H0 : Heap) (xb lim : Nat) (q : Nat → Int32) (n : Nat) (rm sl sv tx : Nat → Int32) (ln : Nat) (hC : CLS g xb lim q n rm sl sv tx ln H0) (hn : 0 < n) : Ct l yX2_takeBack cX2_takeBack 3 (some .int) rm_c_X2_takeBack g [.ref (xb + 62), .ref (xb + 10)] H0 (ftA (CF xb lim) H0.size) (fun v H1 => v = some (.int (nI (n - 1))) ∧ CLS g xb lim (row9 rm (n - 1)) (n - 1) rm sl sv tx ln H1) := by
  obtain ⟨D, P, T, Zr, Pr, zt, Pt, nx, hCi⟩ := hC
  have h := hCi
  obtain ⟨a1, a2, a3, a4, a5, a6, a7, a8, a9, a10, a11, a12, a13, a14, a15, a16, a17, a18, a19⟩ := h
  obtain ⟨hnx, hn14, hr⟩ := a11
  have he := hr (n - 1) (by omega)
  rw [show (nx + 14 - n + (n - 1)) % 14 = (nx + 13) % 14 by omega] at he
  obtain ⟨⟨t, hT⟩, qk, e1, e2, e3, e4, e5⟩ := he
  obtain ⟨b1, b2, b3, b4⟩ := a10 ((nx + 13) % 14) (by omega) t hT
  refine (c_X2_takeBack l g H0 (xb + 62) nx n T (xb + 10) (zOf q) P t (Zr ((nx + 13) % 14)) (Pr ((nx + 13) % 14)) a6 a7 hnx hn14 a3 (by omega) hn hT b2 (by omega) (by omega)).imp (fun q9 y => y.elim (fun y => Or.inl (CF.a (by omega))) Or.inr) (fun v H1 hp hf => ⟨hp.1, ?_⟩)
  obtain ⟨p1, p2, p3⟩ := hp
  rw [e1] at p3
  have hk9 : ∀ a : Nat, a < H0.size → a ≠ xb + 62 → a < xb + 10 ∨ xb + 36 ≤ a → H1[a]? = H0[a]? := fun a ha h1 h2 => hf.2 a ha (fun y => y.elim (fun y => by omega) (fun y => by omega))
  have hk2 : ∀ a : Nat, ¬ D a → a < H0.size → H1[a]? = H0[a]? := fun a hd ha => hk9 a ha (fun e => hd (by rw [e]; exact a13 _ (by omega) (by omega))) (by
    by_cases y : a < xb + 10 ∨ xb + 36 ≤ a
    · exact y
    · exact absurd (a13 a (by omega) (by omega)) hd)
  exact ⟨D, _, T, Zr, Pr, zt, Pt, (nx + 13) % 14, a1.kept (hk9 _ a1.lt (by omega) (by omega)), a2.kept (fun q9 c1 c2 => hk9 q9 (by omega) (by omega) (by omega)), p3.congr (e5.z e3) (fun _ _ => rfl), (e2.kept hk2).qeq e3 e5, a5.kept (fun q9 c1 c2 => hk9 q9 (by omega) (by omega) (by omega)), p2, a7.kept (hk9 _ a7.lt (by omega) (by omega)), a8.kept (hk9 _ a8.lt (by omega) (by omega)), a9.kept (fun q9 c1 c2 => hk9 q9 (by omega) (by omega) (by omega)), a10.keptF hf (fun q9 y => by omega), ⟨Nat.mod_lt _ (by omega), by omega, fun i hi => by
    rw [show ((nx + 13) % 14 + 14 - (n - 1) + i) % 14 = (nx + 14 - n + i) % 14 by omega]
    exact (hr i (by omega)).kept hk2⟩, a12.kept hk2, a13, fun q9 c1 => Nat.lt_of_lt_of_le (a14 q9 c1) hf.1, e5.wf e3, e5.wz e4, a17, Nat.le_trans a18 hf.1, a19⟩
/-- what a slot holds -/
theorem CLSi.slot {g : GG} {xb lim : Nat} {D : Nat → Prop} {P T : Nat → Option Nat} {Zr : Nat → Nat → Int32} {Pr : Nat → Nat → Option Nat} {zt : Nat → Int32} {Pt : Nat → Option Nat} {nx : Nat} {q : Nat → Int32} {n : Nat} {rm sl sv tx : Nat → Int32} {ln : Nat} {H : Heap} (h : CLSi g xb lim D P T Zr Pr zt Pt nx q n rm sl sv tx ln H) {k0 : Nat} (hk : k0 < 2) (hv : sv k0 = nI 1) : ∃ t qk, T (14 + k0) = some t ∧ lim ≤ t ∧ StAt g t (zOf qk) (Pr (14 + k0)) H ∧ PT g D (Pr (14 + k0)) qk H ∧ WF qk ∧ WZ qk ∧ QEq qk (row9 sl k0) := by
  obtain ⟨a1, a2, a3, a4, a5, a6, a7, a8, a9, a10, a11, a12, a13, a14, a15, a16, a17, a18, a19⟩ := h
  rcases a12 k0 hk with ⟨_, ⟨t, hT⟩, qk, e1, e2, e3, e4, e5⟩ | ⟨y, _⟩
  · obtain ⟨b1, b2, b3, b4⟩ := a10 (14 + k0) (by omega) t hT
    rw [e1] at b2
    exact ⟨t, qk, hT, b1, b2, e2, e3, e4, e5⟩
  · rw [hv] at y; exact absurd y (by decide)
/-- the main state is another, and all is forgotten -/
theorem CLSi.rest {g : GG} {xb lim : Nat} {D : Nat → Prop} {P T : Nat → Option Nat} {Zr : Nat → Nat → Int32} {Pr : Nat → Nat → Option Nat} {zt : Nat → Int32} {Pt : Nat → Option Nat} {nx : Nat} {q : Nat → Int32} {n : Nat} {rm sl sv tx : Nat → Int32} {ln : Nat} {H H1 : Heap} (h : CLSi g xb lim D P T Zr Pr zt Pt nx q n rm sl sv tx ln H) (hf : Fr (ftA (fun q9 => q9 = xb + 62) H.size) H H1) (ho : at_ g H1 (xb + 62) (eO 2 [.ref (xb + 63), .int (nI nx), .int (nI 0)])) : CLSi g xb lim D P T Zr Pr zt Pt nx q 0 rm sl sv tx ln H1 := by
  obtain ⟨a1, a2, a3, a4, a5, a6, a7, a8, a9, a10, a11, a12, a13, a14, a15, a16, a17, a18, a19⟩ := h
  have hk9 : ∀ a : Nat, a < H.size → a ≠ xb + 62 → H1[a]? = H[a]? := fun a ha h1 => hf.2 a ha (fun y => y.elim (fun y => h1 y) (fun y => by omega))
  have hk2 : ∀ a : Nat, ¬ D a → a < H.size → H1[a]? = H[a]? := fun a hd ha => hk9 a ha (fun e => hd (by rw [e]; exact a13 _ (by omega) (by omega)))
  exact ⟨a1.kept (hk9 _ a1.lt (by omega)), a2.kept (fun q9 c1 c2 => hk9 q9 (by omega) (by omega)), a3.kept (fun q9 c1 c2 => hk9 q9 (by omega) (by omega)), a4.kept hk2, a5.kept (fun q9 c1 c2 => hk9 q9 (by omega) (by omega)), ho, a7.kept (hk9 _ a7.lt (by omega)), a8.kept (hk9 _ a8.lt (by omega)), a9.kept (fun q9 c1 c2 => hk9 q9 (by omega) (by omega)), a10.keptF hf (fun q9 y => by omega), ⟨a11.1, by omega, fun i hi => by omega⟩, a12.kept hk2, a13, fun q9 c1 => Nat.lt_of_lt_of_le (a14 q9 c1) hf.1, a15, a16, a17, Nat.le_trans a18 hf.1, a19⟩
