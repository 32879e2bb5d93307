/-! what the actions keep; the remembered states -/
theorem PT.giv {g : GG} {D : Nat → Prop} {P : Nat → Option Nat} {q : Nat → Int32} {H : Heap} {m c : Nat} {x : Int32} (hp : PT g D P q H) (hq : WF q) (hm : m < 5) (hc : c < 6) : PT g D P (givQ q m c x) H := hp.congr (fun _ _ => rfl) (fun f hf => by
  have e : Same q (givQ q m c x) f := fun j h1 h2 => givQ_off (by omega) (by omega)
  have hz := WF.sz (hq.fr hf)
  exact ⟨e.wd, e.ht, fun k hk => e.cl (by have : k < szF q f := hk; omega)⟩)
theorem sewQ_rel {q : Nat → Int32} {f m : Nat} (hf : f < 3) (hm : m < 5) : ∀ (n : Nat) (qi : Nat → Int32) (i : Nat), SewRel q qi f m i → ∃ i2, SewRel q (sewQ f m n qi) f m i2
  | 0, qi, i, h => ⟨i, h⟩
  | n + 1, qi, i, h => by
    cases hk : sewOk qi f with
    | false => exact ⟨i, by rw [sewQ_f hk]; exact h⟩
    | true =>
      have e : sewQ f m (n + 1) qi = sewQ f m n (sew1 qi f m) := if_pos hk
      rw [e]
      exact sewQ_rel hf hm n _ _ (h.s hf hm (sewOk_t hk).1)
theorem sewE_rel {q : Nat → Int32} {f n : Nat} (hf : f < 3) (hq : WF q) (h0 : 0 < nmQ q) : tnQ q < nmQ q ∧ ∃ qi i, SewRel q qi f (tnQ q) i ∧ sewE f n q = upd qi 1 (nI ((tnQ q + 1) % nmQ q)) := by
  have h5 := hq.2.2.1
  have ht : tnQ q < nmQ q := by rcases hq.2.2.2.1 with z | z <;> omega
  obtain ⟨i, hi⟩ := sewQ_rel hf (show tnQ q < 5 by omega) n q 0 (SewRel.z hq)
  exact ⟨ht, _, i, hi, rfl⟩
theorem sewE_WZ {q : Nat → Int32} {f n : Nat} (hf : f < 3) (hq : WF q) (hz : WZ q) (h0 : 0 < nmQ q) : WZ (sewE f n q) := by
  obtain ⟨ht, qi, i, hr, e⟩ := sewE_rel (n := n) hf hq h0
  rw [e]
  have hnm : nmQ (upd qi 1 (nI ((tnQ q + 1) % nmQ q))) = nmQ q := (qn_eq (upd_n (by omega))).trans hr.2.2.2.2.2.1
  intro k h1 h2
  obtain ⟨a1, a2⟩ := hz k (by omega) h2
  refine ⟨fun c hc => ?_, fun f2 hf2 => ?_⟩
  · rw [upd_n (by omega), hr.2.2.2.2.2.2.2.2.2.1 _ (by omega) (by omega)]
    exact a1 c hc
  · have e1 : byF (upd qi 1 (nI ((tnQ q + 1) % nmQ q))) f2 k = byF qi f2 k := qn_eq (upd_n (by omega))
    rw [e1]
    by_cases ef : f2 = f
    · subst ef
      rw [hr.2.2.2.2.2.2.2.2.2.2 k h2 (by omega)]
      exact a2 f2 hf2
    · rw [(hr.2.2.2.2.1 f2 hf2 ef).by_ h2]
      exact a2 f2 hf2
theorem sewE_nm {q : Nat → Int32} {f n : Nat} (hf : f < 3) (hq : WF q) (h0 : 0 < nmQ q) : nmQ (sewE f n q) = nmQ q := by
  obtain ⟨ht, qi, i, hr, e⟩ := sewE_rel (n := n) hf hq h0
  rw [e]
  exact (qn_eq (upd_n (by omega))).trans hr.2.2.2.2.2.1
theorem emp_WZ {q q2 : Nat → Int32} {f : Nat} (hz : WZ q) (h0 : nmQ q2 = nmQ q) (hr : ∀ j, 15 ≤ j → j < 45 → q2 j = q j) (he : ∀ j, j < 264 → q2 (74 + 264 * f + j) = 0) (hs : ∀ f2, f2 < 3 → f2 ≠ f → Same q q2 f2) : WZ q2 := fun k h1 h2 => by
  obtain ⟨a1, a2⟩ := hz k (by omega) h2
  refine ⟨fun c hc => (hr _ (by omega) (by omega)).trans (a1 c hc), fun f2 hf2 => ?_⟩
  by_cases ef : f2 = f
  · subst ef
    exact qn_nI (n := 0) (he (3 + k) (by omega)) (by omega)
  · exact ((hs f2 hf2 ef).by_ h2).trans (a2 f2 hf2)
theorem tap_WZ {q : Nat → Int32} {f : Nat} (hf : f < 3) (hq : WF q) (hz : WZ q) : WZ (tapQ q f) :=
  emp_WZ hz (qn_eq (tap_off (hq.fr hf) (by omega) (by omega))) (fun j _ _ => tap_off (hq.fr hf) (by omega) (by omega)) (fun j hj => empQ_at hj) (fun f2 hf2 hne j a b => tap_off (hq.fr hf) (by omega) (by omega))
theorem raf_WZ {q : Nat → Int32} {f p : Nat} (hf : f < 3) (hq : WF q) (hz : WZ q) : WZ (rafQ q f p) :=
  emp_WZ hz (qn_eq (raf_off hq hf (by omega) (by omega))) (fun j _ _ => raf_off hq hf (by omega) (by omega)) (fun j hj => empQ_at hj) (fun f2 hf2 hne j a b => raf_off hq hf (by omega) (by omega))
theorem rec_off {q : Nat → Int32} {f a b j : Nat} (hz : szF q f ≤ 256) (hj : j < 74 + 264 * f + 8 ∨ 74 + 264 * f + 264 ≤ j) : recQ q f a b j = q j := by
  unfold recQ
  split
  · rfl
  · exact recU_off (by omega)
theorem rec_WZ {q : Nat → Int32} {f a b : Nat} (hf : f < 3) (hq : WF q) (hz : WZ q) : WZ (recQ q f a b) := by
  have h1 := WF.sz (hq.fr hf)
  refine hz.of (Nat.le_of_eq (qn_eq (rec_off h1 (by omega))).symm) (fun k h2 h3 => ⟨fun c hc => rec_off h1 (by omega), fun f2 hf2 => Or.inl ?_⟩)
  by_cases ef : f2 = f
  · subst ef; exact rec_off h1 (by omega)
  · exact rec_same h1 ef _ (by omega) (by omega)
theorem rec_z {q : Nat → Int32} {f a b : Nat} (hf : f < 3) (hq : WF q) (h0 : swF q f = 0) : ∀ j, j < 98 → zOf q j = zOf (recQ q f a b) j := by
  have h1 := WF.sz (hq.fr hf)
  have hs : ∀ f2, f2 < 3 → f2 ≠ f → Same q (recQ q f a b) f2 := fun f2 hf2 ef => rec_same h1 ef
  have hsw : swF (recQ q f a b) f = swF q f := qn_eq (rec_off h1 (by omega))
  refine z_ext (fun j hj => ?_) (fun c2 hc2 => ?_) (fun c2 hc2 => ?_) (fun f2 hf2 => ?_) (fun f2 hf2 k hk => ?_)
  · rw [zOf_lo hj, zOf_lo hj, rec_off h1 (by omega)]
  · rw [zOf_cQ hc2, zOf_cQ hc2, clQ_sum, clQ_sum, rec_off h1 (by omega)]
    refine congrArg _ (sum_congr (fun f2 hf2 => ?_)).symm
    by_cases ef : f2 = f
    · subst ef
      have e1 : cntC (recQ q f2 a b) f2 c2 0 0 = 0 := rfl
      have e2 : cntC q f2 c2 0 0 = 0 := rfl
      rw [hsw, h0, e1, e2]
    · have h2 := hs f2 hf2 ef
      have h3 := WF.sz (hq.fr hf2)
      have h4 := WF.sw (hq.fr hf2)
      rw [h2.sw, h2.cnt (by omega)]
  · rw [zOf_cG hc2, zOf_cG hc2]
    exact (sum_congr (fun i hi => rec_off h1 (by omega))).symm
  · rw [zOf_fS hf2, zOf_fS hf2]
    by_cases ef : f2 = f
    · subst ef; rw [rec_off h1 (by omega)]
    · rw [hs f2 hf2 ef _ (by omega) (by omega)]
  · rw [zOf_fB hf2 hk, zOf_fB hf2 hk]
    by_cases ef : f2 = f
    · subst ef; rw [rec_off h1 (by omega)]
    · rw [hs f2 hf2 ef _ (by omega) (by omega)]
theorem actQ_WZ {q : Nat → Int32} {d1 d2 d3 d4 : Nat} (h : WF q) (hz : WZ q) (h1 : 0 < d1) (h6 : d1 < 7) : WZ (actQ q d1 d2 d3 d4) := by
  have hnm := h.2.2.1
  cases hb : actB q d1 d2 d3 d4 with
  | false => rw [actQ_f hb]; exact hz
  | true =>
    rw [actQ_t hb]
    rcases (show d1 = 1 ∨ d1 = 2 ∨ d1 = 3 ∨ d1 = 4 ∨ d1 = 5 ∨ d1 = 6 by omega) with rfl | rfl | rfl | rfl | rfl | rfl
    · have z := of_decide_eq_true hb
      exact sewE_WZ z.1 h hz z.2.2.2
    · have z := of_decide_eq_true hb
      exact giv_WZ hz z.1 hnm z.2.1
    · have z := of_decide_eq_true hb
      exact tap_WZ z.1 h hz
    · have z := of_decide_eq_true hb
      exact raf_WZ z.1 h hz
    · exact retO_WZ hz (by omega)
    · have z := of_decide_eq_true hb
      exact rec_WZ z.1 h hz
theorem cmdQ_WZ {q : Nat → Int32} {g : Nat} (h : WF q) (hz : WZ q) : WZ (cmdQ q g) := by
  unfold cmdQ
  split
  · rename_i z
    have y := of_decide_eq_true z
    exact actQ_WZ h hz (by omega) (by omega)
  · exact hz
theorem evQ_WZ {q : Nat → Int32} {r : Nat} (h : WF q) (hz : WZ q) : WZ (evQ q r) := by
  have hnm := h.2.2.1
  have hf : evF r < 3 := Nat.mod_lt _ (by omega)
  unfold evQ
  split
  · exact hz
  · split
    · have := Nat.mod_lt (r / 4) (show 0 < nmQ q by omega)
      exact giv_WZ hz this hnm (Nat.mod_lt _ (by omega))
    · split
      · exact hz
      · have h1 : WF (sewE (evF r) (1 + r / 4 % 9) q) := sewE_WF hf h (by omega)
        have h2 : WZ (sewE (evF r) (1 + r / 4 % 9) q) := sewE_WZ hf h hz (by omega)
        split
        · exact raf_WZ hf h1 h2
        · exact h2
theorem smQ_WZ {q : Nat → Int32} {y : Int64} (h : WF q) (hz : WZ q) : ∀ k, WZ (smQ q y k)
  | 0 => hz
  | k + 1 => evQ_WZ (smQ_WF h k) (smQ_WZ h hz k)
/-! rows that agree -/
def QEq (q q2 : Nat → Int32) : Prop := ∀ j, j < 866 → q2 j = q j
theorem QEq.same {q q2 : Nat → Int32} (h : QEq q q2) {f : Nat} (hf : f < 3) : Same q q2 f := fun j h1 h2 => h j (by omega)
theorem QEq.z {q q2 : Nat → Int32} (h : QEq q q2) (hq : WF q) : ∀ j, j < 98 → zOf q j = zOf q2 j := fun j hj => by
  by_cases e : 68 ≤ j
  · have hs : ∀ f, f < 3 → Same q q2 f := fun f hf => h.same hf
    by_cases a2 : j < 74
    · obtain ⟨c, rfl⟩ : ∃ c, j = 68 + c := ⟨j - 68, by omega⟩
      rw [zOf_cQ (by omega), zOf_cQ (by omega), cl_same (h _ (by omega)) hq hs]
    · by_cases a3 : j < 80
      · obtain ⟨c, rfl⟩ : ∃ c, j = 74 + c := ⟨j - 74, by omega⟩
        rw [zOf_cG (by omega), zOf_cG (by omega)]
        exact (sum_congr (fun i hi => h _ (by omega))).symm
      · by_cases a4 : j < 83
        · obtain ⟨f, rfl⟩ : ∃ f, j = 80 + f := ⟨j - 80, by omega⟩
          rw [zOf_fS (by omega), zOf_fS (by omega), h _ (by omega)]
        · obtain ⟨f, m, rfl, hm⟩ : ∃ f m, j = 83 + 5 * f + m ∧ m < 5 := ⟨(j - 83) / 5, (j - 83) % 5, by omega, by omega⟩
          rw [zOf_fB (by omega) hm, zOf_fB (by omega) hm, h _ (by omega)]
  · rw [zOf_lo (by omega), zOf_lo (by omega), h _ (by omega)]
theorem QEq.wf {q q2 : Nat → Int32} (h : QEq q q2) (hq : WF q) : WF q2 := hq.of (h 0 (by omega)) (h 1 (by omega)) (fun f hf => (h.same hf).wf (hq.fr hf))
theorem QEq.wz {q q2 : Nat → Int32} (h : QEq q q2) (hz : WZ q) : WZ q2 := hz.of (Nat.le_of_eq (qn_eq (h 0 (by omega))).symm) (fun k h2 h3 => ⟨fun c hc => h _ (by omega), fun f2 hf2 => Or.inl (h _ (by omega))⟩)
theorem PT.qeq {g : GG} {D : Nat → Prop} {P : Nat → Option Nat} {q q2 : Nat → Int32} {H : Heap} (hp : PT g D P q H) (hq : WF q) (h : QEq q q2) : PT g D P q2 H := hp.congr (fun _ _ => rfl) (fun f hf => by
  have e := h.same hf
  have hz := WF.sz (hq.fr hf)
  exact ⟨e.wd, e.ht, fun k hk => e.cl (by have : k < szF q f := hk; omega)⟩)
/-- D grows by new cells -/
theorem PT.grow {g : GG} {D D2 : Nat → Prop} {P : Nat → Option Nat} {q : Nat → Int32} {H : Heap} (hp : PT g D P q H) (h : ∀ a, a < H.size → ¬ D a → ¬ D2 a) : PT g D2 P q H := fun f hf => by
  have h1 := hp f hf
  cases hpf : P f with
  | none => rw [hpf] at h1; exact h1
  | some p =>
    rw [hpf] at h1
    obtain ⟨b, h2, h3, h4⟩ := h1
    exact ⟨b, h _ h4.1.lt h2, h _ h4.2.1.lt h3, h4⟩
/-- the states that are kept: 14 in the ring, 2 in the slots -/
def RgAt (g : GG) (D : Nat → Prop) (lim : Nat) (T : Nat → Option Nat) (Zr : Nat → Nat → Int32) (Pr : Nat → Nat → Option Nat) (H : Heap) : Prop := ∀ k, k < 16 → ∀ t, T k = some t → lim ≤ t ∧ StAt g t (Zr k) (Pr k) H ∧ (∀ q9, t ≤ q9 → q9 < t + 26 → D q9) ∧ ∀ k2, k2 < 16 → k2 ≠ k → ∀ t2, T k2 = some t2 → t + 26 ≤ t2 ∨ t2 + 26 ≤ t
def upA {A : Type} (f : Nat → A) (k : Nat) (x : A) : Nat → A := fun j => if j = k then x else f j
theorem upA_s {A : Type} {f : Nat → A} {k : Nat} {x : A} : upA f k x k = x := if_pos rfl
theorem upA_n {A : Type} {f : Nat → A} {k j : Nat} {x : A} (h : j ≠ k) : upA f k x j = f j := if_neg h
section RGS
variable {g : GG} {D : Nat → Prop} {lim : Nat} {T : Nat → Option Nat} {Zr : Nat → Nat → Int32} {Pr : Nat → Nat → Option Nat} {H H1 : Heap}
theorem RgAt.kept (h : RgAt g D lim T Zr Pr H) (hk : ∀ q : Nat, lim ≤ q → q < H.size → H1[q]? = H[q]?) : RgAt g D lim T Zr Pr H1 := fun k h1 t h2 => by
  obtain ⟨a1, a2, a3, a4⟩ := h k h1 t h2
  have := a2.lt
  exact ⟨a1, a2.kept (fun q b1 b2 => hk q (by omega) (by omega)), a3, a4⟩
theorem RgAt.keptF {F : Nat → Prop} (h : RgAt g D lim T Zr Pr H) (hf : Fr (ftA F H.size) H H1) (hF : ∀ q, F q → q < lim) : RgAt g D lim T Zr Pr H1 := h.kept (fun q h1 h2 => hf.2 q h2 (fun y => y.elim (fun y => by have := hF q y; omega) (fun y => by omega)))
theorem RgAt.set {k t : Nat} {z : Nat → Int32} {P : Nat → Option Nat} (h : RgAt g D lim T Zr Pr H) (hk : k < 16) (ht : T k = some t) (hf : Fr (ftA (fun q9 => t ≤ q9 ∧ q9 < t + 26) H.size) H H1) (hn : StAt g t z P H1) : RgAt g D lim T (upA Zr k z) (upA Pr k P) H1 := fun k2 h1 t2 h2 => by
  obtain ⟨a1, a2, a3, a4⟩ := h k2 h1 t2 h2
  by_cases e : k2 = k
  · subst e
    rw [ht] at h2
    cases h2
    rw [upA_s, upA_s]
    exact ⟨a1, hn, a3, a4⟩
  · rw [upA_n e, upA_n e]
    have h5 := a4 k hk (fun y => e y.symm) t ht
    exact ⟨a1, a2.keptF hf (fun q b1 b2 => by omega), a3, a4⟩
theorem RgAt.new {k n0 : Nat} {z : Nat → Int32} {P : Nat → Option Nat} {F : Nat → Prop} (h : RgAt g D lim T Zr Pr H) (hk : k < 16) (ht : T k = none) (hf : Fr (ftA F H.size) H H1) (hF : ∀ q, F q → q < lim) (hn0 : H.size = n0) (hlim : lim ≤ n0) (hn : StAt g n0 z P H1) : RgAt g (fun q9 => D q9 ∨ n0 ≤ q9 ∧ q9 < n0 + 26) lim (va_up T k (some n0)) (upA Zr k z) (upA Pr k P) H1 := fun k2 h1 t2 h2 => by
  have hlt : ∀ j t, j < 16 → T j = some t → t + 26 ≤ n0 := fun j t hj hjt => by
    have := (h j hj t hjt).2.1.lt
    omega
  by_cases e : k2 = k
  · subst e
    rw [va_up_s] at h2
    cases h2
    rw [upA_s, upA_s]
    refine ⟨hlim, hn, fun q9 b1 b2 => Or.inr ⟨b1, b2⟩, fun k3 c1 c2 t3 c3 => ?_⟩
    rw [va_up_n c2] at c3
    exact Or.inr (hlt k3 t3 c1 c3)
  · rw [va_up_n e] at h2
    obtain ⟨a1, a2, a3, a4⟩ := h k2 h1 t2 h2
    rw [upA_n e, upA_n e]
    refine ⟨a1, a2.keptF hf (fun q b1 b2 b3 => by have := hF q b3; omega), fun q9 b1 b2 => Or.inl (a3 q9 b1 b2), fun k3 c1 c2 t3 c3 => ?_⟩
    by_cases e3 : k3 = k
    · subst e3
      rw [va_up_s] at c3
      cases c3
      exact Or.inl (hlt k2 t2 h1 h2)
    · rw [va_up_n e3] at c3
      exact a4 k3 c1 c2 t3 c3
end RGS
def row9 (rm : Nat → Int32) (i : Nat) : Nat → Int32 := fun j => rm (866 * i + j)
/-- a kept state tells a row -/
def Ent (g : GG) (D : Nat → Prop) (T : Nat → Option Nat) (Zr : Nat → Nat → Int32) (Pr : Nat → Nat → Option Nat) (k : Nat) (q : Nat → Int32) (H : Heap) : Prop := (∃ t, T k = some t) ∧ ∃ qk, Zr k = zOf qk ∧ PT g D (Pr k) qk H ∧ WF qk ∧ WZ qk ∧ QEq qk q
