/-! the class's State: 26 cells side by side from s on, its numbers z, its patterns P -/
theorem Ct.imp {l : Launch} {y : MethodName} {cc : ByteArray} {maxL : Nat} {ret : Option FieldType} {rm : Room} {g : GG} {avs : List Value} {H0 : Heap} {A A2 : Nat → Prop} {post post2 : Option Value → Heap → Prop} (h : Ct l y cc maxL ret rm g avs H0 A post) (hA : ∀ q, A q → A2 q) (hp : ∀ v H1, post v H1 → Fr A H0 H1 → post2 v H1) : Ct l y cc maxL ret rm g avs H0 A2 post2 := by
  unfold Ct Met at h ⊢
  exact MetFree.mono h (fun _ _ h9 => h9) (fun _ _ _ _ _ h9 => h9) (fun a s o t _ hq => by
    obtain ⟨⟨v, h1, h2, h3⟩, L, h4, h5⟩ := hq
    exact ⟨⟨v, h1, hp v _ h2 h3, h3.1, fun q a1 a2 => h3.2 q a1 (fun z => a2 (hA q z))⟩, L, h4, fun q hq => hA _ (h5 q hq)⟩)
def layR (z : Nat → Int32) (b n : Nat) (f : Nat → Int32) : Nat → Int32 := fun j => if b ≤ j ∧ j < b + n then f (j - b) else z j
theorem layR_in {z : Nat → Int32} {b n : Nat} {f : Nat → Int32} {j : Nat} (h : j < n) : layR z b n f (b + j) = f j := by
  unfold layR
  rw [if_pos (by omega), Nat.add_sub_cancel_left]
theorem layR_out {z : Nat → Int32} {b n : Nat} {f : Nat → Int32} {j : Nat} (h : j < b ∨ b + n ≤ j) : layR z b n f j = z j := if_neg (by omega)
theorem layR_upd {z : Nat → Int32} {b n c : Nat} {x : Int32} (hc : c < n) : layR z b n (upd (fun j => z (b + j)) c x) = upd z (b + c) x := by
  funext j
  unfold layR
  by_cases h : b ≤ j ∧ j < b + n
  · rw [if_pos h]
    by_cases e : j = b + c
    · subst e; rw [Nat.add_sub_cancel_left, upd_s (α := Nat), upd_s (α := Nat)]
    · rw [upd_n e, upd_n (by omega)]; show z (b + (j - b)) = _; rw [show b + (j - b) = j by omega]
  · rw [if_neg h, upd_n (by omega)]
def StAt (g : GG) (s : Nat) (z : Nat → Int32) (P : Nat → Option Nat) (H : Heap) : Prop := at_ g H s (eO 6 [.int (z 0), .int (z 1), .int (z 2), .int (z 3), .int (z 4), .ref (s + 1), .ref (s + 2), .ref (s + 3)]) ∧ at_ g H (s + 1) (eQ g 4 5 (fun k => some (s + (4 + 2 * k)))) ∧ at_ g H (s + 2) (eQ g 5 6 (fun k => some (s + (14 + k)))) ∧ at_ g H (s + 3) (eQ g 6 3 (fun k => some (s + (20 + 2 * k)))) ∧ (∀ k, k < 5 → at_ g H (s + (4 + 2 * k)) (eO 3 [.int (z (5 + k)), .int (z (10 + k)), .int (z (45 + k)), .ref (s + (5 + 2 * k))]) ∧ at_ g H (s + (5 + 2 * k)) (eI g 6 (fun j => z (15 + 6 * k + j)))) ∧ (∀ k, k < 6 → at_ g H (s + (14 + k)) (eO 0 [.int (z (50 + k)), .int (z (74 + k)), .int (z (68 + k)), .int (z (56 + k)), .int (z (62 + k))])) ∧ (∀ k, k < 3 → at_ g H (s + (20 + 2 * k)) (eO 1 [va_rf (P k), .int (z (80 + k)), .ref (s + (21 + 2 * k))]) ∧ at_ g H (s + (21 + 2 * k)) (eI g 5 (fun j => z (83 + 5 * k + j))))
section STAT
variable {g : GG} {s : Nat} {z : Nat → Int32} {P : Nat → Option Nat} {H H1 H0 : Heap} {A : Nat → Prop} {locs : List Loc}
theorem StAt.o (h : StAt g s z P H) : at_ g H s (eO 6 [.int (z 0), .int (z 1), .int (z 2), .int (z 3), .int (z 4), .ref (s + 1), .ref (s + 2), .ref (s + 3)]) := h.1
theorem StAt.q1 (h : StAt g s z P H) : at_ g H (s + 1) (eQ g 4 5 (fun k => some (s + (4 + 2 * k)))) := h.2.1
theorem StAt.q2 (h : StAt g s z P H) : at_ g H (s + 2) (eQ g 5 6 (fun k => some (s + (14 + k)))) := h.2.2.1
theorem StAt.q3 (h : StAt g s z P H) : at_ g H (s + 3) (eQ g 6 3 (fun k => some (s + (20 + 2 * k)))) := h.2.2.2.1
theorem StAt.om (h : StAt g s z P H) {k : Nat} (hk : k < 5) : at_ g H (s + (4 + 2 * k)) (eO 3 [.int (z (5 + k)), .int (z (10 + k)), .int (z (45 + k)), .ref (s + (5 + 2 * k))]) := (h.2.2.2.2.1 k hk).1
theorem StAt.om2 (h : StAt g s z P H) {k : Nat} (hk : k < 5) : at_ g H (s + (5 + 2 * k)) (eI g 6 (fun j => z (15 + 6 * k + j))) := (h.2.2.2.2.1 k hk).2
theorem StAt.oc (h : StAt g s z P H) {k : Nat} (hk : k < 6) : at_ g H (s + (14 + k)) (eO 0 [.int (z (50 + k)), .int (z (74 + k)), .int (z (68 + k)), .int (z (56 + k)), .int (z (62 + k))]) := h.2.2.2.2.2.1 k hk
theorem StAt.of (h : StAt g s z P H) {k : Nat} (hk : k < 3) : at_ g H (s + (20 + 2 * k)) (eO 1 [va_rf (P k), .int (z (80 + k)), .ref (s + (21 + 2 * k))]) := (h.2.2.2.2.2.2 k hk).1
theorem StAt.of2 (h : StAt g s z P H) {k : Nat} (hk : k < 3) : at_ g H (s + (21 + 2 * k)) (eI g 5 (fun j => z (83 + 5 * k + j))) := (h.2.2.2.2.2.2 k hk).2
theorem StAt.ofN (h : StAt g s z P H) {k : Nat} (hk : k < 3) (e : P k = none) : at_ g H (s + (20 + 2 * k)) (eO 1 [.null, .int (z (80 + k)), .ref (s + (21 + 2 * k))]) := by have h9 := h.of hk; rw [e] at h9; exact h9
theorem StAt.ofS (h : StAt g s z P H) {k p : Nat} (hk : k < 3) (e : P k = some p) : at_ g H (s + (20 + 2 * k)) (eO 1 [.ref p, .int (z (80 + k)), .ref (s + (21 + 2 * k))]) := by have h9 := h.of hk; rw [e] at h9; exact h9
theorem StAt.lt (h : StAt g s z P H) : s + 25 < H.size := (h.of2 (k := 2) (by omega)).lt
theorem StAt.kept (h : StAt g s z P H) (hk : ∀ q : Nat, s ≤ q → q < s + 26 → H1[q]? = H[q]?) : StAt g s z P H1 := ⟨h.o.kept (hk _ (by omega) (by omega)), h.q1.kept (hk _ (by omega) (by omega)), h.q2.kept (hk _ (by omega) (by omega)), h.q3.kept (hk _ (by omega) (by omega)), fun k h9 => ⟨(h.om h9).kept (hk _ (by omega) (by omega)), (h.om2 h9).kept (hk _ (by omega) (by omega))⟩, fun k h9 => (h.oc h9).kept (hk _ (by omega) (by omega)), fun k h9 => ⟨(h.of h9).kept (hk _ (by omega) (by omega)), (h.of2 h9).kept (hk _ (by omega) (by omega))⟩⟩
theorem StAt.keptF {F : Nat → Prop} (h : StAt g s z P H) (hf : Fr (ftA F H.size) H H1) (hk : ∀ q : Nat, s ≤ q → q < s + 26 → ¬ F q) : StAt g s z P H1 := h.kept (fun q h1 h2 => hf.2 q (by have := h.lt; omega) (fun y => y.elim (hk q h1 h2) (fun y => by have := h.lt; omega)))
theorem StAt.congr {z2 : Nat → Int32} {P2 : Nat → Option Nat} (h : StAt g s z P H) (hz : ∀ j, j < 98 → z j = z2 j) (hP : ∀ k, k < 3 → P k = P2 k) : StAt g s z2 P2 H := by
  refine ⟨?_, h.q1, h.q2, h.q3, fun k hk => ⟨?_, ?_⟩, fun k hk => ?_, fun k hk => ⟨?_, ?_⟩⟩
  · rw [← hz 0 (by omega), ← hz 1 (by omega), ← hz 2 (by omega), ← hz 3 (by omega), ← hz 4 (by omega)]; exact h.o
  · rw [← hz (5 + k) (by omega), ← hz (10 + k) (by omega), ← hz (45 + k) (by omega)]; exact h.om hk
  · exact (h.om2 hk).eqI (fun j hj => hz _ (by omega))
  · rw [← hz (50 + k) (by omega), ← hz (74 + k) (by omega), ← hz (68 + k) (by omega), ← hz (56 + k) (by omega), ← hz (62 + k) (by omega)]; exact h.oc hk
  · rw [← hz (80 + k) (by omega), ← hP k hk]; exact h.of hk
  · exact (h.of2 hk).eqI (fun j hj => hz _ (by omega))
theorem StAt.p_t0 {x : Int32} (h : StAt g s z P H) (hn : at_ g H1 (s) (eO 6 [.int x, .int (z 1), .int (z 2), .int (z 3), .int (z 4), .ref (s + 1), .ref (s + 2), .ref (s + 3)])) (ho : ∀ q : Nat, s ≤ q → q < s + 26 → q ≠ s → H1[q]? = H[q]?) : StAt g s (upd z 0 x) P H1 := by
  refine ⟨?_, h.q1.kept (ho _ (by omega) (by omega) (by omega)), h.q2.kept (ho _ (by omega) (by omega) (by omega)), h.q3.kept (ho _ (by omega) (by omega) (by omega)), fun j hj => ⟨?_, ?_⟩, fun j hj => ?_, fun j hj => ⟨?_, ?_⟩⟩
  · rw [upd_s (α := Nat), upd_n (by omega), upd_n (by omega), upd_n (by omega), upd_n (by omega)]; exact hn
  · rw [upd_n (by omega), upd_n (by omega), upd_n (by omega)]; exact (h.om hj).kept (ho _ (by omega) (by omega) (by omega))
  · exact ((h.om2 hj).kept (ho _ (by omega) (by omega) (by omega))).eqI (fun i hi => (upd_n (by omega)).symm)
  · rw [upd_n (by omega), upd_n (by omega), upd_n (by omega), upd_n (by omega), upd_n (by omega)]; exact (h.oc hj).kept (ho _ (by omega) (by omega) (by omega))
  · rw [upd_n (by omega)]; exact (h.of hj).kept (ho _ (by omega) (by omega) (by omega))
  · exact ((h.of2 hj).kept (ho _ (by omega) (by omega) (by omega))).eqI (fun i hi => (upd_n (by omega)).symm)
theorem StAt.w_t0 {x : Int32} (h : StAt g s z P H) (hw : Wr g A H0 H (s) (eO 6 [.int x, .int (z 1), .int (z 2), .int (z 3), .int (z 4), .ref (s + 1), .ref (s + 2), .ref (s + 3)]) H1 locs) : StAt g s (upd z 0 x) P H1 ∧ va_S A H0 H1 locs := ⟨h.p_t0 hw.1 (fun q _ _ h9 => hw.2.1 q h9), hw.2.2.2⟩
theorem StAt.f_t0 {x : Int32} (h : StAt g s z P H) (hf : Fr (ftA (fun q => q = s) H.size) H H1) (hn : at_ g H1 (s) (eO 6 [.int x, .int (z 1), .int (z 2), .int (z 3), .int (z 4), .ref (s + 1), .ref (s + 2), .ref (s + 3)])) : StAt g s (upd z 0 x) P H1 := h.p_t0 hn (fun q h1 h2 h3 => hf.2 q (by have := h.lt; omega) (fun y => y.elim (fun y => h3 y) (fun y => by have := h.lt; omega)))
theorem StAt.p_t1 {x : Int32} (h : StAt g s z P H) (hn : at_ g H1 (s) (eO 6 [.int (z 0), .int x, .int (z 2), .int (z 3), .int (z 4), .ref (s + 1), .ref (s + 2), .ref (s + 3)])) (ho : ∀ q : Nat, s ≤ q → q < s + 26 → q ≠ s → H1[q]? = H[q]?) : StAt g s (upd z 1 x) P H1 := by
  refine ⟨?_, h.q1.kept (ho _ (by omega) (by omega) (by omega)), h.q2.kept (ho _ (by omega) (by omega) (by omega)), h.q3.kept (ho _ (by omega) (by omega) (by omega)), fun j hj => ⟨?_, ?_⟩, fun j hj => ?_, fun j hj => ⟨?_, ?_⟩⟩
  · rw [upd_n (by omega), upd_s (α := Nat), upd_n (by omega), upd_n (by omega), upd_n (by omega)]; exact hn
  · rw [upd_n (by omega), upd_n (by omega), upd_n (by omega)]; exact (h.om hj).kept (ho _ (by omega) (by omega) (by omega))
  · exact ((h.om2 hj).kept (ho _ (by omega) (by omega) (by omega))).eqI (fun i hi => (upd_n (by omega)).symm)
  · rw [upd_n (by omega), upd_n (by omega), upd_n (by omega), upd_n (by omega), upd_n (by omega)]; exact (h.oc hj).kept (ho _ (by omega) (by omega) (by omega))
  · rw [upd_n (by omega)]; exact (h.of hj).kept (ho _ (by omega) (by omega) (by omega))
  · exact ((h.of2 hj).kept (ho _ (by omega) (by omega) (by omega))).eqI (fun i hi => (upd_n (by omega)).symm)
theorem StAt.w_t1 {x : Int32} (h : StAt g s z P H) (hw : Wr g A H0 H (s) (eO 6 [.int (z 0), .int x, .int (z 2), .int (z 3), .int (z 4), .ref (s + 1), .ref (s + 2), .ref (s + 3)]) H1 locs) : StAt g s (upd z 1 x) P H1 ∧ va_S A H0 H1 locs := ⟨h.p_t1 hw.1 (fun q _ _ h9 => hw.2.1 q h9), hw.2.2.2⟩
theorem StAt.f_t1 {x : Int32} (h : StAt g s z P H) (hf : Fr (ftA (fun q => q = s) H.size) H H1) (hn : at_ g H1 (s) (eO 6 [.int (z 0), .int x, .int (z 2), .int (z 3), .int (z 4), .ref (s + 1), .ref (s + 2), .ref (s + 3)])) : StAt g s (upd z 1 x) P H1 := h.p_t1 hn (fun q h1 h2 h3 => hf.2 q (by have := h.lt; omega) (fun y => y.elim (fun y => h3 y) (fun y => by have := h.lt; omega)))
theorem StAt.p_t2 {x : Int32} (h : StAt g s z P H) (hn : at_ g H1 (s) (eO 6 [.int (z 0), .int (z 1), .int x, .int (z 3), .int (z 4), .ref (s + 1), .ref (s + 2), .ref (s + 3)])) (ho : ∀ q : Nat, s ≤ q → q < s + 26 → q ≠ s → H1[q]? = H[q]?) : StAt g s (upd z 2 x) P H1 := by
  refine ⟨?_, h.q1.kept (ho _ (by omega) (by omega) (by omega)), h.q2.kept (ho _ (by omega) (by omega) (by omega)), h.q3.kept (ho _ (by omega) (by omega) (by omega)), fun j hj => ⟨?_, ?_⟩, fun j hj => ?_, fun j hj => ⟨?_, ?_⟩⟩
  · rw [upd_n (by omega), upd_n (by omega), upd_s (α := Nat), upd_n (by omega), upd_n (by omega)]; exact hn
  · rw [upd_n (by omega), upd_n (by omega), upd_n (by omega)]; exact (h.om hj).kept (ho _ (by omega) (by omega) (by omega))
  · exact ((h.om2 hj).kept (ho _ (by omega) (by omega) (by omega))).eqI (fun i hi => (upd_n (by omega)).symm)
  · rw [upd_n (by omega), upd_n (by omega), upd_n (by omega), upd_n (by omega), upd_n (by omega)]; exact (h.oc hj).kept (ho _ (by omega) (by omega) (by omega))
  · rw [upd_n (by omega)]; exact (h.of hj).kept (ho _ (by omega) (by omega) (by omega))
  · exact ((h.of2 hj).kept (ho _ (by omega) (by omega) (by omega))).eqI (fun i hi => (upd_n (by omega)).symm)
theorem StAt.w_t2 {x : Int32} (h : StAt g s z P H) (hw : Wr g A H0 H (s) (eO 6 [.int (z 0), .int (z 1), .int x, .int (z 3), .int (z 4), .ref (s + 1), .ref (s + 2), .ref (s + 3)]) H1 locs) : StAt g s (upd z 2 x) P H1 ∧ va_S A H0 H1 locs := ⟨h.p_t2 hw.1 (fun q _ _ h9 => hw.2.1 q h9), hw.2.2.2⟩
theorem StAt.f_t2 {x : Int32} (h : StAt g s z P H) (hf : Fr (ftA (fun q => q = s) H.size) H H1) (hn : at_ g H1 (s) (eO 6 [.int (z 0), .int (z 1), .int x, .int (z 3), .int (z 4), .ref (s + 1), .ref (s + 2), .ref (s + 3)])) : StAt g s (upd z 2 x) P H1 := h.p_t2 hn (fun q h1 h2 h3 => hf.2 q (by have := h.lt; omega) (fun y => y.elim (fun y => h3 y) (fun y => by have := h.lt; omega)))
theorem StAt.p_t3 {x : Int32} (h : StAt g s z P H) (hn : at_ g H1 (s) (eO 6 [.int (z 0), .int (z 1), .int (z 2), .int x, .int (z 4), .ref (s + 1), .ref (s + 2), .ref (s + 3)])) (ho : ∀ q : Nat, s ≤ q → q < s + 26 → q ≠ s → H1[q]? = H[q]?) : StAt g s (upd z 3 x) P H1 := by
  refine ⟨?_, h.q1.kept (ho _ (by omega) (by omega) (by omega)), h.q2.kept (ho _ (by omega) (by omega) (by omega)), h.q3.kept (ho _ (by omega) (by omega) (by omega)), fun j hj => ⟨?_, ?_⟩, fun j hj => ?_, fun j hj => ⟨?_, ?_⟩⟩
  · rw [upd_n (by omega), upd_n (by omega), upd_n (by omega), upd_s (α := Nat), upd_n (by omega)]; exact hn
  · rw [upd_n (by omega), upd_n (by omega), upd_n (by omega)]; exact (h.om hj).kept (ho _ (by omega) (by omega) (by omega))
  · exact ((h.om2 hj).kept (ho _ (by omega) (by omega) (by omega))).eqI (fun i hi => (upd_n (by omega)).symm)
  · rw [upd_n (by omega), upd_n (by omega), upd_n (by omega), upd_n (by omega), upd_n (by omega)]; exact (h.oc hj).kept (ho _ (by omega) (by omega) (by omega))
  · rw [upd_n (by omega)]; exact (h.of hj).kept (ho _ (by omega) (by omega) (by omega))
  · exact ((h.of2 hj).kept (ho _ (by omega) (by omega) (by omega))).eqI (fun i hi => (upd_n (by omega)).symm)
theorem StAt.w_t3 {x : Int32} (h : StAt g s z P H) (hw : Wr g A H0 H (s) (eO 6 [.int (z 0), .int (z 1), .int (z 2), .int x, .int (z 4), .ref (s + 1), .ref (s + 2), .ref (s + 3)]) H1 locs) : StAt g s (upd z 3 x) P H1 ∧ va_S A H0 H1 locs := ⟨h.p_t3 hw.1 (fun q _ _ h9 => hw.2.1 q h9), hw.2.2.2⟩
theorem StAt.f_t3 {x : Int32} (h : StAt g s z P H) (hf : Fr (ftA (fun q => q = s) H.size) H H1) (hn : at_ g H1 (s) (eO 6 [.int (z 0), .int (z 1), .int (z 2), .int x, .int (z 4), .ref (s + 1), .ref (s + 2), .ref (s + 3)])) : StAt g s (upd z 3 x) P H1 := h.p_t3 hn (fun q h1 h2 h3 => hf.2 q (by have := h.lt; omega) (fun y => y.elim (fun y => h3 y) (fun y => by have := h.lt; omega)))
theorem StAt.p_t4 {x : Int32} (h : StAt g s z P H) (hn : at_ g H1 (s) (eO 6 [.int (z 0), .int (z 1), .int (z 2), .int (z 3), .int x, .ref (s + 1), .ref (s + 2), .ref (s + 3)])) (ho : ∀ q : Nat, s ≤ q → q < s + 26 → q ≠ s → H1[q]? = H[q]?) : StAt g s (upd z 4 x) P H1 := by
  refine ⟨?_, h.q1.kept (ho _ (by omega) (by omega) (by omega)), h.q2.kept (ho _ (by omega) (by omega) (by omega)), h.q3.kept (ho _ (by omega) (by omega) (by omega)), fun j hj => ⟨?_, ?_⟩, fun j hj => ?_, fun j hj => ⟨?_, ?_⟩⟩
  · rw [upd_n (by omega), upd_n (by omega), upd_n (by omega), upd_n (by omega), upd_s (α := Nat)]; exact hn
  · rw [upd_n (by omega), upd_n (by omega), upd_n (by omega)]; exact (h.om hj).kept (ho _ (by omega) (by omega) (by omega))
  · exact ((h.om2 hj).kept (ho _ (by omega) (by omega) (by omega))).eqI (fun i hi => (upd_n (by omega)).symm)
  · rw [upd_n (by omega), upd_n (by omega), upd_n (by omega), upd_n (by omega), upd_n (by omega)]; exact (h.oc hj).kept (ho _ (by omega) (by omega) (by omega))
  · rw [upd_n (by omega)]; exact (h.of hj).kept (ho _ (by omega) (by omega) (by omega))
  · exact ((h.of2 hj).kept (ho _ (by omega) (by omega) (by omega))).eqI (fun i hi => (upd_n (by omega)).symm)
theorem StAt.w_t4 {x : Int32} (h : StAt g s z P H) (hw : Wr g A H0 H (s) (eO 6 [.int (z 0), .int (z 1), .int (z 2), .int (z 3), .int x, .ref (s + 1), .ref (s + 2), .ref (s + 3)]) H1 locs) : StAt g s (upd z 4 x) P H1 ∧ va_S A H0 H1 locs := ⟨h.p_t4 hw.1 (fun q _ _ h9 => hw.2.1 q h9), hw.2.2.2⟩
theorem StAt.f_t4 {x : Int32} (h : StAt g s z P H) (hf : Fr (ftA (fun q => q = s) H.size) H H1) (hn : at_ g H1 (s) (eO 6 [.int (z 0), .int (z 1), .int (z 2), .int (z 3), .int x, .ref (s + 1), .ref (s + 2), .ref (s + 3)])) : StAt g s (upd z 4 x) P H1 := h.p_t4 hn (fun q h1 h2 h3 => hf.2 q (by have := h.lt; omega) (fun y => y.elim (fun y => h3 y) (fun y => by have := h.lt; omega)))
theorem StAt.p_mS {k : Nat} {x : Int32} (h : StAt g s z P H) (hk : k < 5) (hn : at_ g H1 (s + (4 + 2 * k)) (eO 3 [.int x, .int (z (10 + k)), .int (z (45 + k)), .ref (s + (5 + 2 * k))])) (ho : ∀ q : Nat, s ≤ q → q < s + 26 → q ≠ s + (4 + 2 * k) → H1[q]? = H[q]?) : StAt g s (upd z (5 + k) x) P H1 := by
  refine ⟨?_, h.q1.kept (ho _ (by omega) (by omega) (by omega)), h.q2.kept (ho _ (by omega) (by omega) (by omega)), h.q3.kept (ho _ (by omega) (by omega) (by omega)), fun j hj => ⟨?_, ?_⟩, fun j hj => ?_, fun j hj => ⟨?_, ?_⟩⟩
  · rw [upd_n (by omega), upd_n (by omega), upd_n (by omega), upd_n (by omega), upd_n (by omega)]; exact h.o.kept (ho _ (by omega) (by omega) (by omega))
  · by_cases e : j = k
    · subst e; rw [upd_s (α := Nat), upd_n (by omega), upd_n (by omega)]; exact hn
    · rw [upd_n (by omega), upd_n (by omega), upd_n (by omega)]; exact (h.om hj).kept (ho _ (by omega) (by omega) (by omega))
  · exact ((h.om2 hj).kept (ho _ (by omega) (by omega) (by omega))).eqI (fun i hi => (upd_n (by omega)).symm)
  · rw [upd_n (by omega), upd_n (by omega), upd_n (by omega), upd_n (by omega), upd_n (by omega)]; exact (h.oc hj).kept (ho _ (by omega) (by omega) (by omega))
  · rw [upd_n (by omega)]; exact (h.of hj).kept (ho _ (by omega) (by omega) (by omega))
  · exact ((h.of2 hj).kept (ho _ (by omega) (by omega) (by omega))).eqI (fun i hi => (upd_n (by omega)).symm)
theorem StAt.w_mS {k : Nat} {x : Int32} (h : StAt g s z P H) (hk : k < 5) (hw : Wr g A H0 H (s + (4 + 2 * k)) (eO 3 [.int x, .int (z (10 + k)), .int (z (45 + k)), .ref (s + (5 + 2 * k))]) H1 locs) : StAt g s (upd z (5 + k) x) P H1 ∧ va_S A H0 H1 locs := ⟨h.p_mS hk hw.1 (fun q _ _ h9 => hw.2.1 q h9), hw.2.2.2⟩
theorem StAt.f_mS {k : Nat} {x : Int32} (h : StAt g s z P H) (hk : k < 5) (hf : Fr (ftA (fun q => q = s + (4 + 2 * k)) H.size) H H1) (hn : at_ g H1 (s + (4 + 2 * k)) (eO 3 [.int x, .int (z (10 + k)), .int (z (45 + k)), .ref (s + (5 + 2 * k))])) : StAt g s (upd z (5 + k) x) P H1 := h.p_mS hk hn (fun q h1 h2 h3 => hf.2 q (by have := h.lt; omega) (fun y => y.elim (fun y => h3 y) (fun y => by have := h.lt; omega)))
theorem StAt.p_mP {k : Nat} {x : Int32} (h : StAt g s z P H) (hk : k < 5) (hn : at_ g H1 (s + (4 + 2 * k)) (eO 3 [.int (z (5 + k)), .int x, .int (z (45 + k)), .ref (s + (5 + 2 * k))])) (ho : ∀ q : Nat, s ≤ q → q < s + 26 → q ≠ s + (4 + 2 * k) → H1[q]? = H[q]?) : StAt g s (upd z (10 + k) x) P H1 := by
  refine ⟨?_, h.q1.kept (ho _ (by omega) (by omega) (by omega)), h.q2.kept (ho _ (by omega) (by omega) (by omega)), h.q3.kept (ho _ (by omega) (by omega) (by omega)), fun j hj => ⟨?_, ?_⟩, fun j hj => ?_, fun j hj => ⟨?_, ?_⟩⟩
  · rw [upd_n (by omega), upd_n (by omega), upd_n (by omega), upd_n (by omega), upd_n (by omega)]; exact h.o.kept (ho _ (by omega) (by omega) (by omega))
  · by_cases e : j = k
    · subst e; rw [upd_n (by omega), upd_s (α := Nat), upd_n (by omega)]; exact hn
    · rw [upd_n (by omega), upd_n (by omega), upd_n (by omega)]; exact (h.om hj).kept (ho _ (by omega) (by omega) (by omega))
  · exact ((h.om2 hj).kept (ho _ (by omega) (by omega) (by omega))).eqI (fun i hi => (upd_n (by omega)).symm)
  · rw [upd_n (by omega), upd_n (by omega), upd_n (by omega), upd_n (by omega), upd_n (by omega)]; exact (h.oc hj).kept (ho _ (by omega) (by omega) (by omega))
  · rw [upd_n (by omega)]; exact (h.of hj).kept (ho _ (by omega) (by omega) (by omega))
  · exact ((h.of2 hj).kept (ho _ (by omega) (by omega) (by omega))).eqI (fun i hi => (upd_n (by omega)).symm)
theorem StAt.w_mP {k : Nat} {x : Int32} (h : StAt g s z P H) (hk : k < 5) (hw : Wr g A H0 H (s + (4 + 2 * k)) (eO 3 [.int (z (5 + k)), .int x, .int (z (45 + k)), .ref (s + (5 + 2 * k))]) H1 locs) : StAt g s (upd z (10 + k) x) P H1 ∧ va_S A H0 H1 locs := ⟨h.p_mP hk hw.1 (fun q _ _ h9 => hw.2.1 q h9), hw.2.2.2⟩
theorem StAt.f_mP {k : Nat} {x : Int32} (h : StAt g s z P H) (hk : k < 5) (hf : Fr (ftA (fun q => q = s + (4 + 2 * k)) H.size) H H1) (hn : at_ g H1 (s + (4 + 2 * k)) (eO 3 [.int (z (5 + k)), .int x, .int (z (45 + k)), .ref (s + (5 + 2 * k))])) : StAt g s (upd z (10 + k) x) P H1 := h.p_mP hk hn (fun q h1 h2 h3 => hf.2 q (by have := h.lt; omega) (fun y => y.elim (fun y => h3 y) (fun y => by have := h.lt; omega)))
theorem StAt.p_mR {k : Nat} {x : Int32} (h : StAt g s z P H) (hk : k < 5) (hn : at_ g H1 (s + (4 + 2 * k)) (eO 3 [.int (z (5 + k)), .int (z (10 + k)), .int x, .ref (s + (5 + 2 * k))])) (ho : ∀ q : Nat, s ≤ q → q < s + 26 → q ≠ s + (4 + 2 * k) → H1[q]? = H[q]?) : StAt g s (upd z (45 + k) x) P H1 := by
  refine ⟨?_, h.q1.kept (ho _ (by omega) (by omega) (by omega)), h.q2.kept (ho _ (by omega) (by omega) (by omega)), h.q3.kept (ho _ (by omega) (by omega) (by omega)), fun j hj => ⟨?_, ?_⟩, fun j hj => ?_, fun j hj => ⟨?_, ?_⟩⟩
  · rw [upd_n (by omega), upd_n (by omega), upd_n (by omega), upd_n (by omega), upd_n (by omega)]; exact h.o.kept (ho _ (by omega) (by omega) (by omega))
  · by_cases e : j = k
    · subst e; rw [upd_n (by omega), upd_n (by omega), upd_s (α := Nat)]; exact hn
    · rw [upd_n (by omega), upd_n (by omega), upd_n (by omega)]; exact (h.om hj).kept (ho _ (by omega) (by omega) (by omega))
  · exact ((h.om2 hj).kept (ho _ (by omega) (by omega) (by omega))).eqI (fun i hi => (upd_n (by omega)).symm)
  · rw [upd_n (by omega), upd_n (by omega), upd_n (by omega), upd_n (by omega), upd_n (by omega)]; exact (h.oc hj).kept (ho _ (by omega) (by omega) (by omega))
  · rw [upd_n (by omega)]; exact (h.of hj).kept (ho _ (by omega) (by omega) (by omega))
  · exact ((h.of2 hj).kept (ho _ (by omega) (by omega) (by omega))).eqI (fun i hi => (upd_n (by omega)).symm)
theorem StAt.w_mR {k : Nat} {x : Int32} (h : StAt g s z P H) (hk : k < 5) (hw : Wr g A H0 H (s + (4 + 2 * k)) (eO 3 [.int (z (5 + k)), .int (z (10 + k)), .int x, .ref (s + (5 + 2 * k))]) H1 locs) : StAt g s (upd z (45 + k) x) P H1 ∧ va_S A H0 H1 locs := ⟨h.p_mR hk hw.1 (fun q _ _ h9 => hw.2.1 q h9), hw.2.2.2⟩
theorem StAt.f_mR {k : Nat} {x : Int32} (h : StAt g s z P H) (hk : k < 5) (hf : Fr (ftA (fun q => q = s + (4 + 2 * k)) H.size) H H1) (hn : at_ g H1 (s + (4 + 2 * k)) (eO 3 [.int (z (5 + k)), .int (z (10 + k)), .int x, .ref (s + (5 + 2 * k))])) : StAt g s (upd z (45 + k) x) P H1 := h.p_mR hk hn (fun q h1 h2 h3 => hf.2 q (by have := h.lt; omega) (fun y => y.elim (fun y => h3 y) (fun y => by have := h.lt; omega)))
theorem StAt.p_cS {k : Nat} {x : Int32} (h : StAt g s z P H) (hk : k < 6) (hn : at_ g H1 (s + (14 + k)) (eO 0 [.int x, .int (z (74 + k)), .int (z (68 + k)), .int (z (56 + k)), .int (z (62 + k))])) (ho : ∀ q : Nat, s ≤ q → q < s + 26 → q ≠ s + (14 + k) → H1[q]? = H[q]?) : StAt g s (upd z (50 + k) x) P H1 := by
  refine ⟨?_, h.q1.kept (ho _ (by omega) (by omega) (by omega)), h.q2.kept (ho _ (by omega) (by omega) (by omega)), h.q3.kept (ho _ (by omega) (by omega) (by omega)), fun j hj => ⟨?_, ?_⟩, fun j hj => ?_, fun j hj => ⟨?_, ?_⟩⟩
  · rw [upd_n (by omega), upd_n (by omega), upd_n (by omega), upd_n (by omega), upd_n (by omega)]; exact h.o.kept (ho _ (by omega) (by omega) (by omega))
  · rw [upd_n (by omega), upd_n (by omega), upd_n (by omega)]; exact (h.om hj).kept (ho _ (by omega) (by omega) (by omega))
  · exact ((h.om2 hj).kept (ho _ (by omega) (by omega) (by omega))).eqI (fun i hi => (upd_n (by omega)).symm)
  · by_cases e : j = k
    · subst e; rw [upd_s (α := Nat), upd_n (by omega), upd_n (by omega), upd_n (by omega), upd_n (by omega)]; exact hn
    · rw [upd_n (by omega), upd_n (by omega), upd_n (by omega), upd_n (by omega), upd_n (by omega)]; exact (h.oc hj).kept (ho _ (by omega) (by omega) (by omega))
  · rw [upd_n (by omega)]; exact (h.of hj).kept (ho _ (by omega) (by omega) (by omega))
  · exact ((h.of2 hj).kept (ho _ (by omega) (by omega) (by omega))).eqI (fun i hi => (upd_n (by omega)).symm)
theorem StAt.w_cS {k : Nat} {x : Int32} (h : StAt g s z P H) (hk : k < 6) (hw : Wr g A H0 H (s + (14 + k)) (eO 0 [.int x, .int (z (74 + k)), .int (z (68 + k)), .int (z (56 + k)), .int (z (62 + k))]) H1 locs) : StAt g s (upd z (50 + k) x) P H1 ∧ va_S A H0 H1 locs := ⟨h.p_cS hk hw.1 (fun q _ _ h9 => hw.2.1 q h9), hw.2.2.2⟩
theorem StAt.f_cS {k : Nat} {x : Int32} (h : StAt g s z P H) (hk : k < 6) (hf : Fr (ftA (fun q => q = s + (14 + k)) H.size) H H1) (hn : at_ g H1 (s + (14 + k)) (eO 0 [.int x, .int (z (74 + k)), .int (z (68 + k)), .int (z (56 + k)), .int (z (62 + k))])) : StAt g s (upd z (50 + k) x) P H1 := h.p_cS hk hn (fun q h1 h2 h3 => hf.2 q (by have := h.lt; omega) (fun y => y.elim (fun y => h3 y) (fun y => by have := h.lt; omega)))
theorem StAt.p_cG {k : Nat} {x : Int32} (h : StAt g s z P H) (hk : k < 6) (hn : at_ g H1 (s + (14 + k)) (eO 0 [.int (z (50 + k)), .int x, .int (z (68 + k)), .int (z (56 + k)), .int (z (62 + k))])) (ho : ∀ q : Nat, s ≤ q → q < s + 26 → q ≠ s + (14 + k) → H1[q]? = H[q]?) : StAt g s (upd z (74 + k) x) P H1 := by
  refine ⟨?_, h.q1.kept (ho _ (by omega) (by omega) (by omega)), h.q2.kept (ho _ (by omega) (by omega) (by omega)), h.q3.kept (ho _ (by omega) (by omega) (by omega)), fun j hj => ⟨?_, ?_⟩, fun j hj => ?_, fun j hj => ⟨?_, ?_⟩⟩
  · rw [upd_n (by omega), upd_n (by omega), upd_n (by omega), upd_n (by omega), upd_n (by omega)]; exact h.o.kept (ho _ (by omega) (by omega) (by omega))
  · rw [upd_n (by omega), upd_n (by omega), upd_n (by omega)]; exact (h.om hj).kept (ho _ (by omega) (by omega) (by omega))
  · exact ((h.om2 hj).kept (ho _ (by omega) (by omega) (by omega))).eqI (fun i hi => (upd_n (by omega)).symm)
  · by_cases e : j = k
    · subst e; rw [upd_n (by omega), upd_s (α := Nat), upd_n (by omega), upd_n (by omega), upd_n (by omega)]; exact hn
    · rw [upd_n (by omega), upd_n (by omega), upd_n (by omega), upd_n (by omega), upd_n (by omega)]; exact (h.oc hj).kept (ho _ (by omega) (by omega) (by omega))
  · rw [upd_n (by omega)]; exact (h.of hj).kept (ho _ (by omega) (by omega) (by omega))
  · exact ((h.of2 hj).kept (ho _ (by omega) (by omega) (by omega))).eqI (fun i hi => (upd_n (by omega)).symm)
theorem StAt.w_cG {k : Nat} {x : Int32} (h : StAt g s z P H) (hk : k < 6) (hw : Wr g A H0 H (s + (14 + k)) (eO 0 [.int (z (50 + k)), .int x, .int (z (68 + k)), .int (z (56 + k)), .int (z (62 + k))]) H1 locs) : StAt g s (upd z (74 + k) x) P H1 ∧ va_S A H0 H1 locs := ⟨h.p_cG hk hw.1 (fun q _ _ h9 => hw.2.1 q h9), hw.2.2.2⟩
theorem StAt.f_cG {k : Nat} {x : Int32} (h : StAt g s z P H) (hk : k < 6) (hf : Fr (ftA (fun q => q = s + (14 + k)) H.size) H H1) (hn : at_ g H1 (s + (14 + k)) (eO 0 [.int (z (50 + k)), .int x, .int (z (68 + k)), .int (z (56 + k)), .int (z (62 + k))])) : StAt g s (upd z (74 + k) x) P H1 := h.p_cG hk hn (fun q h1 h2 h3 => hf.2 q (by have := h.lt; omega) (fun y => y.elim (fun y => h3 y) (fun y => by have := h.lt; omega)))
theorem StAt.p_cQ {k : Nat} {x : Int32} (h : StAt g s z P H) (hk : k < 6) (hn : at_ g H1 (s + (14 + k)) (eO 0 [.int (z (50 + k)), .int (z (74 + k)), .int x, .int (z (56 + k)), .int (z (62 + k))])) (ho : ∀ q : Nat, s ≤ q → q < s + 26 → q ≠ s + (14 + k) → H1[q]? = H[q]?) : StAt g s (upd z (68 + k) x) P H1 := by
  refine ⟨?_, h.q1.kept (ho _ (by omega) (by omega) (by omega)), h.q2.kept (ho _ (by omega) (by omega) (by omega)), h.q3.kept (ho _ (by omega) (by omega) (by omega)), fun j hj => ⟨?_, ?_⟩, fun j hj => ?_, fun j hj => ⟨?_, ?_⟩⟩
  · rw [upd_n (by omega), upd_n (by omega), upd_n (by omega), upd_n (by omega), upd_n (by omega)]; exact h.o.kept (ho _ (by omega) (by omega) (by omega))
  · rw [upd_n (by omega), upd_n (by omega), upd_n (by omega)]; exact (h.om hj).kept (ho _ (by omega) (by omega) (by omega))
  · exact ((h.om2 hj).kept (ho _ (by omega) (by omega) (by omega))).eqI (fun i hi => (upd_n (by omega)).symm)
  · by_cases e : j = k
    · subst e; rw [upd_n (by omega), upd_n (by omega), upd_s (α := Nat), upd_n (by omega), upd_n (by omega)]; exact hn
    · rw [upd_n (by omega), upd_n (by omega), upd_n (by omega), upd_n (by omega), upd_n (by omega)]; exact (h.oc hj).kept (ho _ (by omega) (by omega) (by omega))
  · rw [upd_n (by omega)]; exact (h.of hj).kept (ho _ (by omega) (by omega) (by omega))
  · exact ((h.of2 hj).kept (ho _ (by omega) (by omega) (by omega))).eqI (fun i hi => (upd_n (by omega)).symm)
theorem StAt.w_cQ {k : Nat} {x : Int32} (h : StAt g s z P H) (hk : k < 6) (hw : Wr g A H0 H (s + (14 + k)) (eO 0 [.int (z (50 + k)), .int (z (74 + k)), .int x, .int (z (56 + k)), .int (z (62 + k))]) H1 locs) : StAt g s (upd z (68 + k) x) P H1 ∧ va_S A H0 H1 locs := ⟨h.p_cQ hk hw.1 (fun q _ _ h9 => hw.2.1 q h9), hw.2.2.2⟩
theorem StAt.f_cQ {k : Nat} {x : Int32} (h : StAt g s z P H) (hk : k < 6) (hf : Fr (ftA (fun q => q = s + (14 + k)) H.size) H H1) (hn : at_ g H1 (s + (14 + k)) (eO 0 [.int (z (50 + k)), .int (z (74 + k)), .int x, .int (z (56 + k)), .int (z (62 + k))])) : StAt g s (upd z (68 + k) x) P H1 := h.p_cQ hk hn (fun q h1 h2 h3 => hf.2 q (by have := h.lt; omega) (fun y => y.elim (fun y => h3 y) (fun y => by have := h.lt; omega)))
theorem StAt.p_cX {k : Nat} {x : Int32} (h : StAt g s z P H) (hk : k < 6) (hn : at_ g H1 (s + (14 + k)) (eO 0 [.int (z (50 + k)), .int (z (74 + k)), .int (z (68 + k)), .int x, .int (z (62 + k))])) (ho : ∀ q : Nat, s ≤ q → q < s + 26 → q ≠ s + (14 + k) → H1[q]? = H[q]?) : StAt g s (upd z (56 + k) x) P H1 := by
  refine ⟨?_, h.q1.kept (ho _ (by omega) (by omega) (by omega)), h.q2.kept (ho _ (by omega) (by omega) (by omega)), h.q3.kept (ho _ (by omega) (by omega) (by omega)), fun j hj => ⟨?_, ?_⟩, fun j hj => ?_, fun j hj => ⟨?_, ?_⟩⟩
  · rw [upd_n (by omega), upd_n (by omega), upd_n (by omega), upd_n (by omega), upd_n (by omega)]; exact h.o.kept (ho _ (by omega) (by omega) (by omega))
  · rw [upd_n (by omega), upd_n (by omega), upd_n (by omega)]; exact (h.om hj).kept (ho _ (by omega) (by omega) (by omega))
  · exact ((h.om2 hj).kept (ho _ (by omega) (by omega) (by omega))).eqI (fun i hi => (upd_n (by omega)).symm)
  · by_cases e : j = k
    · subst e; rw [upd_n (by omega), upd_n (by omega), upd_n (by omega), upd_s (α := Nat), upd_n (by omega)]; exact hn
    · rw [upd_n (by omega), upd_n (by omega), upd_n (by omega), upd_n (by omega), upd_n (by omega)]; exact (h.oc hj).kept (ho _ (by omega) (by omega) (by omega))
  · rw [upd_n (by omega)]; exact (h.of hj).kept (ho _ (by omega) (by omega) (by omega))
  · exact ((h.of2 hj).kept (ho _ (by omega) (by omega) (by omega))).eqI (fun i hi => (upd_n (by omega)).symm)
theorem StAt.w_cX {k : Nat} {x : Int32} (h : StAt g s z P H) (hk : k < 6) (hw : Wr g A H0 H (s + (14 + k)) (eO 0 [.int (z (50 + k)), .int (z (74 + k)), .int (z (68 + k)), .int x, .int (z (62 + k))]) H1 locs) : StAt g s (upd z (56 + k) x) P H1 ∧ va_S A H0 H1 locs := ⟨h.p_cX hk hw.1 (fun q _ _ h9 => hw.2.1 q h9), hw.2.2.2⟩
theorem StAt.f_cX {k : Nat} {x : Int32} (h : StAt g s z P H) (hk : k < 6) (hf : Fr (ftA (fun q => q = s + (14 + k)) H.size) H H1) (hn : at_ g H1 (s + (14 + k)) (eO 0 [.int (z (50 + k)), .int (z (74 + k)), .int (z (68 + k)), .int x, .int (z (62 + k))])) : StAt g s (upd z (56 + k) x) P H1 := h.p_cX hk hn (fun q h1 h2 h3 => hf.2 q (by have := h.lt; omega) (fun y => y.elim (fun y => h3 y) (fun y => by have := h.lt; omega)))
theorem StAt.p_cR {k : Nat} {x : Int32} (h : StAt g s z P H) (hk : k < 6) (hn : at_ g H1 (s + (14 + k)) (eO 0 [.int (z (50 + k)), .int (z (74 + k)), .int (z (68 + k)), .int (z (56 + k)), .int x])) (ho : ∀ q : Nat, s ≤ q → q < s + 26 → q ≠ s + (14 + k) → H1[q]? = H[q]?) : StAt g s (upd z (62 + k) x) P H1 := by
  refine ⟨?_, h.q1.kept (ho _ (by omega) (by omega) (by omega)), h.q2.kept (ho _ (by omega) (by omega) (by omega)), h.q3.kept (ho _ (by omega) (by omega) (by omega)), fun j hj => ⟨?_, ?_⟩, fun j hj => ?_, fun j hj => ⟨?_, ?_⟩⟩
  · rw [upd_n (by omega), upd_n (by omega), upd_n (by omega), upd_n (by omega), upd_n (by omega)]; exact h.o.kept (ho _ (by omega) (by omega) (by omega))
  · rw [upd_n (by omega), upd_n (by omega), upd_n (by omega)]; exact (h.om hj).kept (ho _ (by omega) (by omega) (by omega))
  · exact ((h.om2 hj).kept (ho _ (by omega) (by omega) (by omega))).eqI (fun i hi => (upd_n (by omega)).symm)
  · by_cases e : j = k
    · subst e; rw [upd_n (by omega), upd_n (by omega), upd_n (by omega), upd_n (by omega), upd_s (α := Nat)]; exact hn
    · rw [upd_n (by omega), upd_n (by omega), upd_n (by omega), upd_n (by omega), upd_n (by omega)]; exact (h.oc hj).kept (ho _ (by omega) (by omega) (by omega))
  · rw [upd_n (by omega)]; exact (h.of hj).kept (ho _ (by omega) (by omega) (by omega))
  · exact ((h.of2 hj).kept (ho _ (by omega) (by omega) (by omega))).eqI (fun i hi => (upd_n (by omega)).symm)
theorem StAt.w_cR {k : Nat} {x : Int32} (h : StAt g s z P H) (hk : k < 6) (hw : Wr g A H0 H (s + (14 + k)) (eO 0 [.int (z (50 + k)), .int (z (74 + k)), .int (z (68 + k)), .int (z (56 + k)), .int x]) H1 locs) : StAt g s (upd z (62 + k) x) P H1 ∧ va_S A H0 H1 locs := ⟨h.p_cR hk hw.1 (fun q _ _ h9 => hw.2.1 q h9), hw.2.2.2⟩
theorem StAt.f_cR {k : Nat} {x : Int32} (h : StAt g s z P H) (hk : k < 6) (hf : Fr (ftA (fun q => q = s + (14 + k)) H.size) H H1) (hn : at_ g H1 (s + (14 + k)) (eO 0 [.int (z (50 + k)), .int (z (74 + k)), .int (z (68 + k)), .int (z (56 + k)), .int x])) : StAt g s (upd z (62 + k) x) P H1 := h.p_cR hk hn (fun q h1 h2 h3 => hf.2 q (by have := h.lt; omega) (fun y => y.elim (fun y => h3 y) (fun y => by have := h.lt; omega)))
theorem StAt.p_fS {k : Nat} {x : Int32} (h : StAt g s z P H) (hk : k < 3) (hn : at_ g H1 (s + (20 + 2 * k)) (eO 1 [va_rf (P k), .int x, .ref (s + (21 + 2 * k))])) (ho : ∀ q : Nat, s ≤ q → q < s + 26 → q ≠ s + (20 + 2 * k) → H1[q]? = H[q]?) : StAt g s (upd z (80 + k) x) P H1 := by
  refine ⟨?_, h.q1.kept (ho _ (by omega) (by omega) (by omega)), h.q2.kept (ho _ (by omega) (by omega) (by omega)), h.q3.kept (ho _ (by omega) (by omega) (by omega)), fun j hj => ⟨?_, ?_⟩, fun j hj => ?_, fun j hj => ⟨?_, ?_⟩⟩
  · rw [upd_n (by omega), upd_n (by omega), upd_n (by omega), upd_n (by omega), upd_n (by omega)]; exact h.o.kept (ho _ (by omega) (by omega) (by omega))
  · rw [upd_n (by omega), upd_n (by omega), upd_n (by omega)]; exact (h.om hj).kept (ho _ (by omega) (by omega) (by omega))
  · exact ((h.om2 hj).kept (ho _ (by omega) (by omega) (by omega))).eqI (fun i hi => (upd_n (by omega)).symm)
  · rw [upd_n (by omega), upd_n (by omega), upd_n (by omega), upd_n (by omega), upd_n (by omega)]; exact (h.oc hj).kept (ho _ (by omega) (by omega) (by omega))
  · by_cases e : j = k
    · subst e; rw [upd_s (α := Nat)]; exact hn
    · rw [upd_n (by omega)]; exact (h.of hj).kept (ho _ (by omega) (by omega) (by omega))
  · exact ((h.of2 hj).kept (ho _ (by omega) (by omega) (by omega))).eqI (fun i hi => (upd_n (by omega)).symm)
theorem StAt.w_fS {k : Nat} {x : Int32} (h : StAt g s z P H) (hk : k < 3) (hw : Wr g A H0 H (s + (20 + 2 * k)) (eO 1 [va_rf (P k), .int x, .ref (s + (21 + 2 * k))]) H1 locs) : StAt g s (upd z (80 + k) x) P H1 ∧ va_S A H0 H1 locs := ⟨h.p_fS hk hw.1 (fun q _ _ h9 => hw.2.1 q h9), hw.2.2.2⟩
theorem StAt.f_fS {k : Nat} {x : Int32} (h : StAt g s z P H) (hk : k < 3) (hf : Fr (ftA (fun q => q = s + (20 + 2 * k)) H.size) H H1) (hn : at_ g H1 (s + (20 + 2 * k)) (eO 1 [va_rf (P k), .int x, .ref (s + (21 + 2 * k))])) : StAt g s (upd z (80 + k) x) P H1 := h.p_fS hk hn (fun q h1 h2 h3 => hf.2 q (by have := h.lt; omega) (fun y => y.elim (fun y => h3 y) (fun y => by have := h.lt; omega)))
theorem va_up_s {f : Nat → Option Nat} {k : Nat} {x : Option Nat} : va_up f k x k = x := by simp [va_up]
theorem va_up_n {f : Nat → Option Nat} {k j : Nat} {x : Option Nat} (h : j ≠ k) : va_up f k x j = f j := by simp [va_up, h]
theorem StAt.p_fPr {k : Nat} {x : Nat} (h : StAt g s z P H) (hk : k < 3) (hn : at_ g H1 (s + (20 + 2 * k)) (eO 1 [.ref x, .int (z (80 + k)), .ref (s + (21 + 2 * k))])) (ho : ∀ q : Nat, s ≤ q → q < s + 26 → q ≠ s + (20 + 2 * k) → H1[q]? = H[q]?) : StAt g s z (va_up P k (some x)) H1 := by
  refine ⟨h.o.kept (ho _ (by omega) (by omega) (by omega)), h.q1.kept (ho _ (by omega) (by omega) (by omega)), h.q2.kept (ho _ (by omega) (by omega) (by omega)), h.q3.kept (ho _ (by omega) (by omega) (by omega)), fun j hj => ⟨(h.om hj).kept (ho _ (by omega) (by omega) (by omega)), (h.om2 hj).kept (ho _ (by omega) (by omega) (by omega))⟩, fun j hj => (h.oc hj).kept (ho _ (by omega) (by omega) (by omega)), fun j hj => ⟨?_, (h.of2 hj).kept (ho _ (by omega) (by omega) (by omega))⟩⟩
  by_cases e : j = k
  · subst e; rw [va_up_s]; exact hn
  · rw [va_up_n e]; exact (h.of hj).kept (ho _ (by omega) (by omega) (by omega))
theorem StAt.w_fPr {k : Nat} {x : Nat} (h : StAt g s z P H) (hk : k < 3) (hw : Wr g A H0 H (s + (20 + 2 * k)) (eO 1 [.ref x, .int (z (80 + k)), .ref (s + (21 + 2 * k))]) H1 locs) : StAt g s z (va_up P k (some x)) H1 ∧ va_S A H0 H1 locs := ⟨h.p_fPr hk hw.1 (fun q _ _ h9 => hw.2.1 q h9), hw.2.2.2⟩
theorem StAt.f_fPr {k : Nat} {x : Nat} (h : StAt g s z P H) (hk : k < 3) (hf : Fr (ftA (fun q => q = s + (20 + 2 * k)) H.size) H H1) (hn : at_ g H1 (s + (20 + 2 * k)) (eO 1 [.ref x, .int (z (80 + k)), .ref (s + (21 + 2 * k))])) : StAt g s z (va_up P k (some x)) H1 := h.p_fPr hk hn (fun q h1 h2 h3 => hf.2 q (by have := h.lt; omega) (fun y => y.elim (fun y => h3 y) (fun y => by have := h.lt; omega)))
theorem StAt.w_fPn {k : Nat} (h : StAt g s z P H) (hk : k < 3) (hw : Wr g A H0 H (s + (20 + 2 * k)) (eO 1 [.null, .int (z (80 + k)), .ref (s + (21 + 2 * k))]) H1 locs) : StAt g s z (va_up P k none) H1 ∧ va_S A H0 H1 locs := by
  have hn := hw.1
  have ho : ∀ q : Nat, s ≤ q → q < s + 26 → q ≠ s + (20 + 2 * k) → H1[q]? = H[q]? := fun q _ _ h9 => hw.2.1 q h9
  refine ⟨?_, hw.2.2.2⟩
  refine ⟨h.o.kept (ho _ (by omega) (by omega) (by omega)), h.q1.kept (ho _ (by omega) (by omega) (by omega)), h.q2.kept (ho _ (by omega) (by omega) (by omega)), h.q3.kept (ho _ (by omega) (by omega) (by omega)), fun j hj => ⟨(h.om hj).kept (ho _ (by omega) (by omega) (by omega)), (h.om2 hj).kept (ho _ (by omega) (by omega) (by omega))⟩, fun j hj => (h.oc hj).kept (ho _ (by omega) (by omega) (by omega)), fun j hj => ⟨?_, (h.of2 hj).kept (ho _ (by omega) (by omega) (by omega))⟩⟩
  by_cases e : j = k
  · subst e; rw [va_up_s]; exact hn
  · rw [va_up_n e]; exact (h.of hj).kept (ho _ (by omega) (by omega) (by omega))
theorem StAt.w_fP {k : Nat} {x : Option Nat} (h : StAt g s z P H) (hk : k < 3) (hw : Wr g A H0 H (s + (20 + 2 * k)) (eO 1 [va_rf x, .int (z (80 + k)), .ref (s + (21 + 2 * k))]) H1 locs) : StAt g s z (va_up P k x) H1 ∧ va_S A H0 H1 locs := by
  cases x with
  | none => exact h.w_fPn hk hw
  | some y => exact h.w_fPr hk hw
theorem StAt.p_mG {k : Nat} {x : Nat → Int32} (h : StAt g s z P H) (hk : k < 5) (hn : at_ g H1 (s + (5 + 2 * k)) (eI g 6 x)) (ho : ∀ q : Nat, s ≤ q → q < s + 26 → q ≠ s + (5 + 2 * k) → H1[q]? = H[q]?) : StAt g s (layR z (15 + 6 * k) 6 x) P H1 := by
  refine ⟨?_, h.q1.kept (ho _ (by omega) (by omega) (by omega)), h.q2.kept (ho _ (by omega) (by omega) (by omega)), h.q3.kept (ho _ (by omega) (by omega) (by omega)), fun j hj => ⟨?_, ?_⟩, fun j hj => ?_, fun j hj => ⟨?_, ?_⟩⟩
  · rw [layR_out (by omega), layR_out (by omega), layR_out (by omega), layR_out (by omega), layR_out (by omega)]; exact h.o.kept (ho _ (by omega) (by omega) (by omega))
  · rw [layR_out (by omega), layR_out (by omega), layR_out (by omega)]; exact (h.om hj).kept (ho _ (by omega) (by omega) (by omega))
  · by_cases e : j = k
    · subst e; exact hn.eqI (fun i hi => (layR_in hi).symm)
    · exact ((h.om2 hj).kept (ho _ (by omega) (by omega) (by omega))).eqI (fun i hi => (layR_out (by omega)).symm)
  · rw [layR_out (by omega), layR_out (by omega), layR_out (by omega), layR_out (by omega), layR_out (by omega)]; exact (h.oc hj).kept (ho _ (by omega) (by omega) (by omega))
  · rw [layR_out (by omega)]; exact (h.of hj).kept (ho _ (by omega) (by omega) (by omega))
  · exact ((h.of2 hj).kept (ho _ (by omega) (by omega) (by omega))).eqI (fun i hi => (layR_out (by omega)).symm)
theorem StAt.w_mG {k : Nat} {x : Nat → Int32} (h : StAt g s z P H) (hk : k < 5) (hw : Wr g A H0 H (s + (5 + 2 * k)) (eI g 6 x) H1 locs) : StAt g s (layR z (15 + 6 * k) 6 x) P H1 ∧ va_S A H0 H1 locs := ⟨h.p_mG hk hw.1 (fun q _ _ h9 => hw.2.1 q h9), hw.2.2.2⟩
theorem StAt.f_mG {k : Nat} {x : Nat → Int32} (h : StAt g s z P H) (hk : k < 5) (hf : Fr (ftA (fun q => q = s + (5 + 2 * k)) H.size) H H1) (hn : at_ g H1 (s + (5 + 2 * k)) (eI g 6 x)) : StAt g s (layR z (15 + 6 * k) 6 x) P H1 := h.p_mG hk hn (fun q h1 h2 h3 => hf.2 q (by have := h.lt; omega) (fun y => y.elim (fun y => h3 y) (fun y => by have := h.lt; omega)))
theorem StAt.p_fB {k : Nat} {x : Nat → Int32} (h : StAt g s z P H) (hk : k < 3) (hn : at_ g H1 (s + (21 + 2 * k)) (eI g 5 x)) (ho : ∀ q : Nat, s ≤ q → q < s + 26 → q ≠ s + (21 + 2 * k) → H1[q]? = H[q]?) : StAt g s (layR z (83 + 5 * k) 5 x) P H1 := by
  refine ⟨?_, h.q1.kept (ho _ (by omega) (by omega) (by omega)), h.q2.kept (ho _ (by omega) (by omega) (by omega)), h.q3.kept (ho _ (by omega) (by omega) (by omega)), fun j hj => ⟨?_, ?_⟩, fun j hj => ?_, fun j hj => ⟨?_, ?_⟩⟩
  · rw [layR_out (by omega), layR_out (by omega), layR_out (by omega), layR_out (by omega), layR_out (by omega)]; exact h.o.kept (ho _ (by omega) (by omega) (by omega))
  · rw [layR_out (by omega), layR_out (by omega), layR_out (by omega)]; exact (h.om hj).kept (ho _ (by omega) (by omega) (by omega))
  · exact ((h.om2 hj).kept (ho _ (by omega) (by omega) (by omega))).eqI (fun i hi => (layR_out (by omega)).symm)
  · rw [layR_out (by omega), layR_out (by omega), layR_out (by omega), layR_out (by omega), layR_out (by omega)]; exact (h.oc hj).kept (ho _ (by omega) (by omega) (by omega))
  · rw [layR_out (by omega)]; exact (h.of hj).kept (ho _ (by omega) (by omega) (by omega))
  · by_cases e : j = k
    · subst e; exact hn.eqI (fun i hi => (layR_in hi).symm)
    · exact ((h.of2 hj).kept (ho _ (by omega) (by omega) (by omega))).eqI (fun i hi => (layR_out (by omega)).symm)
theorem StAt.w_fB {k : Nat} {x : Nat → Int32} (h : StAt g s z P H) (hk : k < 3) (hw : Wr g A H0 H (s + (21 + 2 * k)) (eI g 5 x) H1 locs) : StAt g s (layR z (83 + 5 * k) 5 x) P H1 ∧ va_S A H0 H1 locs := ⟨h.p_fB hk hw.1 (fun q _ _ h9 => hw.2.1 q h9), hw.2.2.2⟩
theorem StAt.f_fB {k : Nat} {x : Nat → Int32} (h : StAt g s z P H) (hk : k < 3) (hf : Fr (ftA (fun q => q = s + (21 + 2 * k)) H.size) H H1) (hn : at_ g H1 (s + (21 + 2 * k)) (eI g 5 x)) : StAt g s (layR z (83 + 5 * k) 5 x) P H1 := h.p_fB hk hn (fun q h1 h2 h3 => hf.2 q (by have := h.lt; omega) (fun y => y.elim (fun y => h3 y) (fun y => by have := h.lt; omega)))
end STAT
/-- a pattern: its object at p, its bytes at b -/
def PatB (g : GG) (p b w h : Nat) (col : Nat → Nat) (H : Heap) : Prop := at_ g H p (eO 4 [.int (nI w), .int (nI h), .ref b]) ∧ at_ g H b (eB g (w * h) (fun k => nI (col k))) ∧ (0 < w ∧ w ≤ 16 ∧ 0 < h ∧ h ≤ 16 ∧ w * h ≤ 256 ∧ ∀ k, k < w * h → col k < 6)
def FP (g : GG) (D : Nat → Prop) (pf : Option Nat) (w h : Nat) (col : Nat → Nat) (H : Heap) : Prop := match pf with
  | none => w = 0 ∧ h = 0
  | some p => ∃ b, ¬ D p ∧ ¬ D b ∧ PatB g p b w h col H
def PT (g : GG) (D : Nat → Prop) (P : Nat → Option Nat) (q : Nat → Int32) (H : Heap) : Prop := ∀ f, f < 3 → FP g D (P f) (wdF q f) (htF q f) (clF q f) H
section PATS
variable {g : GG} {D : Nat → Prop} {P : Nat → Option Nat} {q : Nat → Int32} {H H1 : Heap}
theorem PatB.kept {p b w h : Nat} {col : Nat → Nat} (hb : PatB g p b w h col H) (h1 : H1[p]? = H[p]?) (h2 : H1[b]? = H[b]?) : PatB g p b w h col H1 := ⟨hb.1.kept h1, hb.2.1.kept h2, hb.2.2⟩
theorem PatB.keptF {F : Nat → Prop} {p b w h : Nat} {col : Nat → Nat} (hb : PatB g p b w h col H) (hf : Fr (ftA F H.size) H H1) (h1 : ¬ F p) (h2 : ¬ F b) : PatB g p b w h col H1 := ⟨Fr.keep hf hb.1 h1, Fr.keep hf hb.2.1 h2, hb.2.2⟩
theorem va_rf_nar {C : String} {x : Option Nat} : narrow (.object C) (va_rf x) = va_rf x := by cases x <;> rfl
theorem va_rf_fit {C : String} {x : Option Nat} : fits (.object C) (va_rf x) = true := by cases x <;> rfl
theorem mh_max {p : Program} {l : Launch} {e : Env} {R : Room} {s : State} {m : MethodId} {args : Array Value} {below : List Frame} {meth : Method} {c : Code} {H : Heap} {locs : List Loc} {cells slots : Nat} {Q : State → Prop} {cc : ByteArray} {maxL : Nat} {ret : Option FieldType} {own : String} {g : GG} {pc : Nat} {ls : Array Slot} {rest : List Value} {index : Nat} (hB : Bd p s m meth c cc maxL ret own g) (hcode : Cond.code Lib.Math.max.name Lib.Math.max.code 2 (some .int) ∈ lw_gn) (hini : Cond.initialized "java/lang/Math" ∈ lw_gn) (hlk : Cond.methodLink own index Lib.Math.max.name ∈ lw_gn) (hstat : Cond.static Lib.Math.max.name ∈ lw_gn) (hsize : ls.size = maxL) (hcat : (rest.map fun v => v.category).sum ≤ 8) (hR : 1 ≤ R.frames ∧ 21 ≤ R.locals) (hf : cells ≤ R.cells ∧ slots ≤ R.slots) {x y : Int32} (hdg : decode cc pc = .ok (.invokestatic index, 3)) (kk : W p l e R s m args below meth c H locs cells slots Q (F0 m (pc + 3) ls (.int (if x < y then y else x) :: rest))) : W p l e R s m args below meth c H locs cells slots Q (F0 m pc ls (.int y :: .int x :: rest)) := va_mmax hB.x hB.b (hB.ml.trans hsize.symm) hB.ow (hB.K.2 _ hlk args) (hB.K.2 _ hstat args) (hB.K.2 _ hini args) (hB.K.2 _ hcode args) hR.1 (by omega) hf.1 hf.2 hdg kk
theorem mh_min {p : Program} {l : Launch} {e : Env} {R : Room} {s : State} {m : MethodId} {args : Array Value} {below : List Frame} {meth : Method} {c : Code} {H : Heap} {locs : List Loc} {cells slots : Nat} {Q : State → Prop} {cc : ByteArray} {maxL : Nat} {ret : Option FieldType} {own : String} {g : GG} {pc : Nat} {ls : Array Slot} {rest : List Value} {index : Nat} (hB : Bd p s m meth c cc maxL ret own g) (hcode : Cond.code Lib.Math.min.name Lib.Math.min.code 2 (some .int) ∈ lw_gn) (hini : Cond.initialized "java/lang/Math" ∈ lw_gn) (hlk : Cond.methodLink own index Lib.Math.min.name ∈ lw_gn) (hstat : Cond.static Lib.Math.min.name ∈ lw_gn) (hsize : ls.size = maxL) (hcat : (rest.map fun v => v.category).sum ≤ 8) (hR : 1 ≤ R.frames ∧ 21 ≤ R.locals) (hf : cells ≤ R.cells ∧ slots ≤ R.slots) {x y : Int32} (hdg : decode cc pc = .ok (.invokestatic index, 3)) (kk : W p l e R s m args below meth c H locs cells slots Q (F0 m (pc + 3) ls (.int (if y < x then y else x) :: rest))) : W p l e R s m args below meth c H locs cells slots Q (F0 m pc ls (.int y :: .int x :: rest)) := va_mmin hB.x hB.b (hB.ml.trans hsize.symm) hB.ow (hB.K.2 _ hlk args) (hB.K.2 _ hstat args) (hB.K.2 _ hini args) (hB.K.2 _ hcode args) hR.1 (by omega) hf.1 hf.2 hdg kk
theorem FP.kept {pf : Option Nat} {w h : Nat} {col : Nat → Nat} (hp : FP g D pf w h col H) (hk : ∀ a : Nat, ¬ D a → a < H.size → H1[a]? = H[a]?) : FP g D pf w h col H1 := by
  cases pf with
  | none => exact hp
  | some p =>
    obtain ⟨b, h1, h2, h3⟩ := hp
    exact ⟨b, h1, h2, h3.kept (hk _ h1 h3.1.lt) (hk _ h2 h3.2.1.lt)⟩
theorem PT.kept (hp : PT g D P q H) (hk : ∀ a : Nat, ¬ D a → a < H.size → H1[a]? = H[a]?) : PT g D P q H1 := fun f hf => (hp f hf).kept hk
theorem PT.keptF {F : Nat → Prop} (hp : PT g D P q H) (hf : Fr (ftA F H.size) H H1) (hF : ∀ a, F a → D a) : PT g D P q H1 := hp.kept (fun a h1 h2 => hf.2 a h2 (fun y => y.elim (fun y => h1 (hF a y)) (fun y => by omega)))
theorem FP.congr {pf : Option Nat} {w h : Nat} {col col2 : Nat → Nat} (hp : FP g D pf w h col H) (hc : ∀ k, k < w * h → col2 k = col k) : FP g D pf w h col2 H := by
  cases pf with
  | none => exact hp
  | some p =>
    obtain ⟨b, d1, d2, c1, c2, c3⟩ := hp
    exact ⟨b, d1, d2, c1, c2.eqB (fun j hj => by rw [hc j hj]), c3.1, c3.2.1, c3.2.2.1, c3.2.2.2.1, c3.2.2.2.2.1, fun k hk => by rw [hc k hk]; exact c3.2.2.2.2.2 k hk⟩
theorem PT.congr {q2 : Nat → Int32} {P2 : Nat → Option Nat} (hp : PT g D P q H) (hP : ∀ f, f < 3 → P2 f = P f) (hq : ∀ f, f < 3 → wdF q2 f = wdF q f ∧ htF q2 f = htF q f ∧ ∀ k, k < wdF q f * htF q f → clF q2 f k = clF q f k) : PT g D P2 q2 H := fun f hf => by
  obtain ⟨h1, h2, h3⟩ := hq f hf
  rw [hP f hf, h1, h2]
  exact (hp f hf).congr h3
theorem PT.none0 {f : Nat} (hp : PT g D P q H) (hf : f < 3) (h : P f = none) : szF q f = 0 := by
  have h1 := hp f hf
  rw [h] at h1
  obtain ⟨h2, h3⟩ := h1
  unfold szF
  rw [h2, Nat.zero_mul]
theorem PT.some0 {f p : Nat} (hp : PT g D P q H) (hf : f < 3) (h : P f = some p) : ∃ b, ¬ D p ∧ ¬ D b ∧ PatB g p b (wdF q f) (htF q f) (clF q f) H := by
  have h1 := hp f hf
  rw [h] at h1
  exact h1
theorem PT.pos {f p : Nat} (hp : PT g D P q H) (hf : f < 3) (h : P f = some p) : 0 < szF q f := by
  obtain ⟨b, _, _, _, _, h1, _, h2, _⟩ := hp.some0 hf h
  exact Nat.mul_pos h1 h2
end PATS
def zOf (q : Nat → Int32) : Nat → Int32 := fun j => if j < 68 then q j else if j < 74 then clQ q (j - 68) 3 else if j < 80 then gvnQ q (j - 74) else if j < 83 then q (74 + 264 * (j - 80) + 2) else q (74 + 264 * ((j - 83) / 5) + (3 + (j - 83) % 5))
theorem zOf_lo {q : Nat → Int32} {j : Nat} (h : j < 68) : zOf q j = q j := if_pos h
theorem zOf_cQ {q : Nat → Int32} {c : Nat} (h : c < 6) : zOf q (68 + c) = clQ q c 3 := by
  unfold zOf
  rw [if_neg (by omega), if_pos (by omega), Nat.add_sub_cancel_left]
theorem zOf_cG {q : Nat → Int32} {c : Nat} (h : c < 6) : zOf q (74 + c) = gvnQ q c := by
  unfold zOf
  rw [if_neg (by omega), if_neg (by omega), if_pos (by omega), Nat.add_sub_cancel_left]
theorem zOf_fS {q : Nat → Int32} {f : Nat} (h : f < 3) : zOf q (80 + f) = q (74 + 264 * f + 2) := by
  unfold zOf
  rw [if_neg (by omega), if_neg (by omega), if_neg (by omega), if_pos (by omega), Nat.add_sub_cancel_left]
theorem zOf_fB {q : Nat → Int32} {f m : Nat} (h : f < 3) (hm : m < 5) : zOf q (83 + 5 * f + m) = q (74 + 264 * f + (3 + m)) := by
  unfold zOf
  rw [if_neg (by omega), if_neg (by omega), if_neg (by omega), if_neg (by omega), show (83 + 5 * f + m - 83) / 5 = f by omega, show (83 + 5 * f + m - 83) % 5 = m by omega]
/-- two rows of a state's numbers are the same where it has numbers -/
theorem z_ext {z z2 : Nat → Int32} (h0 : ∀ j, j < 68 → z j = z2 j) (h1 : ∀ c, c < 6 → z (68 + c) = z2 (68 + c)) (h2 : ∀ c, c < 6 → z (74 + c) = z2 (74 + c)) (h3 : ∀ f, f < 3 → z (80 + f) = z2 (80 + f)) (h4 : ∀ f, f < 3 → ∀ m, m < 5 → z (83 + 5 * f + m) = z2 (83 + 5 * f + m)) : ∀ j, j < 98 → z j = z2 j := fun j hj => by
  by_cases a1 : j < 68
  · exact h0 j a1
  · by_cases a2 : j < 74
    · have := h1 (j - 68) (by omega); rwa [show 68 + (j - 68) = j by omega] at this
    · by_cases a3 : j < 80
      · have := h2 (j - 74) (by omega); rwa [show 74 + (j - 74) = j by omega] at this
      · by_cases a4 : j < 83
        · have := h3 (j - 80) (by omega); rwa [show 80 + (j - 80) = j by omega] at this
        · have := h4 ((j - 83) / 5) (by omega) ((j - 83) % 5) (by omega); rwa [show 83 + 5 * ((j - 83) / 5) + (j - 83) % 5 = j by omega] at this
